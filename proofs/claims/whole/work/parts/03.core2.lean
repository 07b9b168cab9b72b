/-! MORE ROWS OF THE SMALL MACHINE -/
theorem r32_of {v : Int} (h : (decide (-2147483648 ≤ v) && decide (v ≤ 2147483647)) = true) : r32 v := by
  simp only [Bool.and_eq_true, decide_eq_true_eq] at h; exact h
theorem r64_of {v : Int} (h : (decide (-9223372036854775808 ≤ v) && decide (v ≤ 9223372036854775807)) = true) : r64 v := by
  simp only [Bool.and_eq_true, decide_eq_true_eq] at h; exact h
/-- a contract out of a walk, of any class -/
theorem Con.ofF {n : Nat} (hn : 0 < n) {y : MethodName} {cc : ByteArray} {nL : Nat} {ret : Option FieldType} {as : List VV} {M : Mem} {Q : Int → Mem → Prop} (hy : plainFor y = true) (hw : wdt as ≤ nL)
    (h : ∀ X : CT, Cx X cc y.cls (n - 1) → Cr X ret Q → X.2.2.1.1 = nL → WM X 0 (lvA 0 as) [] M) : Con n (y, cc, nL, ret) as M Q := by
  intro l g
  refine va_MetF (cc := cc) (maxL := nL) (ret := ret) hy rfl ?_
  intro p e s m args below meth c s₁ B hml hv
  obtain ⟨rfl, hCM, hCa, hP, hK, hS⟩ := hv
  have hts := atoms_spec (ws := .code y cc nL ret :: gd_tbl) B.pre
  have hown : s.vm.findClass y.cls = some m.cls := findClass_of_methodNamed B.named
  rw [lg_entry_eq]
  have hl := lv_entry (as.map (tv g)) (n := nL) (by rw [lg_sl_len]; exact hw)
  rw [← lvA_map] at hl
  exact h ((p, l, e, rmO n, s), (m, (as.map (tv g)).toArray, below, meth, c), (nL, 0, 0, MQ below (QcO g ret Q) (as.map (tv g)).toArray s 0 0 (Ag g)), g)
    ⟨B.exec, B.bytes, hml, hown, fun w hw => hts w (List.mem_cons_of_mem _ hw), hK, hS, by
      show n - 1 + 1 ≤ n; omega, by show 60 * (n - 1) + 60 ≤ 60 * n; omega, Nat.le_refl _, Nat.le_refl _⟩
    ⟨B.returns, B.notSynchronized, rfl⟩ rfl hCM (lvA_can as 0 hCa) (fun _ h => by cases h) s.heap [] _ hP va_S.rf hl
section ROWS2
variable {X : CT} {cc : ByteArray} {own : String} {n pc : Nat} {L : List (Nat × VV)} {S : List VV} {M : Mem}
theorem m_sub (ks : List Nat) {L' : List (Nat × VV)} (hL : ks.filterMap (fun k => L[k]?) = L') (K : WM X pc L' S M) : WM X pc L S M := by
  intro a b c H lo ls hP hS hl
  refine K a (fun q hq => ?_) c H lo ls hP hS ⟨hl.1, hl.2.1, fun q hq => ?_⟩
  · rw [← hL] at hq
    obtain ⟨k, -, hk⟩ := List.mem_filterMap.mp hq
    exact b q (List.mem_of_getElem? hk)
  · obtain ⟨q', hq', rfl⟩ := List.mem_map.mp hq
    rw [← hL] at hq'
    obtain ⟨k, -, hk⟩ := List.mem_filterMap.mp hq'
    exact hl.2.2 _ (List.mem_map.mpr ⟨q', List.mem_of_getElem? hk, rfl⟩)
theorem m_callVi (C : Cx X cc own n) {md : MD} {k o index ci : Nat} {fds : List Nat} {T : u_T} {N : Nat} {as rest : List VV} (hm : vOk md k) (hlk : mLk own index md.1) (ho : shp[o]? = some (.inl (ci, fds))) (hcl : mm_cl[ci]? = some (md.1.cls, T, N)) (hk : as.length = k) (hS0 : S = as.reverse ++ vR o :: rest) (hrest : wdt rest ≤ 8) (hret : ∀ r, rsO md.2.2.2 r = [vI r]) (hd : decode cc pc = .ok (.invokevirtual index, 3))
    (K : Con n md (vR o :: as) M (fun r M' => WM X (pc + 3) L (vI r :: rest) M')) : WM X pc L S M := m_callV C hm hlk ho hcl hk hS0 hrest hd (K.mono fun r M' _ _ h => by rw [hret]; exact h)
theorem m_callVl (C : Cx X cc own n) {md : MD} {k o index ci : Nat} {fds : List Nat} {T : u_T} {N : Nat} {as rest : List VV} (hm : vOk md k) (hlk : mLk own index md.1) (ho : shp[o]? = some (.inl (ci, fds))) (hcl : mm_cl[ci]? = some (md.1.cls, T, N)) (hk : as.length = k) (hS0 : S = as.reverse ++ vR o :: rest) (hrest : wdt rest ≤ 8) (hret : ∀ r, rsO md.2.2.2 r = [vL r]) (hd : decode cc pc = .ok (.invokevirtual index, 3))
    (K : Con n md (vR o :: as) M (fun r M' => WM X (pc + 3) L (vL r :: rest) M')) : WM X pc L S M := m_callV C hm hlk ho hcl hk hS0 hrest hd (K.mono fun r M' _ _ h => by rw [hret]; exact h)
theorem m_callVv (C : Cx X cc own n) {md : MD} {k o index ci : Nat} {fds : List Nat} {T : u_T} {N : Nat} {as rest : List VV} (hm : vOk md k) (hlk : mLk own index md.1) (ho : shp[o]? = some (.inl (ci, fds))) (hcl : mm_cl[ci]? = some (md.1.cls, T, N)) (hk : as.length = k) (hS0 : S = as.reverse ++ vR o :: rest) (hrest : wdt rest ≤ 8) (hret : ∀ r, rsO md.2.2.2 r = []) (hd : decode cc pc = .ok (.invokevirtual index, 3))
    (K : Con n md (vR o :: as) M (fun _ M' => WM X (pc + 3) L rest M')) : WM X pc L S M := m_callV C hm hlk ho hcl hk hS0 hrest hd (K.mono fun r M' _ _ h => by rw [hret]; exact h)
theorem m_callSi (C : Cx X cc own n) {md : MD} {k index : Nat} {as rest : List VV} (hm : sOk md k) (hlk : mLk own index md.1) (hk : as.length = k) (hS0 : S = as.reverse ++ rest) (hrest : wdt rest ≤ 8) (hret : ∀ r, rsO md.2.2.2 r = [vI r]) (hd : decode cc pc = .ok (.invokestatic index, 3))
    (K : Con n md as M (fun r M' => WM X (pc + 3) L (vI r :: rest) M')) : WM X pc L S M := m_callS C hm hlk hk hS0 hrest hd (K.mono fun r M' _ _ h => by rw [hret]; exact h)
theorem m_callSv (C : Cx X cc own n) {md : MD} {k index : Nat} {as rest : List VV} (hm : sOk md k) (hlk : mLk own index md.1) (hk : as.length = k) (hS0 : S = as.reverse ++ rest) (hrest : wdt rest ≤ 8) (hret : ∀ r, rsO md.2.2.2 r = []) (hd : decode cc pc = .ok (.invokestatic index, 3))
    (K : Con n md as M (fun _ M' => WM X (pc + 3) L rest M')) : WM X pc L S M := m_callS C hm hlk hk hS0 hrest hd (K.mono fun r M' _ _ h => by rw [hret]; exact h)
-- the String constant, the static row
theorem m_ldcS (C : Cx X cc "FortyStems$Reader" n) (hd : decode cc pc = .ok (.ldc 99, 2)) (K : WM X (pc + 2) L (vR idS :: S) M) : WM X pc L S M :=
  fun a b c H lo ls hP hS hl => va_ldcS C.1 C.2.1 C.2.2.2.1 C.2.2.2.2.2.2.1.2.2.2.2.1 hd (K a b (c.push trivial) H lo ls hP hS hl)
def un_d (i : Int) : Int := (un_l.getD i.toNat 0).toInt
theorem m_gets (C : Cx X cc own n) {index : Nat} (hlk : Cond.fieldLink own index "FortyStems$Kind" "UNDER" "[I" ∈ gd_tbl) (hd : decode cc pc = .ok (.getstatic index, 3)) (K : WM X (pc + 3) L (vR idU :: S) M) : WM X pc L S M :=
  fun a b c H lo ls hP hS hl => va_gets C.1 C.2.1 C.2.2.2.2.2.2.1.1 hS C.2.2.2.1 (C.2.2.2.2.1 _ hlk) (fun _ h => h) hd (K a b (c.push trivial) H lo ls hP hS hl)
theorem m_und (C : Cx X cc own n) {i : Int} (hin : 0 ≤ i ∧ i < 6) (hd : decode cc pc = .ok (.iaload, 1)) (K : WM X (pc + 1) L (vI (un_d i) :: S) M) : WM X pc L (vI i :: vR idU :: S) M :=
  fun a b c H lo ls hP hS hl => va_ti C.1 C.2.1 C.2.2.2.2.2.2.1.2.1 hS (iN_in c.hd hin) (by
    show Value.int (un_l.getD (Int32.ofInt i).toNatClampNeg 0) = tv X.2.2.2 (vI (un_d i))
    rw [iN_cl c.hd]
    show _ = Value.int (Int32.ofInt (un_d i))
    rw [un_d, Int32.ofInt_toInt]) hd (K a b (c.tl.tl.push (iN_r _)) H lo ls hP hS hl)
def cpM (M : Mem) (src dst : Nat) (sp dp cn : Int) : Mem := upr M dst (fun k => if dp.toNat ≤ k ∧ k < dp.toNat + cn.toNat then M src (sp.toNat + (k - dp.toNat)) else M dst k)
theorem m_copy (C : Cx X cc own n) {src dst N0 N1 index : Nat} {sp dp cn : Int} (h0 : isI src N0) (h1 : isI dst N1) (hb : 0 ≤ sp ∧ 0 ≤ dp ∧ 0 ≤ cn ∧ sp + cn ≤ (N0 : Int) ∧ dp + cn ≤ (N1 : Int)) (hlk : Cond.methodLink own index arraycopyName ∈ gd_tbl) (hnat : Cond.native arraycopyName ∈ gd_tbl) (hst : Cond.static arraycopyName ∈ gd_tbl) (hini : Cond.initialized "java/lang/System" ∈ gd_tbl) (hrest : wdt S ≤ 8) (hd : decode cc pc = .ok (.invokestatic index, 3))
    (K : WM X (pc + 3) L S (cpM M src dst sp dp cn)) : WM X pc L (vI cn :: vI dp :: vR dst :: vI sp :: vR src :: S) M := by
  intro a b c H lo ls hP hS hl
  have c1 : r32 cn := c.hd
  have c2 : r32 dp := c.tl.hd
  have c3 : r32 sp := c.tl.tl.tl.hd
  have hts := C.2.2.2.2.1
  refine va_copyi C.1 C.2.1 (C.2.2.1.trans hl.1.symm) C.2.2.2.1 (hts _ hlk) (hts _ hnat) (hts _ hst) (hts _ hini) C.2.2.2.2.2.1.1 hP (wld_D C.2.2.2.2.2.1.2.2 M) hS src dst 0 0 (ty := .int) (wld_at h0) (wld_at h1) rfl rfl rfl
    (fun e => absurd ((iN_lt c3 r32_0).mp e) (by omega)) (fun e => absurd ((iN_lt c2 r32_0).mp e) (by omega)) (fun e => absurd ((iN_lt c1 r32_0).mp e) (by omega)) (by rw [iN_cl c3, iN_cl c1]; omega) (by rw [iN_cl c2, iN_cl c1]; omega) (fun _ _ => rfl)
    (by have := C.2.2.2.2.2.2.2.1; omega) ?_ hd (fun H1 l1 hP1 _ hS1 => K ?_ b c.tl.tl.tl.tl.tl H1 l1 ls ?_ hS1 hl)
  · have h60 := C.2.2.2.2.2.2.2.2.1
    have hw : ((S.map (tv X.2.2.2)).map fun v => v.category).sum ≤ 8 := by rw [wdt_cat]; exact hrest
    have hnf : nativeFrameWords "java/lang/System" "arraycopy" 5 ≤ 30 := by decide +kernel
    omega
  · intro o k
    unfold cpM upr
    split
    · show r32 (if _ then _ else _)
      split
      · exact a _ _
      · exact a _ _
    · exact a _ _
  · have hset : (wld X.2.2.2 M).set dst (X.2.2.2.2.1 dst, .inl (if (0 : Nat) = 0 then X.2.2.2.2.2.1 else X.2.2.2.2.2.2.1, N1, .inl (va_cpy (fun j => Int32.ofInt (M src j)) (fun j => Int32.ofInt (M dst j)) (Int32.ofInt sp).toNatClampNeg (Int32.ofInt dp).toNatClampNeg (Int32.ofInt cn).toNatClampNeg))) = wld X.2.2.2 (cpM M src dst sp dp cn) := by
      refine wld_set h1 ?_ (fun o' k' h => by unfold cpM upr; rw [if_neg h])
      show Sum.inl (_, N1, Sum.inl _) = Sum.inl (_, N1, Sum.inl _)
      congr 3
      congr 1
      funext j
      unfold cpM upr va_cpy
      rw [if_pos rfl, iN_cl c3, iN_cl c2, iN_cl c1]
      show Int32.ofInt (if _ then _ else _) = if _ then _ else _
      split <;> rfl
    exact hset ▸ hP1
end ROWS2
