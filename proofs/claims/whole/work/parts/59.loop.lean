/-! THE LAW'S LOOP -/
theorem an_31 (x : Int32) : 0 ≤ (x &&& 31).toInt ∧ (x &&& 31).toInt ≤ 31 := by
  have h : (x &&& 31).toBitVec.toNat ≤ 31 := by
    rw [Int32.toBitVec_and, BitVec.toNat_and]; exact Nat.and_le_right
  have e : (x &&& 31).toInt = ((x &&& 31).toBitVec.toNat : Int) := by
    show (x &&& 31).toBitVec.toInt = _
    exact BitVec.toInt_eq_toNat_of_lt (by omega)
  omega
theorem an_d31 (a : Int) : 0 ≤ an_d a 31 ∧ an_d a 31 ≤ 31 := by
  unfold an_d
  exact an_31 (Int32.ofInt a)
theorem law_loop {X : CT} {N : Nat} {xs : Nat → Int32} (C : Cx X code R_law 1300) (A : SC X N xs) (hN : N ≤ 3072) (h4 : X.2.2.1.1 = 4) (hE : ∀ L M, WM X 1042 L [vI 1] M) : ∀ (k i : Nat) (M : Mem), N < i + k → i ≤ N + 6 → Inv M → WM X 18 (L0 i) [] M
  | k, i, M, hk, hi, I => by
    refine m_iload_n C 3 d_law_18 rfl rfl ?_
    refine m_aload_n C 0 d_law_19 rfl rfl ?_
    refine m_slen C A hN d_law_20 ?_
    refine m_bipush C d_law_21 (r32_of rfl) (by decide) ?_
    refine m_isub C d_law_23 ?_
    rw [w32_id (x := (N : Int) - 6) (by omega)]
    refine m_icmp_gt C (tgt := 1041) d_law_24 (by decide) (fun _ => ?_) (fun e => ?_)
    · refine m_iconst C d_law_1041 (r32_of rfl) ?_
      exact hE _ _
    · have h6 : i + 6 ≤ N := by omega
      refine m_aload_n C 0 d_law_27 rfl rfl ?_
      refine m_iload_n C 3 d_law_28 rfl rfl ?_
      refine m_sld C A (by omega) d_law_29 ?_
      refine m_bipush C d_law_30 (r32_of rfl) (by decide) ?_
      refine m_iand C d_law_32 ?_
      refine lc_all C A hN h6 I (fun M2 I2 => ?_) (an_d31 _)
      match k, hk with
      | 0, hk => omega
      | k + 1, hk =>
        refine m_iinc C (L' := [(3, vI (w32 ((i : Int) + 6))), (0, vR idA), (1, vR 0), (2, vR 51)]) 3 d_law_1035 rfl (by rw [h4]; decide) rfl ?_
        refine m_goto C (tgt := 18) d_law_1038 (by decide) ?_
        rw [w32_id (x := (i : Int) + 6) (by omega), show (i : Int) + 6 = ((i + 6 : Nat) : Int) by omega]
        exact m_sub [1, 2, 3, 0] rfl (law_loop C A hN h4 hE k (i + 6) M2 (by omega) (by omega) I2)
theorem lw_end {p : Program} {l : Launch} {e : Env} {s : State} {m : MethodId} {below : List Frame} {meth : Method} {c : Code} {b : Nat} {g : GX} {cells slots : Nat} (hx : p.tables.exec = Jvm.exec) (hb : c.code = code) (hr : meth.sig.returnType = ret) (hlocks : meth.locks = false) (hsq : ∀ o, o < shN → g.2.1 o = s.heap.size + o) (hc : cells ≤ 600000) (hs : slots ≤ 7302249) (L : List (Nat × VV)) (M : Mem) : WM ((p, l, e, room_1, s), (m, #[Value.ref b], below, meth, c), (4, cells, slots, lw_Z below #[Value.ref b] s), g) 1042 L [vI 1] M := by
  intro a b' c' H lo ls hP hS hl
  refine va_forget (fun q hq => ?_) (W.widen hc hs ?_)
  · obtain ⟨i, hi, he⟩ := hS.2.2 q hq
    rw [he]
    show s.heap.size ≤ g.2.1 i
    rw [hsq i hi]; omega
  · show W p l e room_1 s m #[Value.ref b] below meth c H [] 600000 7302249 (lw_Z below #[Value.ref b] s) (F0 m 1042 ls [tv g (vI 1)])
    rw [tv_1]
    exact lw_ret hx hb hr hlocks d_law_1042
section KM
variable {X : CT} {cc : ByteArray} {own : String} {d sz pc : Nat} {L : List (Nat × Value)} {S : List Value} {es : List va_E} {k n : Nat}
theorem k_callM (C : Ck X cc own d sz) {md : MD} {d' mc ms na index q : Nat} {as rest : List Value} {M1 : Mem} {Lv : List (Nat × VV)} {Rv : List VV} (hM : ∀ l : Launch, Met l md.1 (.code md.1 md.2.1 md.2.2.1 none :: gd_tbl) (rmC d' mc ms) (PcC X.2.2.2 sz (.ref (X.2.2.2.2.1 q) :: as) es) (QcO X.2.2.2 none (fun _ M' => M' = M1)) mc ms (Ag X.2.2.2)) (hm : iOk md na) (hlk : mLk own index md.1) (hna : as.length = na) (hS0 : S = as.reverse ++ .ref (X.2.2.2.2.1 q) :: rest) (hrest : (rest.map fun v => v.category).sum ≤ 8) (hd' : d' ≤ d) (hk1 : k + mc ≤ X.2.2.1.2.1) (hn1 : n + ms ≤ X.2.2.1.2.2.1) (hd : decode cc pc = .ok (.invokespecial index, 3)) (hL : Lv.map (fun q => (q.1, tv X.2.2.2 q.2)) = L) (hR : Rv.map (tv X.2.2.2) = rest) (hcL : CanL Lv) (hcR : CanS Rv) (K : WM X (pc + 3) Lv Rv M1) : CW X sz pc L S es k n := by
  intro H lo ls hP hz hS hl
  subst hS0
  subst hL
  subst hR
  have hr := k_run C hM hm hlk hna hrest hd' hk1 hn1 hd hP hz hS hl
  intro T hT Xs
  obtain ⟨v, st₀, t, T', Lc, h0, X', hL, e1, e2, ⟨⟨r, M', hv, hcr, hq, hCM, hP'⟩, hzz, hkk⟩, st⟩ := hr T hT Xs
  have hv : v = none := by injection hv
  subst hv
  subst hq
  rw [h0] at hzz hkk
  obtain ⟨t2, a1, b1⟩ := W.widen hk1 hn1 (K hCM hcL hcR T'.heap (lo ++ Lc) ls (by rw [e1]; exact hP') ⟨Nat.le_trans hS.1 (by rw [e1]; exact hzz), fun q h1 h2 => by rw [e1, hkk q (Nat.lt_of_lt_of_le h1 hS.1) h2]; exact hS.2.1 q h1 h2, fun q hq => (List.mem_append.mp hq).elim (hS.2.2 q) (hL q)⟩ hl) T' rfl X'
  exact ⟨t2, st t2 a1, b1⟩
end KM
set_option maxRecDepth 100000 in
theorem kl_law_7 : Cond.classLink R_law 7 RX9 ∈ gd_tbl := gd_mem 133 rfl rfl
set_option maxRecDepth 100000 in
theorem kl_law_10 : Cond.classLink R_law 10 RX10 ∈ gd_tbl := gd_mem 972 rfl rfl
set_option maxRecDepth 100000 in
theorem il_law_9 : mLk R_law 9 yX9_init := Or.inl (gd_mem 135 rfl rfl)
set_option maxRecDepth 100000 in
theorem il_law_12 : mLk R_law 12 yX10_init := Or.inl (gd_mem 974 rfl rfl)
/-- from the entry to the loop, the world and its words once given -/
theorem law_go {p : Program} {l : Launch} {e : Env} {s : State} {m : MethodId} {below : List Frame} {meth : Method} {c : Code} {b N : Nat} {xs : Nat → Int32} {g : GX} (hN : N ≤ 3072) (hx : p.tables.exec = Jvm.exec) (hb : c.code = code) (hr : meth.sig.returnType = ret) (hml : c.maxLocals = 4) (hown : s.vm.findClass R_law = some m.cls) (hgd : ∀ w ∈ gd_tbl, w.before #[Value.ref b] s = true) (hlocks : meth.locks = false)
    (hsq : ∀ o, o < shN → g.2.1 o = s.heap.size + o) (hKK : KK g s) (hSS : SS g s s.heap) (hAO : AOv s) (hgb : g.2.1 idA = b) (hX : va_X b N xs s s.heap) (hbl : b < s.heap.size) : W p l e room_1 s m #[Value.ref b] below meth c s.heap [] 0 0 (lw_Z below #[Value.ref b] s) (entryFrame m ([Value.ref b] : List Value).toArray 4) := by
  obtain ⟨X, hXe⟩ : ∃ X : CT, X = ((p, l, e, room_1, s), (m, #[Value.ref b], below, meth, c), (4, 68, 3590, lw_Z below #[Value.ref b] s), g) := ⟨_, rfl⟩
  have C : Ck X code R_law 1300 s.heap.size := by
    subst hXe
    exact ⟨⟨hx, hb, hml, hown, hgd, hKK, hSS, Nat.le_of_ble_eq_true rfl, Nat.le_of_ble_eq_true rfl, Nat.le_of_ble_eq_true rfl, Nat.le_of_ble_eq_true rfl⟩, hsq, hAO⟩
  have h4 : X.2.2.1.1 = 4 := by subst hXe; rfl
  have hmc : X.2.2.1.2.1 = 68 := by subst hXe; rfl
  have hms : X.2.2.1.2.2.1 = 3590 := by subst hXe; rfl
  have hgX : X.2.2.2.2.1 idA = b := by subst hXe; exact hgb
  have A : SC X N xs := by
    refine ⟨?_, ?_, ?_⟩
    · rw [hgX]; subst hXe; exact hX
    · rw [hgX]; subst hXe; exact hbl
    · rw [hgX]; subst hXe
      rintro ⟨i, hi, he⟩
      rw [hsq i hi] at he
      omega
  have hE : ∀ L M, WM X 1042 L [vI 1] M := fun L M => by subst hXe; exact lw_end hx hb hr hlocks hsq (Nat.le_of_ble_eq_true rfl) (Nat.le_of_ble_eq_true rfl) L M
  have K : CW X s.heap.size 0 [(0, .ref (X.2.2.2.2.1 idA))] [] [] 0 0 := by
    refine k_new2 C (q := 0) cl_X9 kl_law_7 in_X9 iz_X9 fdv_X9 rfl (nlt rfl) (by rw [hmc]; exact Nat.le_of_ble_eq_true rfl) (by rw [hms]; exact Nat.le_of_ble_eq_true rfl) d_law_0 ?_
    refine k_dup C d_law_3 ?_
    refine k_call (es' := E_X9 X.2.2.2) C (q := 0) (as := []) (rest := [.ref (X.2.2.2.2.1 0)]) (cc_X9 C.2.1) oki_X9 il_law_9 rfl rfl (Nat.le_of_ble_eq_true rfl) (Nat.le_of_ble_eq_true rfl) (by rw [hmc]; exact Nat.le_of_ble_eq_true rfl) (by rw [hms]; exact Nat.le_of_ble_eq_true rfl) d_law_4 ?_
    refine k_astore C (L' := [(1, .ref (X.2.2.2.2.1 0)), (0, .ref (X.2.2.2.2.1 idA))]) d_law_7 rfl (by rw [h4]; decide) rfl ?_
    refine k_new2 C (q := 51) cl_X10 kl_law_10 in_X10 iz_X10 fdv_X10 rfl (nlt rfl) (by rw [hmc]; exact Nat.le_of_ble_eq_true rfl) (by rw [hms]; exact Nat.le_of_ble_eq_true rfl) d_law_8 ?_
    refine k_dup C d_law_11 ?_
    refine k_callM C (md := md_X10_init) (q := 51) (as := []) (rest := [.ref (X.2.2.2.2.1 51)]) (M1 := MF) (Lv := [(1, vR 0), (0, vR idA)]) (Rv := [vR 51]) (fun l => mc_X10 C.2.1 rfl l) oki_X10 il_law_12 rfl rfl (Nat.le_of_ble_eq_true rfl) (Nat.le_of_ble_eq_true rfl) (by rw [hmc]; exact Nat.le_of_ble_eq_true rfl) (by rw [hms]; exact Nat.le_of_ble_eq_true rfl) d_law_12 rfl rfl (fun q hq => ?_) (fun q hq => ?_) ?_
    · rcases List.mem_cons.mp hq with rfl | hq
      · trivial
      · rcases List.mem_cons.mp hq with rfl | hq
        · trivial
        · cases hq
    · rcases List.mem_cons.mp hq with rfl | hq
      · trivial
      · cases hq
    · refine m_astore_n C.1 (L' := [(2, vR 51), (1, vR 0), (0, vR idA)]) d_law_15 rfl (by rw [h4]; decide) rfl ?_
      refine m_iconst C.1 d_law_16 (r32_of rfl) ?_
      refine m_istore_n C.1 (L' := [(3, vI 0), (2, vR 51), (1, vR 0), (0, vR idA)]) d_law_17 rfl (by rw [h4]; decide) rfl ?_
      exact m_sub [3, 2, 1, 0] rfl (law_loop C.1 A hN h4 hE (N + 1) 0 MF (by omega) (by omega) Inv_ini)
  have hl := lv_entry ([.ref b]) (n := 4) (Nat.le_of_ble_eq_true rfl)
  rw [lg_entry_eq]
  have hP : va_P X.2.2.2.1 mm_cl (mkw X.2.2.2 []) s.heap := fun k q h => by cases h
  have K2 := K s.heap [] _ hP rfl (by subst hXe; exact va_S.rf) (by rw [h4, hgX]; exact hl)
  subst hXe
  exact K2
