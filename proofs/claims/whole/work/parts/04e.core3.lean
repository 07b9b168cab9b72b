/-! A CALL ON THE STRING CONSTANT -/
section ROWS3
variable {X : CT} {cc : ByteArray} {own : String} {n pc : Nat} {L : List (Nat × VV)} {S : List VV} {M : Mem}
theorem m_callT (C : Cx X cc own n) {md : MD} {k index : Nat} {as rest : List VV} (hm : vOk md k) (hlk : mLk own index md.1) (hcls : md.1.cls = "java/lang/String") (hk : as.length = k) (hS0 : S = as.reverse ++ vR idS :: rest) (hrest : wdt rest ≤ 8) (hd : decode cc pc = .ok (.invokevirtual index, 3))
    (K : Con n md (vR idS :: as) M (fun r M' => WM X (pc + 3) L (rsO md.2.2.2 r ++ rest) M')) : WM X pc L S M := by
  intro a b c H lo ls hP hS hl
  subst hS0
  have cas : CanS (vR idS :: as) := CanS.push (fun w hw => c w (List.mem_append_left _ (List.mem_reverse.mpr hw))) trivial
  have crest : CanS rest := fun w hw => c w (List.mem_append_right _ (List.mem_cons_of_mem _ hw))
  have hmon : ((rest.map (tv X.2.2.2)).map fun v => v.category).sum ≤ 8 := by rw [wdt_cat]; exact hrest
  obtain ⟨⟨hcode, hini, hy, h40⟩, hins, hsel⟩ := hm
  obtain ⟨hx, hb, hml, hown, hts, hKK, hSS, hR1, hR2, hR3, hR4⟩ := C
  have C : Cx X cc own n := ⟨hx, hb, hml, hown, hts, hKK, hSS, hR1, hR2, hR3, hR4⟩
  have hstk : ((as.reverse ++ vR idS :: rest).map (tv X.2.2.2)) = (as.map (tv X.2.2.2)).reverse ++ .ref (X.2.2.2.2.1 idS) :: rest.map (tv X.2.2.2) := by
    rw [List.map_append, List.map_cons, List.map_reverse]; rfl
  have hR : (rmO n).frames + 1 ≤ X.1.2.2.2.1.frames ∧ 8 + (md.2.2.1 + 11) + (rmO n).locals ≤ X.1.2.2.2.1.locals := ⟨hR1, by show 8 + (md.2.2.1 + 11) + 60 * n ≤ _; omega⟩
  have hE := hSS.2.2.2.2.2
  have hrecv := vk_recv (i := 0) hE (by decide) hS
  have hpre : PreV X.1.2.2.2.2 H md.1.cls (X.2.2.2.2.1 idS) (PcO X.2.2.2 (vR idS :: as) M) (as.map (tv X.2.2.2)) := ⟨PcO.blind _ _ _, by rw [hcls]; exact hrecv, m_pre C a cas hP hS⟩
  have hlen : (as.map (tv X.2.2.2)).length = k := by rw [List.length_map]; exact hk
  refine m_run C (ret := md.2.2.2) (rest := rest) b crest hS hl (av := (Value.ref (X.2.2.2.2.1 idS) :: as.map (tv X.2.2.2)).toArray) ?_
  rcases hlk with h | ⟨host, h⟩
  · exact va_runV (C := md.1.cls) (bytes := md.2.1) (maxL := md.2.2.1) (ret := md.2.2.2) (n := k) (Ts := gd_tbl) ⟨hx, hb, hml, hown, hts⟩ (K X.1.2.1 X.2.2.2) ⟨callB_of k hts (gd_in0 hcode) rfl rfl rfl (hts _ hini) (hts _ h) hy hR, hts _ hins, hts _ hsel⟩ hpre rfl hlen hl.1 hstk (by show 2 * 0 + _ ≤ 8; rw [Nat.mul_zero, Nat.zero_add]; exact hmon) hd ⟨hR3, hR4⟩
  · exact va_runVN (C := md.1.cls) (bytes := md.2.1) (maxL := md.2.2.1) (ret := md.2.2.2) (n := k) (host := host) (Ts := gd_tbl) ⟨hx, hb, hml, hown, hts⟩ (K X.1.2.1 X.2.2.2) ⟨va_cnB k hts (gd_in0 hcode) rfl rfl rfl (hKK.2.1 _ h) (hts _ hini) hy hR, hts _ hins, hts _ hsel⟩ hpre rfl hlen hl.1 hstk (by show 2 * 0 + _ ≤ 8; rw [Nat.mul_zero, Nat.zero_add]; exact hmon) hd ⟨hR3, hR4⟩
theorem m_callTi (C : Cx X cc own n) {md : MD} {k index : Nat} {as rest : List VV} (hm : vOk md k) (hlk : mLk own index md.1) (hcls : md.1.cls = "java/lang/String") (hk : as.length = k) (hS0 : S = as.reverse ++ vR idS :: rest) (hrest : wdt rest ≤ 8) (hret : ∀ r, rsO md.2.2.2 r = [vI r]) (hd : decode cc pc = .ok (.invokevirtual index, 3))
    (K : Con n md (vR idS :: as) M (fun r M' => WM X (pc + 3) L (vI r :: rest) M')) : WM X pc L S M := m_callT C hm hlk hcls hk hS0 hrest hd (K.mono fun r M' _ _ h => by rw [hret]; exact h)
end ROWS3
