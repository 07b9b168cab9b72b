/-! THE STRING CONSTANT: length and charAt, out of the JDK's own methods -/
theorem pd_c0 : (parseMethodDescriptor "()B").map (fun d => d.parameters.length) = some 0 := by decide +kernel
theorem pd_c1 : (parseMethodDescriptor "([BI)C").map (fun d => d.parameters.length) = some 2 := by decide +kernel
theorem pd_c2 : (parseMethodDescriptor "(IILjava/util/function/BiFunction;)I").map (fun d => d.parameters.length) = some 3 := by decide +kernel
theorem nb_J1 : RJ1 ≠ "java/lang/invoke/MethodHandle" ∧ RJ1 ≠ "java/lang/invoke/VarHandle" := by decide +kernel
theorem nb_J3 : RJ3 ≠ "java/lang/invoke/MethodHandle" ∧ RJ3 ≠ "java/lang/invoke/VarHandle" := by decide +kernel
theorem pl_J0_coder : plainFor yJ0_coder_7d493 = true := by decide +kernel
abbrev md_J0_coder : MD := (yJ0_coder_7d493, cJ0_coder_7d493, 1, (some .byte))
set_option maxRecDepth 100000 in
theorem ok_J0_coder : vOk md_J0_coder 0 := ⟨⟨gd_mem 563 rfl rfl, gd_mem 128 rfl rfl, ⟨nb_J0.1, nb_J0.2, pd_c0⟩, by decide⟩, gd_mem 561 rfl rfl, gd_mem 562 rfl rfl⟩
theorem pl_J0_isLatin1 : plainFor yJ0_isLatin1_aae02 = true := by decide +kernel
abbrev md_J0_isLatin1 : MD := (yJ0_isLatin1_aae02, cJ0_isLatin1_aae02, 1, (some .boolean))
set_option maxRecDepth 100000 in
theorem ok_J0_isLatin1 : vOk md_J0_isLatin1 0 := ⟨⟨gd_mem 573 rfl rfl, gd_mem 128 rfl rfl, ⟨nb_J0.1, nb_J0.2, pd_17⟩, by decide⟩, gd_mem 571 rfl rfl, gd_mem 572 rfl rfl⟩
theorem pl_J0_checkIndex : plainFor yJ0_checkIndex_df160 = true := by decide +kernel
abbrev md_J0_checkIndex : MD := (yJ0_checkIndex_df160, cJ0_checkIndex_df160, 2, none)
set_option maxRecDepth 100000 in
theorem ok_J0_checkIndex : sOk md_J0_checkIndex 2 := ⟨⟨gd_mem 579 rfl rfl, gd_mem 128 rfl rfl, ⟨nb_J0.1, nb_J0.2, pd_3⟩, by decide⟩, gd_mem 578 rfl rfl⟩
theorem pl_J1_charAt : plainFor yJ1_charAt_3b067 = true := by decide +kernel
abbrev md_J1_charAt : MD := (yJ1_charAt_3b067, cJ1_charAt_3b067, 2, (some .char))
set_option maxRecDepth 100000 in
theorem ok_J1_charAt : sOk md_J1_charAt 2 := ⟨⟨gd_mem 576 rfl rfl, gd_mem 129 rfl rfl, ⟨nb_J1.1, nb_J1.2, pd_c1⟩, by decide⟩, gd_mem 575 rfl rfl⟩
theorem pl_J3_checkIndex : plainFor yJ3_checkIndex_8e157 = true := by decide +kernel
abbrev md_J3_checkIndex : MD := (yJ3_checkIndex_8e157, cJ3_checkIndex_8e157, 3, (some .int))
set_option maxRecDepth 100000 in
theorem ok_J3_checkIndex : sOk md_J3_checkIndex 3 := ⟨⟨gd_mem 584 rfl rfl, gd_mem 130 rfl rfl, ⟨nb_J3.1, nb_J3.2, pd_c2⟩, by decide⟩, gd_mem 583 rfl rfl⟩
set_option maxRecDepth 100000 in
theorem ml_J0_335 : mLk RJ0 335 yJ0_coder_7d493 := Or.inl (gd_mem 560 rfl rfl)
set_option maxRecDepth 100000 in
theorem ml_J0_492 : mLk RJ0 492 yJ0_isLatin1_aae02 := Or.inl (gd_mem 570 rfl rfl)
set_option maxRecDepth 100000 in
theorem ml_J0_495 : mLk RJ0 495 yJ1_charAt_3b067 := Or.inl (gd_mem 574 rfl rfl)
set_option maxRecDepth 100000 in
theorem ml_J1_9 : mLk RJ1 9 yJ0_checkIndex_df160 := Or.inl (gd_mem 577 rfl rfl)
set_option maxRecDepth 100000 in
theorem ml_J0_1059 : Cond.methodLink RJ0 1059 yJ3_checkIndex_8e157 ∈ gd_tbl := gd_mem 582 rfl rfl
set_option maxRecDepth 100000 in
theorem fl_J0_9 : Cond.fieldLink RJ0 9 "java/lang/String" "value" "[B" ∈ gd_tbl := gd_mem 1439 rfl rfl
set_option maxRecDepth 100000 in
theorem fl_J0_15 : Cond.fieldLink RJ0 15 "java/lang/String" "coder" "B" ∈ gd_tbl := gd_mem 1440 rfl rfl
set_option maxRecDepth 100000 in
theorem fl_J0_38 : Cond.fieldLink RJ0 38 "java/lang/String" "COMPACT_STRINGS" "Z" ∈ gd_tbl := gd_mem 564 rfl rfl
set_option maxRecDepth 100000 in
theorem fl_J0_1053 : Cond.fieldLink RJ0 1053 "jdk/internal/util/Preconditions" "SIOOBE_FORMATTER" "Ljava/util/function/BiFunction;" ∈ gd_tbl := gd_mem 580 rfl rfl
theorem tv_0 (g : GX) : tv g (vI 0) = .int 0 := congrArg Value.int (by decide)
theorem tv_1 (g : GX) : tv g (vI 1) = .int 1 := congrArg Value.int (by decide)
section JROWS
variable {X : CT} {cc : ByteArray} {own : String} {n pc : Nat} {L : List (Nat × VV)} {S : List VV} {M : Mem}
theorem m_getSv (C : Cx X cc RJ0 n) (hd : decode cc pc = .ok (.getfield 9, 3)) (K : WM X (pc + 3) L (vR idB :: S) M) : WM X pc L (vR idS :: S) M :=
  fun a b c H lo ls hP hS hl => vk_getf C.1 C.2.1 (C.2.2.2.2.2.2.1.2.2.2.2.2.1 0 (by decide)).2.2.1 hS C.2.2.2.1 (C.2.2.2.2.1 _ fl_J0_9) (fun _ h => h) hd (K a b (c.tl.push trivial) H lo ls hP hS hl)
theorem m_getSc (C : Cx X cc RJ0 n) (hd : decode cc pc = .ok (.getfield 15, 3)) (K : WM X (pc + 3) L (vI 0 :: S) M) : WM X pc L (vR idS :: S) M :=
  fun a b c H lo ls hP hS hl => vk_getf C.1 C.2.1 (C.2.2.2.2.2.2.1.2.2.2.2.2.1 0 (by decide)).2.1 hS C.2.2.2.1 (C.2.2.2.2.1 _ fl_J0_15) (fun _ h => h) hd (by
    have h := K a b (c.tl.push r32_0) H lo ls hP hS hl
    rw [List.map_cons, tv_0] at h
    exact h)
theorem m_getsC (C : Cx X cc RJ0 n) (hd : decode cc pc = .ok (.getstatic 38, 3)) (K : WM X (pc + 3) L (vI 1 :: S) M) : WM X pc L S M :=
  fun a b c H lo ls hP hS hl => va_gets C.1 C.2.1 C.2.2.2.2.2.2.1.2.2.1 hS C.2.2.2.1 (C.2.2.2.2.1 _ fl_J0_38) (fun _ h => h) hd (by
    have h := K a b (c.push (r32_of (v := 1) rfl)) H lo ls hP hS hl
    rw [List.map_cons, tv_1] at h
    exact h)
theorem m_lenB (C : Cx X cc own n) (hd : decode cc pc = .ok (.arraylength, 1)) (K : WM X (pc + 1) L (vI 64 :: S) M) : WM X pc L (vR idB :: S) M :=
  fun a b c H lo ls hP hS hl => va_tlen C.1 C.2.1 (C.2.2.2.2.2.2.1.2.2.2.2.2.1 0 (by decide)).2.2.2 hS (v := Int32.ofInt 64) (by decide) hd (K a b (c.tl.push (r32_of (v := 64) rfl)) H lo ls hP hS hl)
theorem ws_wbt : ∀ i, i < 64 → wbt.getD i 0 = Int32.ofInt (ws i) := by decide +kernel
theorem ws_and : ∀ i, i < 64 → an_d (ws i) 255 = ws i := by decide +kernel
theorem ws_chr : ∀ i, i < 64 → ((Int32.ofInt (ws i)).toUInt32 % 65536).toInt32 = Int32.ofInt (ws i) := by decide +kernel
theorem ws_r : ∀ i, i < 64 → (0 ≤ ws i ∧ ws i ≤ 127) := by decide +kernel
theorem ws_nar : ∀ i, i < 64 → narrow .char (.int (Int32.ofInt (ws i))) = .int (Int32.ofInt (ws i)) := by decide +kernel
theorem m_baldB (C : Cx X cc own n) {i : Nat} (hi : i < 64) (hd : decode cc pc = .ok (.baload, 1)) (K : WM X (pc + 1) L (vI (ws i) :: S) M) : WM X pc L (vI (i : Int) :: vR idB :: S) M :=
  fun a b c H lo ls hP hS hl => va_tb C.1 C.2.1 (C.2.2.2.2.2.2.1.2.2.2.2.2.1 0 (by decide)).2.2.2 hS (i := Int32.ofInt (i : Int)) (iN_in c.hd (by show 0 ≤ (i : Int) ∧ (i : Int) < ((64 : Nat) : Int); omega)) (v := tv X.2.2.2 (vI (ws i))) (by
    show Value.int (wbt.getD (Int32.ofInt (i : Int)).toNatClampNeg 0) = Value.int _
    rw [iN_cl c.hd, show ((i : Int)).toNat = i from rfl, ws_wbt i hi]) hd (K a b (c.tl.tl.push (by have := ws_r i hi; show r32 _; unfold r32; omega)) H lo ls hP hS hl)
theorem m_i2cw (C : Cx X cc own n) {i : Nat} (hi : i < 64) (hd : decode cc pc = .ok (.i2c, 1)) (K : WM X (pc + 1) L (vI (ws i) :: S) M) : WM X pc L (vI (ws i) :: S) M :=
  fun a b c H lo ls hP hS hl => lv_i2c C.1 C.2.1 hd (ws_chr i hi) (K a b c H lo ls hP hS hl)
theorem m_nret (C : Cx X cc own n) {Q : Int → Mem → Prop} {r : Int} {ty : FieldType} (E : Cr X (some ty) Q) (hn : narrow ty (.int (Int32.ofInt r)) = .int (Int32.ofInt r)) (hrv : rvO (some ty) r = some (.int (Int32.ofInt r))) (hrs : rsO (some ty) r = [vI r]) (hd : decode cc pc = .ok (.ireturn, 1)) (hq : Q r M) : WM X pc L [vI r] M := by
  intro a b c H lo ls hP hS hl
  rw [E.2.2]
  exact W.zret (ty := ty) C.1 C.2.1 E.1 hn (fun t ht hW => ⟨⟨r, M, by rw [hrv], by rw [hrs]; exact c, hq, a, by rw [ht]; exact hP⟩, hS.F ht⟩) hS.2.2 hd (hlocks := E.2.1)
end JROWS
theorem c_coder {n : Nat} {M : Mem} {Q : Int → Mem → Prop} (hq : Q 0 M) : Con (n + 1) md_J0_coder [vR idS] M Q := by
  refine Con.ofF (n := n + 1) (Nat.succ_pos n) pl_J0_coder (Nat.le_of_ble_eq_true rfl) (fun X C E hnL => ?_)
  have C : Cx X cJ0_coder_7d493 RJ0 n := C
  show WM X 0 [(0, vR idS)] [] M
  refine m_getsC C dJ0_coder_7d493_0 ?_
  refine m_if_eq C (tgt := 13) dJ0_coder_7d493_3 (by decide) (fun e => absurd e (by decide)) (fun e => ?_)
  refine m_aload_n C 0 dJ0_coder_7d493_6 rfl rfl ?_
  refine m_getSc C dJ0_coder_7d493_7 ?_
  refine m_goto C (tgt := 14) dJ0_coder_7d493_10 (by decide) ?_
  exact m_nret C E rfl rfl rfl dJ0_coder_7d493_14 hq
theorem c_isLatin1 {n : Nat} {M : Mem} {Q : Int → Mem → Prop} (hq : Q 1 M) : Con (n + 1) md_J0_isLatin1 [vR idS] M Q := by
  refine Con.ofF (n := n + 1) (Nat.succ_pos n) pl_J0_isLatin1 (Nat.le_of_ble_eq_true rfl) (fun X C E hnL => ?_)
  have C : Cx X cJ0_isLatin1_aae02 RJ0 n := C
  show WM X 0 [(0, vR idS)] [] M
  refine m_getsC C dJ0_isLatin1_aae02_0 ?_
  refine m_if_eq C (tgt := 17) dJ0_isLatin1_aae02_3 (by decide) (fun e => absurd e (by decide)) (fun e => ?_)
  refine m_aload_n C 0 dJ0_isLatin1_aae02_6 rfl rfl ?_
  refine m_getSc C dJ0_isLatin1_aae02_7 ?_
  refine m_if_ne C (tgt := 17) dJ0_isLatin1_aae02_10 (by decide) (fun e => absurd rfl e) (fun e => ?_)
  refine m_iconst C dJ0_isLatin1_aae02_13 (r32_of rfl) ?_
  refine m_goto C (tgt := 18) dJ0_isLatin1_aae02_14 (by decide) ?_
  exact m_iret C E (Or.inr ⟨rfl, Or.inr rfl⟩) dJ0_isLatin1_aae02_18 hq
/-- Preconditions.checkIndex, a place that is there; the third parameter is only carried -/
def PcV (g : GX) (vs : List Value) (M : Mem) : Array Value → State → Prop := fun v U => v = vs.toArray ∧ Can M ∧ va_P g.1 mm_cl (wld g M) U.heap ∧ KK g U ∧ SS g U U.heap
theorem PcV.blind (g : GX) (vs : List Value) (M : Mem) : FrameBlind (PcV g vs M) := by
  intro a U fr mk h
  obtain ⟨h1, h2, h4, h5, h6⟩ := h
  exact ⟨h1, h2, h4, KK.same (s := U) (U := U.calling fr mk a) rfl h5, SS.same (s := U) (U := U.calling fr mk a) rfl h6⟩
theorem c_J3_checkIndex {n i N : Nat} {M : Mem} {Q : Int → Mem → Prop} (hi : i < N) (hN : N < 1000) (v : Value) (hv : v = .null ∨ ∃ t, v = .ref t) (hq : Q (i : Int) M) (l : Launch) (g : GX) :
    Met l md_J3_checkIndex.1 (.code md_J3_checkIndex.1 md_J3_checkIndex.2.1 3 (some .int) :: gd_tbl) (rmO (n + 1)) (PcV g [.int (Int32.ofInt (i : Int)), .int (Int32.ofInt (N : Int)), v] M) (QcO g (some .int) Q) 0 0 (Ag g) := by
  refine va_MetF (cc := cJ3_checkIndex_8e157) (maxL := 3) (ret := some .int) pl_J3_checkIndex rfl ?_
  intro p e s m args below meth c s₁ B hml hvv
  obtain ⟨rfl, hCM, hP, hK, hS⟩ := hvv
  have hts := atoms_spec (ws := .code md_J3_checkIndex.1 md_J3_checkIndex.2.1 3 (some .int) :: gd_tbl) B.pre
  have hown : s.vm.findClass RJ3 = some m.cls := findClass_of_methodNamed B.named
  rw [lg_entry_eq]
  have hl : lv_has (lg_sl ([.int (Int32.ofInt (i : Int)), .int (Int32.ofInt (N : Int)), v] : List Value) ++ List.replicate (3 - (lg_sl ([.int (Int32.ofInt (i : Int)), .int (Int32.ofInt (N : Int)), v] : List Value)).length) Slot.unset).toArray 3 [(0, .int (Int32.ofInt (i : Int))), (1, .int (Int32.ofInt (N : Int)))] := by
    rcases hv with rfl | ⟨t, rfl⟩
    · exact lv_sub (lv_entry ([.int (Int32.ofInt (i : Int)), .int (Int32.ofInt (N : Int)), .null]) (n := 3) (Nat.le_of_ble_eq_true rfl)) [0, 1] rfl
    · exact lv_sub (lv_entry ([.int (Int32.ofInt (i : Int)), .int (Int32.ofInt (N : Int)), .ref t]) (n := 3) (Nat.le_of_ble_eq_true rfl)) [0, 1] rfl
  generalize (lg_sl ([.int (Int32.ofInt (i : Int)), .int (Int32.ofInt (N : Int)), v] : List Value) ++ List.replicate (3 - (lg_sl ([.int (Int32.ofInt (i : Int)), .int (Int32.ofInt (N : Int)), v] : List Value)).length) Slot.unset).toArray = ls at hl ⊢
  generalize hX : (((p, l, e, rmO (n + 1), s), (m, ([.int (Int32.ofInt (i : Int)), .int (Int32.ofInt (N : Int)), v] : List Value).toArray, below, meth, c), (3, 0, 0, MQ below (QcO g (some .int) Q) ([.int (Int32.ofInt (i : Int)), .int (Int32.ofInt (N : Int)), v] : List Value).toArray s 0 0 (Ag g)), g) : CT) = X
  have C : Cx X cJ3_checkIndex_8e157 RJ3 n := by
    subst hX
    exact ⟨B.exec, B.bytes, hml, hown, fun w hw => hts w (List.mem_cons_of_mem _ hw), hK, hS, Nat.le_refl _, by show 60 * n + 60 ≤ 60 * (n + 1); omega, Nat.le_refl _, Nat.le_refl _⟩
  have E : Cr X (some .int) Q := by subst hX; exact ⟨B.returns, B.notSynchronized, rfl⟩
  have hi32 : r32 (i : Int) := by unfold r32; omega
  have hN32 : r32 (N : Int) := by unfold r32; omega
  have K : WM X 0 [(0, vI (i : Int)), (1, vI (N : Int))] [] M := by
    refine m_iload_n C 0 dJ3_checkIndex_8e157_0 rfl rfl ?_
    refine m_if_lt C (tgt := 9) dJ3_checkIndex_8e157_1 (by decide) (fun e => absurd e (by omega)) (fun e => ?_)
    refine m_iload_n C 0 dJ3_checkIndex_8e157_4 rfl rfl ?_
    refine m_iload_n C 1 dJ3_checkIndex_8e157_5 rfl rfl ?_
    refine m_icmp_lt C (tgt := 16) dJ3_checkIndex_8e157_6 (by decide) (fun e => ?_) (fun e => absurd (show (i : Int) < (N : Int) by omega) e)
    refine m_iload_n C 0 dJ3_checkIndex_8e157_16 rfl rfl ?_
    exact m_iret C E (Or.inl rfl) dJ3_checkIndex_8e157_17 hq
  subst hX
  exact K hCM (fun q hq => by rcases List.mem_cons.mp hq with rfl | hq; · exact hi32
                              · rcases List.mem_cons.mp hq with rfl | hq; · exact hN32
                                · cases hq) (fun _ h => by cases h) s.heap [] ls hP va_S.rf hl
theorem m_chk {X : CT} {n : Nat} {L : List (Nat × VV)} {M : Mem} {i N : Nat} (C : Cx X cJ0_checkIndex_df160 RJ0 (n + 1)) (hi : i < N) (hN : N < 1000) (K : WM X 8 L [vI (i : Int)] M) : WM X 2 L [vI (N : Int), vI (i : Int)] M := by
  intro a b c H lo ls hP hS hl
  obtain ⟨hx, hb, hml, hown, hts, hKK, hSS, hR1, hR2, hR3, hR4⟩ := id C
  have key : ∀ v : Value, (v = .null ∨ ∃ t, v = .ref t) → W X.1.1 X.1.2.1 X.1.2.2.1 X.1.2.2.2.1 X.1.2.2.2.2 X.2.1.1 X.2.1.2.1 X.2.1.2.2.1 X.2.1.2.2.2.1 X.2.1.2.2.2.2 H lo X.2.2.1.2.1 X.2.2.1.2.2.1 X.2.2.1.2.2.2 (F0 X.2.1.1 5 ls (v :: ([vI (N : Int), vI (i : Int)] : List VV).map (tv X.2.2.2))) := by
    intro v hv
    have hR : (rmO (n + 1)).frames + 1 ≤ X.1.2.2.2.1.frames ∧ 8 + (3 + 11) + (rmO (n + 1)).locals ≤ X.1.2.2.2.1.locals := ⟨hR1, by show 8 + (3 + 11) + 60 * (n + 1) ≤ _; omega⟩
    refine m_run C (ret := some .int) (rest := []) b (fun _ h => by cases h) hS hl (av := ([.int (Int32.ofInt (i : Int)), .int (Int32.ofInt (N : Int)), v] : List Value).toArray) ?_
    obtain ⟨⟨hcode, hini, hy, h40⟩, hst⟩ := ok_J3_checkIndex
    exact va_runS (bytes := cJ3_checkIndex_8e157) (maxL := 3) (ret := some .int) (n := 3) (Ts := gd_tbl) ⟨hx, hb, hml, hown, hts⟩ (c_J3_checkIndex (n := n) hi hN v hv (Q := fun r M' => WM X 8 L (rsO (some .int) r ++ []) M') K X.1.2.1 X.2.2.2) ⟨callB_of 3 hts (gd_in0 hcode) rfl rfl rfl (hts _ hini) (hts _ ml_J0_1059) hy hR, hts _ hst⟩
      ⟨PcV.blind _ _ _, fun U hU hW => ⟨rfl, a, by rw [hU]; exact hP, hKK.warm hW, hSS.go hW (fun q h1 h2 => by rw [hU]; exact hS.2.1 q h1 h2)⟩⟩ rfl rfl hl.1 rfl (by show 2 * 0 + 0 ≤ 8; omega) dJ0_checkIndex_df160_5 ⟨hR3, hR4⟩
  rcases hSS.2.2.2.1 with hz | ⟨t, hz⟩
  · exact va_gets hx hb hz hS hown (hts _ fl_J0_1053) (fun _ h => h) dJ0_checkIndex_df160_2 (key _ (Or.inl rfl))
  · exact va_gets hx hb hz hS hown (hts _ fl_J0_1053) (fun _ h => h) dJ0_checkIndex_df160_2 (key _ (Or.inr ⟨t, rfl⟩))
theorem c_J0_checkIndex {n i N : Nat} {M : Mem} {Q : Int → Mem → Prop} (hi : i < N) (hN : N < 1000) (hq : Q 0 M) : Con (n + 2) md_J0_checkIndex [vI (i : Int), vI (N : Int)] M Q := by
  refine Con.ofF (n := n + 2) (Nat.succ_pos _) pl_J0_checkIndex (Nat.le_of_ble_eq_true rfl) (fun X C E hnL => ?_)
  have C : Cx X cJ0_checkIndex_df160 RJ0 (n + 1) := C
  show WM X 0 [(0, vI (i : Int)), (1, vI (N : Int))] [] M
  refine m_iload_n C 0 dJ0_checkIndex_df160_0 rfl rfl ?_
  refine m_iload_n C 1 dJ0_checkIndex_df160_1 rfl rfl ?_
  refine m_chk C hi hN ?_
  refine m_popI C dJ0_checkIndex_df160_8 ?_
  exact m_vret C E dJ0_checkIndex_df160_9 hq
theorem c_J1_charAt {n i : Nat} {M : Mem} {Q : Int → Mem → Prop} (hi : i < 64) (hq : Q (ws i) M) : Con (n + 3) md_J1_charAt [vR idB, vI (i : Int)] M Q := by
  refine Con.ofF (n := n + 3) (Nat.succ_pos _) pl_J1_charAt (Nat.le_of_ble_eq_true rfl) (fun X C E hnL => ?_)
  have C : Cx X cJ1_charAt_3b067 RJ1 (n + 2) := C
  show WM X 0 [(0, vR idB), (1, vI (i : Int))] [] M
  refine m_iload_n C 1 dJ1_charAt_3b067_0 rfl rfl ?_
  refine m_aload_n C 0 dJ1_charAt_3b067_1 rfl rfl ?_
  refine m_lenB C dJ1_charAt_3b067_2 ?_
  refine m_callSv C (as := [vI (i : Int), vI 64]) (rest := []) ok_J0_checkIndex ml_J1_9 rfl rfl (Nat.le_of_ble_eq_true rfl) (fun _ => rfl) dJ1_charAt_3b067_3 (c_J0_checkIndex (N := 64) hi (by omega) ?_)
  refine m_aload_n C 0 dJ1_charAt_3b067_6 rfl rfl ?_
  refine m_iload_n C 1 dJ1_charAt_3b067_7 rfl rfl ?_
  refine m_baldB C hi dJ1_charAt_3b067_8 ?_
  refine m_sipush C dJ1_charAt_3b067_9 (r32_of rfl) (by decide) ?_
  refine m_iand C dJ1_charAt_3b067_12 ?_
  rw [ws_and i hi]
  refine m_i2cw C hi dJ1_charAt_3b067_13 ?_
  exact m_nret C E (ws_nar i hi) rfl rfl dJ1_charAt_3b067_14 hq
theorem jl : JL := fun n M Q hq => by
  refine Con.ofF (n := n + 4) (Nat.succ_pos _) pl_J0_length_8abf5 (Nat.le_of_ble_eq_true rfl) (fun X C E hnL => ?_)
  have C : Cx X cJ0_length_8abf5 RJ0 (n + 3) := C
  show WM X 0 [(0, vR idS)] [] M
  refine m_aload_n C 0 dJ0_length_8abf5_0 rfl rfl ?_
  refine m_getSv C dJ0_length_8abf5_1 ?_
  refine m_lenB C dJ0_length_8abf5_4 ?_
  refine m_aload_n C 0 dJ0_length_8abf5_5 rfl rfl ?_
  refine m_callTi C (as := []) (rest := [vI 64]) ok_J0_coder ml_J0_335 rfl rfl rfl (Nat.le_of_ble_eq_true rfl) (fun _ => rfl) dJ0_length_8abf5_6 (c_coder (n := n + 2) ?_)
  refine m_ishr C dJ0_length_8abf5_9 ?_
  rw [show sh_r 64 0 = 64 from by decide]
  exact m_iret C E (Or.inl rfl) dJ0_length_8abf5_10 hq
theorem jc : JC := fun n i M Q hi hq => by
  refine Con.ofF (n := n + 8) (Nat.succ_pos _) pl_J0_charAt_5068e (Nat.le_of_ble_eq_true rfl) (fun X C E hnL => ?_)
  have C : Cx X cJ0_charAt_5068e RJ0 (n + 7) := C
  show WM X 0 [(0, vR idS), (1, vI (i : Int))] [] M
  refine m_aload_n C 0 dJ0_charAt_5068e_0 rfl rfl ?_
  refine m_callTi C (as := []) (rest := []) ok_J0_isLatin1 ml_J0_492 rfl rfl rfl (Nat.le_of_ble_eq_true rfl) (fun _ => rfl) dJ0_charAt_5068e_1 (c_isLatin1 (n := n + 6) ?_)
  refine m_if_eq C (tgt := 16) dJ0_charAt_5068e_4 (by decide) (fun e => absurd e (by decide)) (fun e => ?_)
  refine m_aload_n C 0 dJ0_charAt_5068e_7 rfl rfl ?_
  refine m_getSv C dJ0_charAt_5068e_8 ?_
  refine m_iload_n C 1 dJ0_charAt_5068e_11 rfl rfl ?_
  refine m_callSi C (as := [vR idB, vI (i : Int)]) (rest := []) ok_J1_charAt ml_J0_495 rfl rfl (Nat.le_of_ble_eq_true rfl) (fun _ => rfl) dJ0_charAt_5068e_12 (c_J1_charAt (n := n + 4) hi ?_)
  exact m_nret C E (ws_nar i hi) rfl rfl dJ0_charAt_5068e_15 hq
