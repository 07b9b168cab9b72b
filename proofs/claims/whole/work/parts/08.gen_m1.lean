def B_X10_in (n : Nat) (a1 : Int) (a2 : Int) (a3 : Int) (M : Mem) (Q : Int → Mem → Prop)  : Prop :=
  (((l_c a1 a2) < 0 →
  Q 0 M) ∧ (¬ (l_c a1 a2) < 0 →
  ((0 < (l_c a1 a3) →
    Q 0 M) ∧ (¬ 0 < (l_c a1 a3) →
    Q 1 M))))
set_option maxHeartbeats 4000000 in
set_option maxRecDepth 20000 in
theorem g_X10_in {n : Nat} {a1 : Int} {a2 : Int} {a3 : Int} {M : Mem} {Q : Int → Mem → Prop}  (h : B_X10_in n a1 a2 a3 M Q) : Con (n + 1) md_X10_in [vL a1, vL a2, vL a3] M Q := by
  refine Con.ofF (n := n + 1) (Nat.succ_pos n) pl_X10_in (Nat.le_of_ble_eq_true rfl) (fun X C E hnL => ?_)
  have C : Cx X cX10_in RX10 n := C
  show WM X 0 [(0, vL a1), (2, vL a2), (4, vL a3)] [] M
  unfold B_X10_in at h
  refine m_lload_n C 0 dX10_in_0 rfl rfl ?_
  refine m_lload_n C 1 dX10_in_1 rfl rfl ?_
  refine m_lcmp C dX10_in_2 ?_
  refine m_if_lt C (tgt := 17) dX10_in_3 (by decide) (fun e => ?_) (fun e => ?_)
  · have h := h.1 e
    refine m_iconst C dX10_in_17 (r32_of rfl) ?_
    exact m_iret C E (Or.inr ⟨rfl, Or.inl rfl⟩) dX10_in_18 h
  · have h := h.2 e
    refine m_lload_n C 0 dX10_in_6 rfl rfl ?_
    refine m_lload C 2 dX10_in_7 rfl ?_
    refine m_lcmp C dX10_in_9 ?_
    refine m_if_gt C (tgt := 17) dX10_in_10 (by decide) (fun e => ?_) (fun e => ?_)
    · have h := h.1 e
      refine m_iconst C dX10_in_17 (r32_of rfl) ?_
      exact m_iret C E (Or.inr ⟨rfl, Or.inl rfl⟩) dX10_in_18 h
    · have h := h.2 e
      refine m_iconst C dX10_in_13 (r32_of rfl) ?_
      refine m_goto C (tgt := 18) dX10_in_14 (by decide) ?_
      exact m_iret C E (Or.inr ⟨rfl, Or.inr rfl⟩) dX10_in_18 h
def B_X10_within (n : Nat) (a1 : Int) (a2 : Int) (a3 : Int) (M : Mem) (Q : Int → Mem → Prop)  : Prop :=
  ((a2 ≤ a1 →
  ((a1 ≤ a3 →
    Q a1 M) ∧ (¬ a1 ≤ a3 →
    Q a3 M))) ∧ (¬ a2 ≤ a1 →
  Q a2 M))
set_option maxHeartbeats 4000000 in
set_option maxRecDepth 20000 in
theorem g_X10_within {n : Nat} {a1 : Int} {a2 : Int} {a3 : Int} {M : Mem} {Q : Int → Mem → Prop}  (h : B_X10_within n a1 a2 a3 M Q) : Con (n + 1) md_X10_within [vI a1, vI a2, vI a3] M Q := by
  refine Con.ofF (n := n + 1) (Nat.succ_pos n) pl_X10_within (Nat.le_of_ble_eq_true rfl) (fun X C E hnL => ?_)
  have C : Cx X cX10_within RX10 n := C
  show WM X 0 [(0, vI a1), (1, vI a2), (2, vI a3)] [] M
  unfold B_X10_within at h
  refine m_iload_n C 0 dX10_within_0 rfl rfl ?_
  refine m_iload_n C 1 dX10_within_1 rfl rfl ?_
  refine m_icmp_ge C (tgt := 9) dX10_within_2 (by decide) (fun e => ?_) (fun e => ?_)
  · have h := h.1 e
    refine m_iload_n C 0 dX10_within_9 rfl rfl ?_
    refine m_iload_n C 2 dX10_within_10 rfl rfl ?_
    refine m_icmp_le C (tgt := 18) dX10_within_11 (by decide) (fun e => ?_) (fun e => ?_)
    · have h := h.1 e
      refine m_iload_n C 0 dX10_within_18 rfl rfl ?_
      exact m_iret C E (Or.inl rfl) dX10_within_19 h
    · have h := h.2 e
      refine m_iload_n C 2 dX10_within_14 rfl rfl ?_
      refine m_goto C (tgt := 19) dX10_within_15 (by decide) ?_
      exact m_iret C E (Or.inl rfl) dX10_within_19 h
  · have h := h.2 e
    refine m_iload_n C 1 dX10_within_5 rfl rfl ?_
    refine m_goto C (tgt := 19) dX10_within_6 (by decide) ?_
    exact m_iret C E (Or.inl rfl) dX10_within_19 h
def B_X10_spell (n : Nat) (a1 : Int) (a2 : Int) (a3 : Int) (a4 : Int) (a5 : Int) (a6 : Int) (a7 : Int) (a8 : Int) (a9 : Int) (M : Mem) (Q : Int → Mem → Prop)  : Prop :=
  ((0 ≤ a1 ∧ a1 < 960) ∧ (∀ M1 : Mem, M1 = up M 52 (Int.toNat a1) a2 →
  ((0 ≤ (w32 (a1 + 1)) ∧ (w32 (a1 + 1)) < 960) ∧ (∀ M2 : Mem, M2 = up M1 52 (Int.toNat (w32 (a1 + 1))) a3 →
  ((0 ≤ (w32 (a1 + 2)) ∧ (w32 (a1 + 2)) < 960) ∧ (∀ M3 : Mem, M3 = up M2 52 (Int.toNat (w32 (a1 + 2))) a4 →
  ((0 ≤ (w32 (a1 + 3)) ∧ (w32 (a1 + 3)) < 960) ∧ (∀ M4 : Mem, M4 = up M3 52 (Int.toNat (w32 (a1 + 3))) a5 →
  ((0 ≤ (w32 (a1 + 4)) ∧ (w32 (a1 + 4)) < 960) ∧ (∀ M5 : Mem, M5 = up M4 52 (Int.toNat (w32 (a1 + 4))) a6 →
  ((0 ≤ (w32 (a1 + 5)) ∧ (w32 (a1 + 5)) < 960) ∧ (∀ M6 : Mem, M6 = up M5 52 (Int.toNat (w32 (a1 + 5))) a7 →
  ((0 ≤ (w32 (a1 + 6)) ∧ (w32 (a1 + 6)) < 960) ∧ (∀ M7 : Mem, M7 = up M6 52 (Int.toNat (w32 (a1 + 6))) a8 →
  ((0 ≤ (w32 (a1 + 7)) ∧ (w32 (a1 + 7)) < 960) ∧ (∀ M8 : Mem, M8 = up M7 52 (Int.toNat (w32 (a1 + 7))) a9 →
  Q 0 M8))))))))))))))))
set_option maxHeartbeats 4000000 in
set_option maxRecDepth 20000 in
theorem g_X10_spell {n : Nat} {a1 : Int} {a2 : Int} {a3 : Int} {a4 : Int} {a5 : Int} {a6 : Int} {a7 : Int} {a8 : Int} {a9 : Int} {M : Mem} {Q : Int → Mem → Prop}  (h : B_X10_spell n a1 a2 a3 a4 a5 a6 a7 a8 a9 M Q) : Con (n + 1) md_X10_spell [vR 51, vI a1, vI a2, vI a3, vI a4, vI a5, vI a6, vI a7, vI a8, vI a9] M Q := by
  refine Con.ofF (n := n + 1) (Nat.succ_pos n) pl_X10_spell (Nat.le_of_ble_eq_true rfl) (fun X C E hnL => ?_)
  have C : Cx X cX10_spell RX10 n := C
  show WM X 0 [(0, vR 51), (1, vI a1), (2, vI a2), (3, vI a3), (4, vI a4), (5, vI a5), (6, vI a6), (7, vI a7), (8, vI a8), (9, vI a9)] [] M
  unfold B_X10_spell at h
  refine m_aload_n C 0 dX10_spell_0 rfl rfl ?_
  refine m_getR C (k := 1) cl_X10 (by decide) so_51 rfl fl_X10_13 dX10_spell_1 ?_
  refine m_iload_n C 1 dX10_spell_4 rfl rfl ?_
  refine m_iload_n C 2 dX10_spell_5 rfl rfl ?_
  refine m_iast C (N := 960) sa_52 h.1 dX10_spell_6 ?_
  have h := h.2
  generalize eM1 : up M 52 (Int.toNat a1) a2 = M1
  have h := h M1 eM1.symm
  refine m_aload_n C 0 dX10_spell_7 rfl rfl ?_
  refine m_getR C (k := 1) cl_X10 (by decide) so_51 rfl fl_X10_13 dX10_spell_8 ?_
  refine m_iload_n C 1 dX10_spell_11 rfl rfl ?_
  refine m_iconst C dX10_spell_12 (r32_of rfl) ?_
  refine m_iadd C dX10_spell_13 ?_
  refine m_iload_n C 3 dX10_spell_14 rfl rfl ?_
  refine m_iast C (N := 960) sa_52 h.1 dX10_spell_15 ?_
  have h := h.2
  generalize eM2 : up M1 52 (Int.toNat (w32 (a1 + 1))) a3 = M2
  have h := h M2 eM2.symm
  refine m_aload_n C 0 dX10_spell_16 rfl rfl ?_
  refine m_getR C (k := 1) cl_X10 (by decide) so_51 rfl fl_X10_13 dX10_spell_17 ?_
  refine m_iload_n C 1 dX10_spell_20 rfl rfl ?_
  refine m_iconst C dX10_spell_21 (r32_of rfl) ?_
  refine m_iadd C dX10_spell_22 ?_
  refine m_iload C 4 dX10_spell_23 rfl ?_
  refine m_iast C (N := 960) sa_52 h.1 dX10_spell_25 ?_
  have h := h.2
  generalize eM3 : up M2 52 (Int.toNat (w32 (a1 + 2))) a4 = M3
  have h := h M3 eM3.symm
  refine m_aload_n C 0 dX10_spell_26 rfl rfl ?_
  refine m_getR C (k := 1) cl_X10 (by decide) so_51 rfl fl_X10_13 dX10_spell_27 ?_
  refine m_iload_n C 1 dX10_spell_30 rfl rfl ?_
  refine m_iconst C dX10_spell_31 (r32_of rfl) ?_
  refine m_iadd C dX10_spell_32 ?_
  refine m_iload C 5 dX10_spell_33 rfl ?_
  refine m_iast C (N := 960) sa_52 h.1 dX10_spell_35 ?_
  have h := h.2
  generalize eM4 : up M3 52 (Int.toNat (w32 (a1 + 3))) a5 = M4
  have h := h M4 eM4.symm
  refine m_aload_n C 0 dX10_spell_36 rfl rfl ?_
  refine m_getR C (k := 1) cl_X10 (by decide) so_51 rfl fl_X10_13 dX10_spell_37 ?_
  refine m_iload_n C 1 dX10_spell_40 rfl rfl ?_
  refine m_iconst C dX10_spell_41 (r32_of rfl) ?_
  refine m_iadd C dX10_spell_42 ?_
  refine m_iload C 6 dX10_spell_43 rfl ?_
  refine m_iast C (N := 960) sa_52 h.1 dX10_spell_45 ?_
  have h := h.2
  generalize eM5 : up M4 52 (Int.toNat (w32 (a1 + 4))) a6 = M5
  have h := h M5 eM5.symm
  refine m_aload_n C 0 dX10_spell_46 rfl rfl ?_
  refine m_getR C (k := 1) cl_X10 (by decide) so_51 rfl fl_X10_13 dX10_spell_47 ?_
  refine m_iload_n C 1 dX10_spell_50 rfl rfl ?_
  refine m_iconst C dX10_spell_51 (r32_of rfl) ?_
  refine m_iadd C dX10_spell_52 ?_
  refine m_iload C 7 dX10_spell_53 rfl ?_
  refine m_iast C (N := 960) sa_52 h.1 dX10_spell_55 ?_
  have h := h.2
  generalize eM6 : up M5 52 (Int.toNat (w32 (a1 + 5))) a7 = M6
  have h := h M6 eM6.symm
  refine m_aload_n C 0 dX10_spell_56 rfl rfl ?_
  refine m_getR C (k := 1) cl_X10 (by decide) so_51 rfl fl_X10_13 dX10_spell_57 ?_
  refine m_iload_n C 1 dX10_spell_60 rfl rfl ?_
  refine m_bipush C dX10_spell_61 (r32_of rfl) (by decide) ?_
  refine m_iadd C dX10_spell_63 ?_
  refine m_iload C 8 dX10_spell_64 rfl ?_
  refine m_iast C (N := 960) sa_52 h.1 dX10_spell_66 ?_
  have h := h.2
  generalize eM7 : up M6 52 (Int.toNat (w32 (a1 + 6))) a8 = M7
  have h := h M7 eM7.symm
  refine m_aload_n C 0 dX10_spell_67 rfl rfl ?_
  refine m_getR C (k := 1) cl_X10 (by decide) so_51 rfl fl_X10_13 dX10_spell_68 ?_
  refine m_iload_n C 1 dX10_spell_71 rfl rfl ?_
  refine m_bipush C dX10_spell_72 (r32_of rfl) (by decide) ?_
  refine m_iadd C dX10_spell_74 ?_
  refine m_iload C 9 dX10_spell_75 rfl ?_
  refine m_iast C (N := 960) sa_52 h.1 dX10_spell_77 ?_
  have h := h.2
  generalize eM8 : up M7 52 (Int.toNat (w32 (a1 + 7))) a9 = M8
  have h := h M8 eM8.symm
  exact m_vret C E dX10_spell_78 h
def B_X10_isFlower (n : Nat) (a1 : Int) (M : Mem) (Q : Int → Mem → Prop)  : Prop :=
  Con n md_X10_in [vL a1, vL 0, vL (w32 ((M 51 11) - 1))] M (fun r1 M2 =>
  ((r1 = 0 ∨ r1 = 1) ∧ Q r1 M2))
set_option maxHeartbeats 4000000 in
set_option maxRecDepth 20000 in
theorem g_X10_isFlower {n : Nat} {a1 : Int} {M : Mem} {Q : Int → Mem → Prop}  (h : B_X10_isFlower n a1 M Q) : Con (n + 1) md_X10_isFlower [vR 51, vI a1] M Q := by
  refine Con.ofF (n := n + 1) (Nat.succ_pos n) pl_X10_isFlower (Nat.le_of_ble_eq_true rfl) (fun X C E hnL => ?_)
  have C : Cx X cX10_isFlower RX10 n := C
  show WM X 0 [(0, vR 51), (1, vI a1)] [] M
  unfold B_X10_isFlower at h
  refine m_iload_n C 1 dX10_isFlower_0 rfl rfl ?_
  refine m_i2l C dX10_isFlower_1 ?_
  refine m_lconst C (x := 0) dX10_isFlower_2 (by decide) (r64_of rfl) ?_
  refine m_aload_n C 0 dX10_isFlower_3 rfl rfl ?_
  refine m_getI C (k := 11) cl_X10 (by decide) so_51 rfl fl_X10_76 dX10_isFlower_4 ?_
  refine m_iconst C dX10_isFlower_7 (r32_of rfl) ?_
  refine m_isub C dX10_isFlower_8 ?_
  refine m_i2l C dX10_isFlower_9 ?_
  refine m_callSi C (as := [vL a1, vL 0, vL (w32 ((M 51 11) - 1))]) (rest := []) ok_X10_in ml_X10_79 rfl rfl (Nat.le_of_ble_eq_true rfl) (fun _ => rfl) dX10_isFlower_10 (Con.mono h (fun r1 M2 _ _ h => ?_))
  exact m_iret C E (Or.inr ⟨rfl, h.1⟩) dX10_isFlower_13 h.2
def B_X10_mostOf (n : Nat) (a1 : Int) (M : Mem) (Q : Int → Mem → Prop)  : Prop :=
  ((a1 = 0 →
  Q 400 M) ∧ (¬ a1 = 0 →
  ((a1 = 1 →
    Q 15 M) ∧ (¬ a1 = 1 →
    ((a1 = 2 →
      Q 9 M) ∧ (¬ a1 = 2 →
      ((a1 = 3 →
        Q 4 M) ∧ (¬ a1 = 3 →
        Q 40 M))))))))
set_option maxHeartbeats 4000000 in
set_option maxRecDepth 20000 in
theorem g_X10_mostOf {n : Nat} {a1 : Int} {M : Mem} {Q : Int → Mem → Prop}  (h : B_X10_mostOf n a1 M Q) : Con (n + 1) md_X10_mostOf [vI a1] M Q := by
  refine Con.ofF (n := n + 1) (Nat.succ_pos n) pl_X10_mostOf (Nat.le_of_ble_eq_true rfl) (fun X C E hnL => ?_)
  have C : Cx X cX10_mostOf RX10 n := C
  show WM X 0 [(0, vI a1)] [] M
  unfold B_X10_mostOf at h
  refine m_iload_n C 0 dX10_mostOf_0 rfl rfl ?_
  refine m_if_ne C (tgt := 10) dX10_mostOf_1 (by decide) (fun e => ?_) (fun e => ?_)
  · have h := h.2 e
    refine m_iload_n C 0 dX10_mostOf_10 rfl rfl ?_
    refine m_iconst C dX10_mostOf_11 (r32_of rfl) ?_
    refine m_icmp_ne C (tgt := 20) dX10_mostOf_12 (by decide) (fun e => ?_) (fun e => ?_)
    · have h := h.2 e
      refine m_iload_n C 0 dX10_mostOf_20 rfl rfl ?_
      refine m_iconst C dX10_mostOf_21 (r32_of rfl) ?_
      refine m_icmp_ne C (tgt := 30) dX10_mostOf_22 (by decide) (fun e => ?_) (fun e => ?_)
      · have h := h.2 e
        refine m_iload_n C 0 dX10_mostOf_30 rfl rfl ?_
        refine m_iconst C dX10_mostOf_31 (r32_of rfl) ?_
        refine m_icmp_ne C (tgt := 39) dX10_mostOf_32 (by decide) (fun e => ?_) (fun e => ?_)
        · have h := h.2 e
          refine m_bipush C dX10_mostOf_39 (r32_of rfl) (by decide) ?_
          exact m_iret C E (Or.inl rfl) dX10_mostOf_41 h
        · have h := h.1 e
          refine m_iconst C dX10_mostOf_35 (r32_of rfl) ?_
          refine m_goto C (tgt := 41) dX10_mostOf_36 (by decide) ?_
          exact m_iret C E (Or.inl rfl) dX10_mostOf_41 h
      · have h := h.1 e
        refine m_bipush C dX10_mostOf_25 (r32_of rfl) (by decide) ?_
        refine m_goto C (tgt := 41) dX10_mostOf_27 (by decide) ?_
        exact m_iret C E (Or.inl rfl) dX10_mostOf_41 h
    · have h := h.1 e
      refine m_bipush C dX10_mostOf_15 (r32_of rfl) (by decide) ?_
      refine m_goto C (tgt := 41) dX10_mostOf_17 (by decide) ?_
      exact m_iret C E (Or.inl rfl) dX10_mostOf_41 h
  · have h := h.1 e
    refine m_sipush C dX10_mostOf_4 (r32_of rfl) (by decide) ?_
    refine m_goto C (tgt := 41) dX10_mostOf_7 (by decide) ?_
    exact m_iret C E (Or.inl rfl) dX10_mostOf_41 h
def B_X10_set (n : Nat) (a1 : Int) (a2 : Int) (a3 : Int) (M : Mem) (Q : Int → Mem → Prop)  : Prop :=
  Con n md_X10_in [vL a1, vL 0, vL 4] M (fun r1 M2 =>
  ((r1 = 0 →
  Q (-2) M2) ∧ (¬ r1 = 0 →
  ((a1 ≤ 1 →
    Con n md_X10_mostOf [vI a1] M2 (fun r3 M4 =>
      Con n md_X10_in [vL a3, vL 0, vL r3] M4 (fun r5 M6 =>
      ((r5 = 0 →
      Q (-2) M6) ∧ (¬ r5 = 0 →
      Con n md_X10_told [vR 51, vI a2, vI a1] M6 (fun r7 M8 =>
        Con n md_X10_lays [vR 51, vI a1, vI a2, vI a3] M8 (fun _ M10 =>
        Q r7 M10))))))) ∧ (¬ a1 ≤ 1 →
    Con n md_X10_isFlower [vR 51, vI a2] M2 (fun r11 M12 =>
      ((r11 = 0 →
      Q (-2) M12) ∧ (¬ r11 = 0 →
      Con n md_X10_mostOf [vI a1] M12 (fun r13 M14 =>
        Con n md_X10_in [vL a3, vL 0, vL r13] M14 (fun r15 M16 =>
        ((r15 = 0 →
        Q (-2) M16) ∧ (¬ r15 = 0 →
        Con n md_X10_told [vR 51, vI a2, vI a1] M16 (fun r17 M18 =>
          Con n md_X10_lays [vR 51, vI a1, vI a2, vI a3] M18 (fun _ M20 =>
          Q r17 M20))))))))))))))
set_option maxHeartbeats 4000000 in
set_option maxRecDepth 20000 in
theorem g_X10_set {n : Nat} {a1 : Int} {a2 : Int} {a3 : Int} {M : Mem} {Q : Int → Mem → Prop}  (h : B_X10_set n a1 a2 a3 M Q) : Con (n + 1) md_X10_set [vR 51, vI a1, vI a2, vI a3] M Q := by
  refine Con.ofF (n := n + 1) (Nat.succ_pos n) pl_X10_set (Nat.le_of_ble_eq_true rfl) (fun X C E hnL => ?_)
  have C : Cx X cX10_set RX10 n := C
  show WM X 0 [(0, vR 51), (1, vI a1), (2, vI a2), (3, vI a3)] [] M
  unfold B_X10_set at h
  refine m_iload_n C 1 dX10_set_0 rfl rfl ?_
  refine m_i2l C dX10_set_1 ?_
  refine m_lconst C (x := 0) dX10_set_2 (by decide) (r64_of rfl) ?_
  refine m_ldc2 C (v := 4) dX10_set_3 kc_X10_83 (r64_of rfl) ?_
  refine m_callSi C (as := [vL a1, vL 0, vL 4]) (rest := []) ok_X10_in ml_X10_79 rfl rfl (Nat.le_of_ble_eq_true rfl) (fun _ => rfl) dX10_set_6 (Con.mono h (fun r1 M2 _ _ h => ?_))
  refine m_if_eq C (tgt := 39) dX10_set_9 (by decide) (fun e => ?_) (fun e => ?_)
  · have h := h.1 e
    refine m_bipush C dX10_set_39 (r32_of rfl) (by decide) ?_
    exact m_iret C E (Or.inl rfl) dX10_set_41 h
  · have h := h.2 e
    refine m_iload_n C 1 dX10_set_12 rfl rfl ?_
    refine m_iconst C dX10_set_13 (r32_of rfl) ?_
    refine m_icmp_le C (tgt := 25) dX10_set_14 (by decide) (fun e => ?_) (fun e => ?_)
    · have h := h.1 e
      refine m_iload_n C 3 dX10_set_25 rfl rfl ?_
      refine m_i2l C dX10_set_26 ?_
      refine m_lconst C (x := 0) dX10_set_27 (by decide) (r64_of rfl) ?_
      refine m_iload_n C 1 dX10_set_28 rfl rfl ?_
      refine m_callSi C (as := [vI a1]) (rest := [vL 0, vL a3]) ok_X10_mostOf ml_X10_89 rfl rfl (Nat.le_of_ble_eq_true rfl) (fun _ => rfl) dX10_set_29 (Con.mono h (fun r3 M4 _ _ h => ?_))
      refine m_i2l C dX10_set_32 ?_
      refine m_callSi C (as := [vL a3, vL 0, vL r3]) (rest := []) ok_X10_in ml_X10_79 rfl rfl (Nat.le_of_ble_eq_true rfl) (fun _ => rfl) dX10_set_33 (Con.mono h (fun r5 M6 _ _ h => ?_))
      refine m_if_ne C (tgt := 42) dX10_set_36 (by decide) (fun e => ?_) (fun e => ?_)
      · have h := h.2 e
        refine m_aload_n C 0 dX10_set_42 rfl rfl ?_
        refine m_iload_n C 2 dX10_set_43 rfl rfl ?_
        refine m_iload_n C 1 dX10_set_44 rfl rfl ?_
        refine m_callVi C (as := [vI a2, vI a1]) (rest := []) ok_X10_told ml_X10_93 so_51 rfl rfl rfl (Nat.le_of_ble_eq_true rfl) (fun _ => rfl) dX10_set_45 (Con.mono h (fun r7 M8 _ _ h => ?_))
        refine m_istore C (L' := [(4, vI r7), (0, vR 51), (1, vI a1), (2, vI a2), (3, vI a3)]) dX10_set_48 (by rw [hnL]; decide) rfl ?_
        refine m_aload_n C 1 dX10_set_50 rfl rfl ?_
        refine m_iload_n C 2 dX10_set_51 rfl rfl ?_
        refine m_iload_n C 3 dX10_set_52 rfl rfl ?_
        refine m_iload_n C 4 dX10_set_53 rfl rfl ?_
        refine m_callVv C (as := [vI a1, vI a2, vI a3]) (rest := []) ok_X10_lays ml_X10_97 so_51 rfl rfl rfl (Nat.le_of_ble_eq_true rfl) (fun _ => rfl) dX10_set_54 (Con.mono h (fun _ M10 _ _ h => ?_))
        refine m_iload C 0 dX10_set_57 rfl ?_
        exact m_iret C E (Or.inl rfl) dX10_set_59 h
      · have h := h.1 e
        refine m_bipush C dX10_set_39 (r32_of rfl) (by decide) ?_
        exact m_iret C E (Or.inl rfl) dX10_set_41 h
    · have h := h.2 e
      refine m_aload_n C 0 dX10_set_17 rfl rfl ?_
      refine m_iload_n C 2 dX10_set_18 rfl rfl ?_
      refine m_callVi C (as := [vI a2]) (rest := []) ok_X10_isFlower ml_X10_85 so_51 rfl rfl rfl (Nat.le_of_ble_eq_true rfl) (fun _ => rfl) dX10_set_19 (Con.mono h (fun r11 M12 _ _ h => ?_))
      refine m_if_eq C (tgt := 39) dX10_set_22 (by decide) (fun e => ?_) (fun e => ?_)
      · have h := h.1 e
        refine m_bipush C dX10_set_39 (r32_of rfl) (by decide) ?_
        exact m_iret C E (Or.inl rfl) dX10_set_41 h
      · have h := h.2 e
        refine m_iload_n C 3 dX10_set_25 rfl rfl ?_
        refine m_i2l C dX10_set_26 ?_
        refine m_lconst C (x := 0) dX10_set_27 (by decide) (r64_of rfl) ?_
        refine m_iload_n C 1 dX10_set_28 rfl rfl ?_
        refine m_callSi C (as := [vI a1]) (rest := [vL 0, vL a3]) ok_X10_mostOf ml_X10_89 rfl rfl (Nat.le_of_ble_eq_true rfl) (fun _ => rfl) dX10_set_29 (Con.mono h (fun r13 M14 _ _ h => ?_))
        refine m_i2l C dX10_set_32 ?_
        refine m_callSi C (as := [vL a3, vL 0, vL r13]) (rest := []) ok_X10_in ml_X10_79 rfl rfl (Nat.le_of_ble_eq_true rfl) (fun _ => rfl) dX10_set_33 (Con.mono h (fun r15 M16 _ _ h => ?_))
        refine m_if_ne C (tgt := 42) dX10_set_36 (by decide) (fun e => ?_) (fun e => ?_)
        · have h := h.2 e
          refine m_aload_n C 0 dX10_set_42 rfl rfl ?_
          refine m_iload_n C 2 dX10_set_43 rfl rfl ?_
          refine m_iload_n C 1 dX10_set_44 rfl rfl ?_
          refine m_callVi C (as := [vI a2, vI a1]) (rest := []) ok_X10_told ml_X10_93 so_51 rfl rfl rfl (Nat.le_of_ble_eq_true rfl) (fun _ => rfl) dX10_set_45 (Con.mono h (fun r17 M18 _ _ h => ?_))
          refine m_istore C (L' := [(4, vI r17), (0, vR 51), (1, vI a1), (2, vI a2), (3, vI a3)]) dX10_set_48 (by rw [hnL]; decide) rfl ?_
          refine m_aload_n C 1 dX10_set_50 rfl rfl ?_
          refine m_iload_n C 2 dX10_set_51 rfl rfl ?_
          refine m_iload_n C 3 dX10_set_52 rfl rfl ?_
          refine m_iload_n C 4 dX10_set_53 rfl rfl ?_
          refine m_callVv C (as := [vI a1, vI a2, vI a3]) (rest := []) ok_X10_lays ml_X10_97 so_51 rfl rfl rfl (Nat.le_of_ble_eq_true rfl) (fun _ => rfl) dX10_set_54 (Con.mono h (fun _ M20 _ _ h => ?_))
          refine m_iload C 0 dX10_set_57 rfl ?_
          exact m_iret C E (Or.inl rfl) dX10_set_59 h
        · have h := h.1 e
          refine m_bipush C dX10_set_39 (r32_of rfl) (by decide) ?_
          exact m_iret C E (Or.inl rfl) dX10_set_41 h
def B_X10_lays (n : Nat) (a1 : Int) (a2 : Int) (a3 : Int) (M : Mem) (Q : Int → Mem → Prop)  : Prop :=
  ((a1 = 0 →
  (∀ M5 : Mem, M5 = up M 51 7 a3 →
    Q 0 M5)) ∧ (¬ a1 = 0 →
  ((a1 = 1 →
    (∀ M4 : Mem, M4 = up M 51 8 a3 →
      Q 0 M4)) ∧ (¬ a1 = 1 →
    ((5 ≤ a1 →
      ((a1 = 5 →
        ((0 ≤ a2 ∧ a2 < 6) ∧ (∀ M2 : Mem, M2 = up M 55 (Int.toNat a2) a3 →
          Q 0 M2))) ∧ (¬ a1 = 5 →
        (∀ M1 : Mem, M1 = up M 51 4 a3 →
          Q 0 M1)))) ∧ (¬ 5 ≤ a1 →
      ((0 ≤ (w32 ((w32 ((w32 (3 * a2)) + a1)) - 2)) ∧ (w32 ((w32 ((w32 (3 * a2)) + a1)) - 2)) < 18) ∧ (∀ M3 : Mem, M3 = up M 56 (Int.toNat (w32 ((w32 ((w32 (3 * a2)) + a1)) - 2))) a3 →
        Q 0 M3))))))))
set_option maxHeartbeats 4000000 in
set_option maxRecDepth 20000 in
theorem g_X10_lays {n : Nat} {a1 : Int} {a2 : Int} {a3 : Int} {M : Mem} {Q : Int → Mem → Prop}  (h : B_X10_lays n a1 a2 a3 M Q) : Con (n + 1) md_X10_lays [vR 51, vI a1, vI a2, vI a3] M Q := by
  refine Con.ofF (n := n + 1) (Nat.succ_pos n) pl_X10_lays (Nat.le_of_ble_eq_true rfl) (fun X C E hnL => ?_)
  have C : Cx X cX10_lays RX10 n := C
  show WM X 0 [(0, vR 51), (1, vI a1), (2, vI a2), (3, vI a3)] [] M
  unfold B_X10_lays at h
  refine m_iload_n C 1 dX10_lays_0 rfl rfl ?_
  refine m_if_ne C (tgt := 12) dX10_lays_1 (by decide) (fun e => ?_) (fun e => ?_)
  · have h := h.2 e
    refine m_iload_n C 1 dX10_lays_12 rfl rfl ?_
    refine m_iconst C dX10_lays_13 (r32_of rfl) ?_
    refine m_icmp_ne C (tgt := 25) dX10_lays_14 (by decide) (fun e => ?_) (fun e => ?_)
    · have h := h.2 e
      refine m_iload_n C 1 dX10_lays_25 rfl rfl ?_
      refine m_iconst C dX10_lays_26 (r32_of rfl) ?_
      refine m_icmp_ge C (tgt := 46) dX10_lays_27 (by decide) (fun e => ?_) (fun e => ?_)
      · have h := h.1 e
        refine m_iload_n C 1 dX10_lays_46 rfl rfl ?_
        refine m_iconst C dX10_lays_47 (r32_of rfl) ?_
        refine m_icmp_ne C (tgt := 61) dX10_lays_48 (by decide) (fun e => ?_) (fun e => ?_)
        · have h := h.2 e
          refine m_aload_n C 0 dX10_lays_61 rfl rfl ?_
          refine m_iload_n C 3 dX10_lays_62 rfl rfl ?_
          refine m_putI C (k := 4) cl_X10 (by decide) so_51 rfl rfl rfl fl_X10_104 dX10_lays_63 ?_
          generalize eM1 : up M 51 4 a3 = M1
          have h := h M1 eM1.symm
          exact m_vret C E dX10_lays_66 h
        · have h := h.1 e
          refine m_aload_n C 0 dX10_lays_51 rfl rfl ?_
          refine m_getR C (k := 9) cl_X10 (by decide) so_51 rfl fl_X10_26 dX10_lays_52 ?_
          refine m_iload_n C 2 dX10_lays_55 rfl rfl ?_
          refine m_iload_n C 3 dX10_lays_56 rfl rfl ?_
          refine m_iast C (N := 6) sa_55 h.1 dX10_lays_57 ?_
          have h := h.2
          generalize eM2 : up M 55 (Int.toNat a2) a3 = M2
          have h := h M2 eM2.symm
          refine m_goto C (tgt := 66) dX10_lays_58 (by decide) ?_
          exact m_vret C E dX10_lays_66 h
      · have h := h.2 e
        refine m_aload_n C 0 dX10_lays_30 rfl rfl ?_
        refine m_getR C (k := 10) cl_X10 (by decide) so_51 rfl fl_X10_29 dX10_lays_31 ?_
        refine m_iconst C dX10_lays_34 (r32_of rfl) ?_
        refine m_iload_n C 2 dX10_lays_35 rfl rfl ?_
        refine m_imul C dX10_lays_36 ?_
        refine m_iload_n C 1 dX10_lays_37 rfl rfl ?_
        refine m_iadd C dX10_lays_38 ?_
        refine m_iconst C dX10_lays_39 (r32_of rfl) ?_
        refine m_isub C dX10_lays_40 ?_
        refine m_iload_n C 3 dX10_lays_41 rfl rfl ?_
        refine m_iast C (N := 18) sa_56 h.1 dX10_lays_42 ?_
        have h := h.2
        generalize eM3 : up M 56 (Int.toNat (w32 ((w32 ((w32 (3 * a2)) + a1)) - 2))) a3 = M3
        have h := h M3 eM3.symm
        refine m_goto C (tgt := 66) dX10_lays_43 (by decide) ?_
        exact m_vret C E dX10_lays_66 h
    · have h := h.1 e
      refine m_aload_n C 0 dX10_lays_17 rfl rfl ?_
      refine m_iload_n C 3 dX10_lays_18 rfl rfl ?_
      refine m_putI C (k := 8) cl_X10 (by decide) so_51 rfl rfl rfl fl_X10_101 dX10_lays_19 ?_
      generalize eM4 : up M 51 8 a3 = M4
      have h := h M4 eM4.symm
      refine m_goto C (tgt := 66) dX10_lays_22 (by decide) ?_
      exact m_vret C E dX10_lays_66 h
  · have h := h.1 e
    refine m_aload_n C 0 dX10_lays_4 rfl rfl ?_
    refine m_iload_n C 3 dX10_lays_5 rfl rfl ?_
    refine m_putI C (k := 7) cl_X10 (by decide) so_51 rfl rfl rfl fl_X10_23 dX10_lays_6 ?_
    generalize eM5 : up M 51 7 a3 = M5
    have h := h M5 eM5.symm
    refine m_goto C (tgt := 66) dX10_lays_9 (by decide) ?_
    exact m_vret C E dX10_lays_66 h
def B_X10_flower (n : Nat) (a1 : Int) (a2 : Int) (M : Mem) (Q : Int → Mem → Prop)  : Prop :=
  Con n md_X10_in [vL a1, vL 0, vL 5] M (fun r1 M2 =>
  ((r1 = 0 →
  Q (-2) M2) ∧ (¬ r1 = 0 →
  Con n md_X10_in [vL a2, vL 0, vL 9] M2 (fun r3 M4 =>
    ((r3 = 0 →
    Q (-2) M4) ∧ (¬ r3 = 0 →
    (((M4 51 11) = 6 →
      Q (-4) M4) ∧ (¬ (M4 51 11) = 6 →
      ((0 ≤ (M4 51 11) ∧ (M4 51 11) < 6) ∧ (∀ M5 : Mem, M5 = up M4 55 (Int.toNat (M4 51 11)) a1 →
        ((0 ≤ (w32 (3 * (M5 51 11))) ∧ (w32 (3 * (M5 51 11))) < 18) ∧ (∀ M6 : Mem, M6 = up M5 56 (Int.toNat (w32 (3 * (M5 51 11)))) a2 →
        ((0 ≤ (w32 ((w32 (3 * (M6 51 11))) + 1)) ∧ (w32 ((w32 (3 * (M6 51 11))) + 1)) < 18) ∧ (∀ M7 : Mem, M7 = up M6 56 (Int.toNat (w32 ((w32 (3 * (M6 51 11))) + 1))) 0 →
        ((0 ≤ (w32 ((w32 (3 * (M7 51 11))) + 2)) ∧ (w32 ((w32 (3 * (M7 51 11))) + 2)) < 18) ∧ (∀ M8 : Mem, M8 = up M7 56 (Int.toNat (w32 ((w32 (3 * (M7 51 11))) + 2))) 10 →
        (∀ M9 : Mem, M9 = up M8 51 11 (w32 ((M8 51 11) + 1)) →
        Q (w32 ((M9 51 11) - 1)) M9)))))))))))))))))
set_option maxHeartbeats 4000000 in
set_option maxRecDepth 20000 in
theorem g_X10_flower {n : Nat} {a1 : Int} {a2 : Int} {M : Mem} {Q : Int → Mem → Prop}  (h : B_X10_flower n a1 a2 M Q) : Con (n + 1) md_X10_flower [vR 51, vI a1, vI a2] M Q := by
  refine Con.ofF (n := n + 1) (Nat.succ_pos n) pl_X10_flower (Nat.le_of_ble_eq_true rfl) (fun X C E hnL => ?_)
  have C : Cx X cX10_flower RX10 n := C
  show WM X 0 [(0, vR 51), (1, vI a1), (2, vI a2)] [] M
  unfold B_X10_flower at h
  refine m_iload_n C 1 dX10_flower_0 rfl rfl ?_
  refine m_i2l C dX10_flower_1 ?_
  refine m_lconst C (x := 0) dX10_flower_2 (by decide) (r64_of rfl) ?_
  refine m_ldc2 C (v := 5) dX10_flower_3 kc_X10_107 (r64_of rfl) ?_
  refine m_callSi C (as := [vL a1, vL 0, vL 5]) (rest := []) ok_X10_in ml_X10_79 rfl rfl (Nat.le_of_ble_eq_true rfl) (fun _ => rfl) dX10_flower_6 (Con.mono h (fun r1 M2 _ _ h => ?_))
  refine m_if_eq C (tgt := 24) dX10_flower_9 (by decide) (fun e => ?_) (fun e => ?_)
  · have h := h.1 e
    refine m_bipush C dX10_flower_24 (r32_of rfl) (by decide) ?_
    exact m_iret C E (Or.inl rfl) dX10_flower_26 h
  · have h := h.2 e
    refine m_iload_n C 2 dX10_flower_12 rfl rfl ?_
    refine m_i2l C dX10_flower_13 ?_
    refine m_lconst C (x := 0) dX10_flower_14 (by decide) (r64_of rfl) ?_
    refine m_ldc2 C (v := 9) dX10_flower_15 kc_X10_109 (r64_of rfl) ?_
    refine m_callSi C (as := [vL a2, vL 0, vL 9]) (rest := []) ok_X10_in ml_X10_79 rfl rfl (Nat.le_of_ble_eq_true rfl) (fun _ => rfl) dX10_flower_18 (Con.mono h (fun r3 M4 _ _ h => ?_))
    refine m_if_ne C (tgt := 27) dX10_flower_21 (by decide) (fun e => ?_) (fun e => ?_)
    · have h := h.2 e
      refine m_aload_n C 0 dX10_flower_27 rfl rfl ?_
      refine m_getI C (k := 11) cl_X10 (by decide) so_51 rfl fl_X10_76 dX10_flower_28 ?_
      refine m_bipush C dX10_flower_31 (r32_of rfl) (by decide) ?_
      refine m_icmp_ne C (tgt := 39) dX10_flower_33 (by decide) (fun e => ?_) (fun e => ?_)
      · have h := h.2 e
        refine m_aload_n C 0 dX10_flower_39 rfl rfl ?_
        refine m_getR C (k := 9) cl_X10 (by decide) so_51 rfl fl_X10_26 dX10_flower_40 ?_
        refine m_aload_n C 0 dX10_flower_43 rfl rfl ?_
        refine m_getI C (k := 11) cl_X10 (by decide) so_51 rfl fl_X10_76 dX10_flower_44 ?_
        refine m_iload_n C 1 dX10_flower_47 rfl rfl ?_
        refine m_iast C (N := 6) sa_55 h.1 dX10_flower_48 ?_
        have h := h.2
        generalize eM5 : up M4 55 (Int.toNat (M4 51 11)) a1 = M5
        have h := h M5 eM5.symm
        refine m_aload_n C 0 dX10_flower_49 rfl rfl ?_
        refine m_getR C (k := 10) cl_X10 (by decide) so_51 rfl fl_X10_29 dX10_flower_50 ?_
        refine m_iconst C dX10_flower_53 (r32_of rfl) ?_
        refine m_aload_n C 0 dX10_flower_54 rfl rfl ?_
        refine m_getI C (k := 11) cl_X10 (by decide) so_51 rfl fl_X10_76 dX10_flower_55 ?_
        refine m_imul C dX10_flower_58 ?_
        refine m_iload_n C 2 dX10_flower_59 rfl rfl ?_
        refine m_iast C (N := 18) sa_56 h.1 dX10_flower_60 ?_
        have h := h.2
        generalize eM6 : up M5 56 (Int.toNat (w32 (3 * (M5 51 11)))) a2 = M6
        have h := h M6 eM6.symm
        refine m_aload_n C 0 dX10_flower_61 rfl rfl ?_
        refine m_getR C (k := 10) cl_X10 (by decide) so_51 rfl fl_X10_29 dX10_flower_62 ?_
        refine m_iconst C dX10_flower_65 (r32_of rfl) ?_
        refine m_aload_n C 0 dX10_flower_66 rfl rfl ?_
        refine m_getI C (k := 11) cl_X10 (by decide) so_51 rfl fl_X10_76 dX10_flower_67 ?_
        refine m_imul C dX10_flower_70 ?_
        refine m_iconst C dX10_flower_71 (r32_of rfl) ?_
        refine m_iadd C dX10_flower_72 ?_
        refine m_iconst C dX10_flower_73 (r32_of rfl) ?_
        refine m_iast C (N := 18) sa_56 h.1 dX10_flower_74 ?_
        have h := h.2
        generalize eM7 : up M6 56 (Int.toNat (w32 ((w32 (3 * (M6 51 11))) + 1))) 0 = M7
        have h := h M7 eM7.symm
        refine m_aload_n C 0 dX10_flower_75 rfl rfl ?_
        refine m_getR C (k := 10) cl_X10 (by decide) so_51 rfl fl_X10_29 dX10_flower_76 ?_
        refine m_iconst C dX10_flower_79 (r32_of rfl) ?_
        refine m_aload_n C 0 dX10_flower_80 rfl rfl ?_
        refine m_getI C (k := 11) cl_X10 (by decide) so_51 rfl fl_X10_76 dX10_flower_81 ?_
        refine m_imul C dX10_flower_84 ?_
        refine m_iconst C dX10_flower_85 (r32_of rfl) ?_
        refine m_iadd C dX10_flower_86 ?_
        refine m_bipush C dX10_flower_87 (r32_of rfl) (by decide) ?_
        refine m_iast C (N := 18) sa_56 h.1 dX10_flower_89 ?_
        have h := h.2
        generalize eM8 : up M7 56 (Int.toNat (w32 ((w32 (3 * (M7 51 11))) + 2))) 10 = M8
        have h := h M8 eM8.symm
        refine m_aload_n C 0 dX10_flower_90 rfl rfl ?_
        refine m_dupR C dX10_flower_91 ?_
        refine m_getI C (k := 11) cl_X10 (by decide) so_51 rfl fl_X10_76 dX10_flower_92 ?_
        refine m_iconst C dX10_flower_95 (r32_of rfl) ?_
        refine m_iadd C dX10_flower_96 ?_
        refine m_putI C (k := 11) cl_X10 (by decide) so_51 rfl rfl rfl fl_X10_76 dX10_flower_97 ?_
        generalize eM9 : up M8 51 11 (w32 ((M8 51 11) + 1)) = M9
        have h := h M9 eM9.symm
        refine m_aload_n C 0 dX10_flower_100 rfl rfl ?_
        refine m_getI C (k := 11) cl_X10 (by decide) so_51 rfl fl_X10_76 dX10_flower_101 ?_
        refine m_iconst C dX10_flower_104 (r32_of rfl) ?_
        refine m_isub C dX10_flower_105 ?_
        exact m_iret C E (Or.inl rfl) dX10_flower_106 h
      · have h := h.1 e
        refine m_bipush C dX10_flower_36 (r32_of rfl) (by decide) ?_
        exact m_iret C E (Or.inl rfl) dX10_flower_38 h
    · have h := h.1 e
      refine m_bipush C dX10_flower_24 (r32_of rfl) (by decide) ?_
      exact m_iret C E (Or.inl rfl) dX10_flower_26 h
def B_X10_told (n : Nat) (a1 : Int) (a2 : Int) (M : Mem) (Q : Int → Mem → Prop)  : Prop :=
  Con n md_X10_in [vL a2, vL 0, vL 9] M (fun r1 M2 =>
  ((r1 = 0 →
  Q (-2) M2) ∧ (¬ r1 = 0 →
  ((a2 ≤ 1 →
    ((5 ≤ a2 →
      ((7 ≤ a2 →
        Con n md_X10_looks [vR 51, vI a1] M2 (fun _ M4 =>
          ((a2 = 7 →
          Con n md_X10_turnsOf [vR 51, vI a1] M4 (fun r9 M10 =>
            Q r9 M10)) ∧ (¬ a2 = 7 →
          ((a2 = 8 →
            Con n md_X10_costsOf [vR 51, vI a1] M4 (fun r7 M8 =>
              Q r7 M8)) ∧ (¬ a2 = 8 →
            Con n md_X10_lastsOf [vR 51, vI a1] M4 (fun r5 M6 =>
              Q r5 M6))))))) ∧ (¬ 7 ≤ a2 →
        ((a2 = 5 →
          ((0 ≤ a1 ∧ a1 < 6) ∧ Q (M2 55 (Int.toNat a1)) M2)) ∧ (¬ a2 = 5 →
          Con n md_X10_thickOf [vR 51, vI a1] M2 (fun r11 M12 =>
            Q r11 M12)))))) ∧ (¬ 5 ≤ a2 →
      ((a2 = 0 →
        Q (M2 51 7) M2) ∧ (¬ a2 = 0 →
        ((a2 = 1 →
          Q (M2 51 8) M2) ∧ (¬ a2 = 1 →
          ((0 ≤ (w32 ((w32 ((w32 (3 * a1)) + a2)) - 2)) ∧ (w32 ((w32 ((w32 (3 * a1)) + a2)) - 2)) < 18) ∧ Q (M2 56 (Int.toNat (w32 ((w32 ((w32 (3 * a1)) + a2)) - 2)))) M2)))))))) ∧ (¬ a2 ≤ 1 →
    Con n md_X10_isFlower [vR 51, vI a1] M2 (fun r13 M14 =>
      ((r13 = 0 →
      Q (-2) M14) ∧ (¬ r13 = 0 →
      ((5 ≤ a2 →
        ((7 ≤ a2 →
          Con n md_X10_looks [vR 51, vI a1] M14 (fun _ M16 =>
            ((a2 = 7 →
            Con n md_X10_turnsOf [vR 51, vI a1] M16 (fun r21 M22 =>
              Q r21 M22)) ∧ (¬ a2 = 7 →
            ((a2 = 8 →
              Con n md_X10_costsOf [vR 51, vI a1] M16 (fun r19 M20 =>
                Q r19 M20)) ∧ (¬ a2 = 8 →
              Con n md_X10_lastsOf [vR 51, vI a1] M16 (fun r17 M18 =>
                Q r17 M18))))))) ∧ (¬ 7 ≤ a2 →
          ((a2 = 5 →
            ((0 ≤ a1 ∧ a1 < 6) ∧ Q (M14 55 (Int.toNat a1)) M14)) ∧ (¬ a2 = 5 →
            Con n md_X10_thickOf [vR 51, vI a1] M14 (fun r23 M24 =>
              Q r23 M24)))))) ∧ (¬ 5 ≤ a2 →
        ((a2 = 0 →
          Q (M14 51 7) M14) ∧ (¬ a2 = 0 →
          ((a2 = 1 →
            Q (M14 51 8) M14) ∧ (¬ a2 = 1 →
            ((0 ≤ (w32 ((w32 ((w32 (3 * a1)) + a2)) - 2)) ∧ (w32 ((w32 ((w32 (3 * a1)) + a2)) - 2)) < 18) ∧ Q (M14 56 (Int.toNat (w32 ((w32 ((w32 (3 * a1)) + a2)) - 2)))) M14)))))))))))))))
set_option maxHeartbeats 4000000 in
set_option maxRecDepth 20000 in
theorem g_X10_told {n : Nat} {a1 : Int} {a2 : Int} {M : Mem} {Q : Int → Mem → Prop}  (h : B_X10_told n a1 a2 M Q) : Con (n + 1) md_X10_told [vR 51, vI a1, vI a2] M Q := by
  refine Con.ofF (n := n + 1) (Nat.succ_pos n) pl_X10_told (Nat.le_of_ble_eq_true rfl) (fun X C E hnL => ?_)
  have C : Cx X cX10_told RX10 n := C
  show WM X 0 [(0, vR 51), (1, vI a1), (2, vI a2)] [] M
  unfold B_X10_told at h
  refine m_iload_n C 2 dX10_told_0 rfl rfl ?_
  refine m_i2l C dX10_told_1 ?_
  refine m_lconst C (x := 0) dX10_told_2 (by decide) (r64_of rfl) ?_
  refine m_ldc2 C (v := 9) dX10_told_3 kc_X10_109 (r64_of rfl) ?_
  refine m_callSi C (as := [vL a2, vL 0, vL 9]) (rest := []) ok_X10_in ml_X10_79 rfl rfl (Nat.le_of_ble_eq_true rfl) (fun _ => rfl) dX10_told_6 (Con.mono h (fun r1 M2 _ _ h => ?_))
  refine m_if_eq C (tgt := 25) dX10_told_9 (by decide) (fun e => ?_) (fun e => ?_)
  · have h := h.1 e
    refine m_bipush C dX10_told_25 (r32_of rfl) (by decide) ?_
    exact m_iret C E (Or.inl rfl) dX10_told_27 h
  · have h := h.2 e
    refine m_iload_n C 2 dX10_told_12 rfl rfl ?_
    refine m_iconst C dX10_told_13 (r32_of rfl) ?_
    refine m_icmp_le C (tgt := 28) dX10_told_14 (by decide) (fun e => ?_) (fun e => ?_)
    · have h := h.1 e
      refine m_iload_n C 2 dX10_told_28 rfl rfl ?_
      refine m_iconst C dX10_told_29 (r32_of rfl) ?_
      refine m_icmp_ge C (tgt := 69) dX10_told_30 (by decide) (fun e => ?_) (fun e => ?_)
      · have h := h.1 e
        refine m_iload_n C 2 dX10_told_69 rfl rfl ?_
        refine m_bipush C dX10_told_70 (r32_of rfl) (by decide) ?_
        refine m_icmp_ge C (tgt := 95) dX10_told_72 (by decide) (fun e => ?_) (fun e => ?_)
        · have h := h.1 e
          refine m_aload_n C 0 dX10_told_95 rfl rfl ?_
          refine m_iload_n C 1 dX10_told_96 rfl rfl ?_
          refine m_callVv C (as := [vI a1]) (rest := []) ok_X10_looks ml_X10_114 so_51 rfl rfl rfl (Nat.le_of_ble_eq_true rfl) (fun _ => rfl) dX10_told_97 (Con.mono h (fun _ M4 _ _ h => ?_))
          refine m_iload_n C 2 dX10_told_100 rfl rfl ?_
          refine m_bipush C dX10_told_101 (r32_of rfl) (by decide) ?_
          refine m_icmp_ne C (tgt := 114) dX10_told_103 (by decide) (fun e => ?_) (fun e => ?_)
          · have h := h.2 e
            refine m_iload_n C 2 dX10_told_114 rfl rfl ?_
            refine m_bipush C dX10_told_115 (r32_of rfl) (by decide) ?_
            refine m_icmp_ne C (tgt := 128) dX10_told_117 (by decide) (fun e => ?_) (fun e => ?_)
            · have h := h.2 e
              refine m_aload_n C 0 dX10_told_128 rfl rfl ?_
              refine m_iload_n C 1 dX10_told_129 rfl rfl ?_
              refine m_callVi C (as := [vI a1]) (rest := []) ok_X10_lastsOf ml_X10_124 so_51 rfl rfl rfl (Nat.le_of_ble_eq_true rfl) (fun _ => rfl) dX10_told_130 (Con.mono h (fun r5 M6 _ _ h => ?_))
              exact m_iret C E (Or.inl rfl) dX10_told_133 h
            · have h := h.1 e
              refine m_aload_n C 0 dX10_told_120 rfl rfl ?_
              refine m_iload_n C 1 dX10_told_121 rfl rfl ?_
              refine m_callVi C (as := [vI a1]) (rest := []) ok_X10_costsOf ml_X10_121 so_51 rfl rfl rfl (Nat.le_of_ble_eq_true rfl) (fun _ => rfl) dX10_told_122 (Con.mono h (fun r7 M8 _ _ h => ?_))
              refine m_goto C (tgt := 133) dX10_told_125 (by decide) ?_
              exact m_iret C E (Or.inl rfl) dX10_told_133 h
          · have h := h.1 e
            refine m_aload_n C 0 dX10_told_106 rfl rfl ?_
            refine m_iload_n C 1 dX10_told_107 rfl rfl ?_
            refine m_callVi C (as := [vI a1]) (rest := []) ok_X10_turnsOf ml_X10_118 so_51 rfl rfl rfl (Nat.le_of_ble_eq_true rfl) (fun _ => rfl) dX10_told_108 (Con.mono h (fun r9 M10 _ _ h => ?_))
            refine m_goto C (tgt := 133) dX10_told_111 (by decide) ?_
            exact m_iret C E (Or.inl rfl) dX10_told_133 h
        · have h := h.2 e
          refine m_iload_n C 2 dX10_told_75 rfl rfl ?_
          refine m_iconst C dX10_told_76 (r32_of rfl) ?_
          refine m_icmp_ne C (tgt := 89) dX10_told_77 (by decide) (fun e => ?_) (fun e => ?_)
          · have h := h.2 e
            refine m_aload_n C 0 dX10_told_89 rfl rfl ?_
            refine m_iload_n C 1 dX10_told_90 rfl rfl ?_
            refine m_callVi C (as := [vI a1]) (rest := []) ok_X10_thickOf ml_X10_111 so_51 rfl rfl rfl (Nat.le_of_ble_eq_true rfl) (fun _ => rfl) dX10_told_91 (Con.mono h (fun r11 M12 _ _ h => ?_))
            exact m_iret C E (Or.inl rfl) dX10_told_94 h
          · have h := h.1 e
            refine m_aload_n C 0 dX10_told_80 rfl rfl ?_
            refine m_getR C (k := 9) cl_X10 (by decide) so_51 rfl fl_X10_26 dX10_told_81 ?_
            refine m_iload_n C 1 dX10_told_84 rfl rfl ?_
            refine m_iald C (N := 6) sa_55 h.1 dX10_told_85 ?_
            have h := h.2
            refine m_goto C (tgt := 94) dX10_told_86 (by decide) ?_
            exact m_iret C E (Or.inl rfl) dX10_told_94 h
      · have h := h.2 e
        refine m_iload_n C 2 dX10_told_33 rfl rfl ?_
        refine m_if_ne C (tgt := 44) dX10_told_34 (by decide) (fun e => ?_) (fun e => ?_)
        · have h := h.2 e
          refine m_iload_n C 2 dX10_told_44 rfl rfl ?_
          refine m_iconst C dX10_told_45 (r32_of rfl) ?_
          refine m_icmp_ne C (tgt := 56) dX10_told_46 (by decide) (fun e => ?_) (fun e => ?_)
          · have h := h.2 e
            refine m_aload_n C 0 dX10_told_56 rfl rfl ?_
            refine m_getR C (k := 10) cl_X10 (by decide) so_51 rfl fl_X10_29 dX10_told_57 ?_
            refine m_iconst C dX10_told_60 (r32_of rfl) ?_
            refine m_iload_n C 1 dX10_told_61 rfl rfl ?_
            refine m_imul C dX10_told_62 ?_
            refine m_iload_n C 2 dX10_told_63 rfl rfl ?_
            refine m_iadd C dX10_told_64 ?_
            refine m_iconst C dX10_told_65 (r32_of rfl) ?_
            refine m_isub C dX10_told_66 ?_
            refine m_iald C (N := 18) sa_56 h.1 dX10_told_67 ?_
            have h := h.2
            exact m_iret C E (Or.inl rfl) dX10_told_68 h
          · have h := h.1 e
            refine m_aload_n C 0 dX10_told_49 rfl rfl ?_
            refine m_getI C (k := 8) cl_X10 (by decide) so_51 rfl fl_X10_101 dX10_told_50 ?_
            refine m_goto C (tgt := 68) dX10_told_53 (by decide) ?_
            exact m_iret C E (Or.inl rfl) dX10_told_68 h
        · have h := h.1 e
          refine m_aload_n C 0 dX10_told_37 rfl rfl ?_
          refine m_getI C (k := 7) cl_X10 (by decide) so_51 rfl fl_X10_23 dX10_told_38 ?_
          refine m_goto C (tgt := 68) dX10_told_41 (by decide) ?_
          exact m_iret C E (Or.inl rfl) dX10_told_68 h
    · have h := h.2 e
      refine m_aload_n C 0 dX10_told_17 rfl rfl ?_
      refine m_iload_n C 1 dX10_told_18 rfl rfl ?_
      refine m_callVi C (as := [vI a1]) (rest := []) ok_X10_isFlower ml_X10_85 so_51 rfl rfl rfl (Nat.le_of_ble_eq_true rfl) (fun _ => rfl) dX10_told_19 (Con.mono h (fun r13 M14 _ _ h => ?_))
      refine m_if_ne C (tgt := 28) dX10_told_22 (by decide) (fun e => ?_) (fun e => ?_)
      · have h := h.2 e
        refine m_iload_n C 2 dX10_told_28 rfl rfl ?_
        refine m_iconst C dX10_told_29 (r32_of rfl) ?_
        refine m_icmp_ge C (tgt := 69) dX10_told_30 (by decide) (fun e => ?_) (fun e => ?_)
        · have h := h.1 e
          refine m_iload_n C 2 dX10_told_69 rfl rfl ?_
          refine m_bipush C dX10_told_70 (r32_of rfl) (by decide) ?_
          refine m_icmp_ge C (tgt := 95) dX10_told_72 (by decide) (fun e => ?_) (fun e => ?_)
          · have h := h.1 e
            refine m_aload_n C 0 dX10_told_95 rfl rfl ?_
            refine m_iload_n C 1 dX10_told_96 rfl rfl ?_
            refine m_callVv C (as := [vI a1]) (rest := []) ok_X10_looks ml_X10_114 so_51 rfl rfl rfl (Nat.le_of_ble_eq_true rfl) (fun _ => rfl) dX10_told_97 (Con.mono h (fun _ M16 _ _ h => ?_))
            refine m_iload_n C 2 dX10_told_100 rfl rfl ?_
            refine m_bipush C dX10_told_101 (r32_of rfl) (by decide) ?_
            refine m_icmp_ne C (tgt := 114) dX10_told_103 (by decide) (fun e => ?_) (fun e => ?_)
            · have h := h.2 e
              refine m_iload_n C 2 dX10_told_114 rfl rfl ?_
              refine m_bipush C dX10_told_115 (r32_of rfl) (by decide) ?_
              refine m_icmp_ne C (tgt := 128) dX10_told_117 (by decide) (fun e => ?_) (fun e => ?_)
              · have h := h.2 e
                refine m_aload_n C 0 dX10_told_128 rfl rfl ?_
                refine m_iload_n C 1 dX10_told_129 rfl rfl ?_
                refine m_callVi C (as := [vI a1]) (rest := []) ok_X10_lastsOf ml_X10_124 so_51 rfl rfl rfl (Nat.le_of_ble_eq_true rfl) (fun _ => rfl) dX10_told_130 (Con.mono h (fun r17 M18 _ _ h => ?_))
                exact m_iret C E (Or.inl rfl) dX10_told_133 h
              · have h := h.1 e
                refine m_aload_n C 0 dX10_told_120 rfl rfl ?_
                refine m_iload_n C 1 dX10_told_121 rfl rfl ?_
                refine m_callVi C (as := [vI a1]) (rest := []) ok_X10_costsOf ml_X10_121 so_51 rfl rfl rfl (Nat.le_of_ble_eq_true rfl) (fun _ => rfl) dX10_told_122 (Con.mono h (fun r19 M20 _ _ h => ?_))
                refine m_goto C (tgt := 133) dX10_told_125 (by decide) ?_
                exact m_iret C E (Or.inl rfl) dX10_told_133 h
            · have h := h.1 e
              refine m_aload_n C 0 dX10_told_106 rfl rfl ?_
              refine m_iload_n C 1 dX10_told_107 rfl rfl ?_
              refine m_callVi C (as := [vI a1]) (rest := []) ok_X10_turnsOf ml_X10_118 so_51 rfl rfl rfl (Nat.le_of_ble_eq_true rfl) (fun _ => rfl) dX10_told_108 (Con.mono h (fun r21 M22 _ _ h => ?_))
              refine m_goto C (tgt := 133) dX10_told_111 (by decide) ?_
              exact m_iret C E (Or.inl rfl) dX10_told_133 h
          · have h := h.2 e
            refine m_iload_n C 2 dX10_told_75 rfl rfl ?_
            refine m_iconst C dX10_told_76 (r32_of rfl) ?_
            refine m_icmp_ne C (tgt := 89) dX10_told_77 (by decide) (fun e => ?_) (fun e => ?_)
            · have h := h.2 e
              refine m_aload_n C 0 dX10_told_89 rfl rfl ?_
              refine m_iload_n C 1 dX10_told_90 rfl rfl ?_
              refine m_callVi C (as := [vI a1]) (rest := []) ok_X10_thickOf ml_X10_111 so_51 rfl rfl rfl (Nat.le_of_ble_eq_true rfl) (fun _ => rfl) dX10_told_91 (Con.mono h (fun r23 M24 _ _ h => ?_))
              exact m_iret C E (Or.inl rfl) dX10_told_94 h
            · have h := h.1 e
              refine m_aload_n C 0 dX10_told_80 rfl rfl ?_
              refine m_getR C (k := 9) cl_X10 (by decide) so_51 rfl fl_X10_26 dX10_told_81 ?_
              refine m_iload_n C 1 dX10_told_84 rfl rfl ?_
              refine m_iald C (N := 6) sa_55 h.1 dX10_told_85 ?_
              have h := h.2
              refine m_goto C (tgt := 94) dX10_told_86 (by decide) ?_
              exact m_iret C E (Or.inl rfl) dX10_told_94 h
        · have h := h.2 e
          refine m_iload_n C 2 dX10_told_33 rfl rfl ?_
          refine m_if_ne C (tgt := 44) dX10_told_34 (by decide) (fun e => ?_) (fun e => ?_)
          · have h := h.2 e
            refine m_iload_n C 2 dX10_told_44 rfl rfl ?_
            refine m_iconst C dX10_told_45 (r32_of rfl) ?_
            refine m_icmp_ne C (tgt := 56) dX10_told_46 (by decide) (fun e => ?_) (fun e => ?_)
            · have h := h.2 e
              refine m_aload_n C 0 dX10_told_56 rfl rfl ?_
              refine m_getR C (k := 10) cl_X10 (by decide) so_51 rfl fl_X10_29 dX10_told_57 ?_
              refine m_iconst C dX10_told_60 (r32_of rfl) ?_
              refine m_iload_n C 1 dX10_told_61 rfl rfl ?_
              refine m_imul C dX10_told_62 ?_
              refine m_iload_n C 2 dX10_told_63 rfl rfl ?_
              refine m_iadd C dX10_told_64 ?_
              refine m_iconst C dX10_told_65 (r32_of rfl) ?_
              refine m_isub C dX10_told_66 ?_
              refine m_iald C (N := 18) sa_56 h.1 dX10_told_67 ?_
              have h := h.2
              exact m_iret C E (Or.inl rfl) dX10_told_68 h
            · have h := h.1 e
              refine m_aload_n C 0 dX10_told_49 rfl rfl ?_
              refine m_getI C (k := 8) cl_X10 (by decide) so_51 rfl fl_X10_101 dX10_told_50 ?_
              refine m_goto C (tgt := 68) dX10_told_53 (by decide) ?_
              exact m_iret C E (Or.inl rfl) dX10_told_68 h
          · have h := h.1 e
            refine m_aload_n C 0 dX10_told_37 rfl rfl ?_
            refine m_getI C (k := 7) cl_X10 (by decide) so_51 rfl fl_X10_23 dX10_told_38 ?_
            refine m_goto C (tgt := 68) dX10_told_41 (by decide) ?_
            exact m_iret C E (Or.inl rfl) dX10_told_68 h
      · have h := h.1 e
        refine m_bipush C dX10_told_25 (r32_of rfl) (by decide) ?_
        exact m_iret C E (Or.inl rfl) dX10_told_27 h
def B_X10_thickOf (n : Nat) (a1 : Int) (M : Mem) (Q : Int → Mem → Prop)  : Prop :=
  ((0 ≤ a1 ∧ a1 < 6) ∧ ((0 ≤ (w32 (3 * a1)) ∧ (w32 (3 * a1)) < 18) ∧ (((M 55 (Int.toNat a1)) = 1 →
  Q (w32 (3 + (M 56 (Int.toNat (w32 (3 * a1)))))) M) ∧ (¬ (M 55 (Int.toNat a1)) = 1 →
  (((M 55 (Int.toNat a1)) = 2 →
    Q 1 M) ∧ (¬ (M 55 (Int.toNat a1)) = 2 →
    (((M 55 (Int.toNat a1)) = 4 →
      Q 1 M) ∧ (¬ (M 55 (Int.toNat a1)) = 4 →
      (((M 55 (Int.toNat a1)) = 3 →
        Q (w32 (Int.tdiv (w32 (3 + (M 56 (Int.toNat (w32 (3 * a1)))))) 2)) M) ∧ (¬ (M 55 (Int.toNat a1)) = 3 →
        (((M 55 (Int.toNat a1)) = 5 →
          Q (w32 (2 + (w32 (Int.tdiv (M 56 (Int.toNat (w32 (3 * a1)))) 2)))) M) ∧ (¬ (M 55 (Int.toNat a1)) = 5 →
          Q 3 M))))))))))))
set_option maxHeartbeats 4000000 in
set_option maxRecDepth 20000 in
theorem g_X10_thickOf {n : Nat} {a1 : Int} {M : Mem} {Q : Int → Mem → Prop}  (h : B_X10_thickOf n a1 M Q) : Con (n + 1) md_X10_thickOf [vR 51, vI a1] M Q := by
  refine Con.ofF (n := n + 1) (Nat.succ_pos n) pl_X10_thickOf (Nat.le_of_ble_eq_true rfl) (fun X C E hnL => ?_)
  have C : Cx X cX10_thickOf RX10 n := C
  show WM X 0 [(0, vR 51), (1, vI a1)] [] M
  unfold B_X10_thickOf at h
  refine m_aload_n C 0 dX10_thickOf_0 rfl rfl ?_
  refine m_getR C (k := 9) cl_X10 (by decide) so_51 rfl fl_X10_26 dX10_thickOf_1 ?_
  refine m_iload_n C 1 dX10_thickOf_4 rfl rfl ?_
  refine m_iald C (N := 6) sa_55 h.1 dX10_thickOf_5 ?_
  have h := h.2
  refine m_istore_n C (L' := [(2, vI (M 55 (Int.toNat a1))), (0, vR 51), (1, vI a1)]) dX10_thickOf_6 rfl (by rw [hnL]; decide) rfl ?_
  refine m_aload_n C 1 dX10_thickOf_7 rfl rfl ?_
  refine m_getR C (k := 10) cl_X10 (by decide) so_51 rfl fl_X10_29 dX10_thickOf_8 ?_
  refine m_iconst C dX10_thickOf_11 (r32_of rfl) ?_
  refine m_iload_n C 2 dX10_thickOf_12 rfl rfl ?_
  refine m_imul C dX10_thickOf_13 ?_
  refine m_iald C (N := 18) sa_56 h.1 dX10_thickOf_14 ?_
  have h := h.2
  refine m_istore_n C (L' := [(3, vI (M 56 (Int.toNat (w32 (3 * a1))))), (2, vI (M 55 (Int.toNat a1))), (0, vR 51), (1, vI a1)]) dX10_thickOf_15 rfl (by rw [hnL]; decide) rfl ?_
  refine m_iload_n C 1 dX10_thickOf_16 rfl rfl ?_
  refine m_iconst C dX10_thickOf_17 (r32_of rfl) ?_
  refine m_icmp_ne C (tgt := 27) dX10_thickOf_18 (by decide) (fun e => ?_) (fun e => ?_)
  · have h := h.2 e
    refine m_iload_n C 1 dX10_thickOf_27 rfl rfl ?_
    refine m_iconst C dX10_thickOf_28 (r32_of rfl) ?_
    refine m_icmp_eq C (tgt := 37) dX10_thickOf_29 (by decide) (fun e => ?_) (fun e => ?_)
    · have h := h.1 e
      refine m_iconst C dX10_thickOf_37 (r32_of rfl) ?_
      refine m_goto C (tgt := 68) dX10_thickOf_38 (by decide) ?_
      exact m_iret C E (Or.inl rfl) dX10_thickOf_68 h
    · have h := h.2 e
      refine m_iload_n C 1 dX10_thickOf_32 rfl rfl ?_
      refine m_iconst C dX10_thickOf_33 (r32_of rfl) ?_
      refine m_icmp_ne C (tgt := 41) dX10_thickOf_34 (by decide) (fun e => ?_) (fun e => ?_)
      · have h := h.2 e
        refine m_iload_n C 1 dX10_thickOf_41 rfl rfl ?_
        refine m_iconst C dX10_thickOf_42 (r32_of rfl) ?_
        refine m_icmp_ne C (tgt := 54) dX10_thickOf_43 (by decide) (fun e => ?_) (fun e => ?_)
        · have h := h.2 e
          refine m_iload_n C 1 dX10_thickOf_54 rfl rfl ?_
          refine m_iconst C dX10_thickOf_55 (r32_of rfl) ?_
          refine m_icmp_ne C (tgt := 67) dX10_thickOf_56 (by decide) (fun e => ?_) (fun e => ?_)
          · have h := h.2 e
            refine m_iconst C dX10_thickOf_67 (r32_of rfl) ?_
            exact m_iret C E (Or.inl rfl) dX10_thickOf_68 h
          · have h := h.1 e
            refine m_iconst C dX10_thickOf_59 (r32_of rfl) ?_
            refine m_iload_n C 0 dX10_thickOf_60 rfl rfl ?_
            refine m_iconst C dX10_thickOf_61 (r32_of rfl) ?_
            refine m_idiv C dX10_thickOf_62 (by decide) ?_
            refine m_iadd C dX10_thickOf_63 ?_
            refine m_goto C (tgt := 68) dX10_thickOf_64 (by decide) ?_
            exact m_iret C E (Or.inl rfl) dX10_thickOf_68 h
        · have h := h.1 e
          refine m_iconst C dX10_thickOf_46 (r32_of rfl) ?_
          refine m_iload_n C 0 dX10_thickOf_47 rfl rfl ?_
          refine m_iadd C dX10_thickOf_48 ?_
          refine m_iconst C dX10_thickOf_49 (r32_of rfl) ?_
          refine m_idiv C dX10_thickOf_50 (by decide) ?_
          refine m_goto C (tgt := 68) dX10_thickOf_51 (by decide) ?_
          exact m_iret C E (Or.inl rfl) dX10_thickOf_68 h
      · have h := h.1 e
        refine m_iconst C dX10_thickOf_37 (r32_of rfl) ?_
        refine m_goto C (tgt := 68) dX10_thickOf_38 (by decide) ?_
        exact m_iret C E (Or.inl rfl) dX10_thickOf_68 h
  · have h := h.1 e
    refine m_iconst C dX10_thickOf_21 (r32_of rfl) ?_
    refine m_iload_n C 0 dX10_thickOf_22 rfl rfl ?_
    refine m_iadd C dX10_thickOf_23 ?_
    refine m_goto C (tgt := 68) dX10_thickOf_24 (by decide) ?_
    exact m_iret C E (Or.inl rfl) dX10_thickOf_68 h
def B_X10_feed (n : Nat) (a1 : Int) (M : Mem) (Q : Int → Mem → Prop)  : Prop :=
  Con n md_X10_in [vL a1, vL 0, vL 255] M (fun r1 M2 =>
  ((r1 = 0 →
  Q (-2) M2) ∧ (¬ r1 = 0 →
  (((M2 51 6) = 160 →
    Q (-4) M2) ∧ (¬ (M2 51 6) = 160 →
    ((0 ≤ (M2 51 6) ∧ (M2 51 6) < 160) ∧ (∀ M3 : Mem, M3 = up M2 54 (Int.toNat (M2 51 6)) a1 →
      (∀ M4 : Mem, M4 = up M3 51 6 (w32 ((M3 51 6) + 1)) →
      Q (M4 51 6) M4))))))))
set_option maxHeartbeats 4000000 in
set_option maxRecDepth 20000 in
theorem g_X10_feed {n : Nat} {a1 : Int} {M : Mem} {Q : Int → Mem → Prop}  (h : B_X10_feed n a1 M Q) : Con (n + 1) md_X10_feed [vR 51, vI a1] M Q := by
  refine Con.ofF (n := n + 1) (Nat.succ_pos n) pl_X10_feed (Nat.le_of_ble_eq_true rfl) (fun X C E hnL => ?_)
  have C : Cx X cX10_feed RX10 n := C
  show WM X 0 [(0, vR 51), (1, vI a1)] [] M
  unfold B_X10_feed at h
  refine m_iload_n C 1 dX10_feed_0 rfl rfl ?_
  refine m_i2l C dX10_feed_1 ?_
  refine m_lconst C (x := 0) dX10_feed_2 (by decide) (r64_of rfl) ?_
  refine m_ldc2 C (v := 255) dX10_feed_3 kc_X10_127 (r64_of rfl) ?_
  refine m_callSi C (as := [vL a1, vL 0, vL 255]) (rest := []) ok_X10_in ml_X10_79 rfl rfl (Nat.le_of_ble_eq_true rfl) (fun _ => rfl) dX10_feed_6 (Con.mono h (fun r1 M2 _ _ h => ?_))
  refine m_if_ne C (tgt := 15) dX10_feed_9 (by decide) (fun e => ?_) (fun e => ?_)
  · have h := h.2 e
    refine m_aload_n C 0 dX10_feed_15 rfl rfl ?_
    refine m_getI C (k := 6) cl_X10 (by decide) so_51 rfl fl_X10_129 dX10_feed_16 ?_
    refine m_sipush C dX10_feed_19 (r32_of rfl) (by decide) ?_
    refine m_icmp_ne C (tgt := 28) dX10_feed_22 (by decide) (fun e => ?_) (fun e => ?_)
    · have h := h.2 e
      refine m_aload_n C 0 dX10_feed_28 rfl rfl ?_
      refine m_getR C (k := 5) cl_X10 (by decide) so_51 rfl fl_X10_20 dX10_feed_29 ?_
      refine m_aload_n C 0 dX10_feed_32 rfl rfl ?_
      refine m_getI C (k := 6) cl_X10 (by decide) so_51 rfl fl_X10_129 dX10_feed_33 ?_
      refine m_iload_n C 1 dX10_feed_36 rfl rfl ?_
      refine m_iast C (N := 160) sa_54 h.1 dX10_feed_37 ?_
      have h := h.2
      generalize eM3 : up M2 54 (Int.toNat (M2 51 6)) a1 = M3
      have h := h M3 eM3.symm
      refine m_aload_n C 0 dX10_feed_38 rfl rfl ?_
      refine m_dupR C dX10_feed_39 ?_
      refine m_getI C (k := 6) cl_X10 (by decide) so_51 rfl fl_X10_129 dX10_feed_40 ?_
      refine m_iconst C dX10_feed_43 (r32_of rfl) ?_
      refine m_iadd C dX10_feed_44 ?_
      refine m_putI C (k := 6) cl_X10 (by decide) so_51 rfl rfl rfl fl_X10_129 dX10_feed_45 ?_
      generalize eM4 : up M3 51 6 (w32 ((M3 51 6) + 1)) = M4
      have h := h M4 eM4.symm
      refine m_aload_n C 0 dX10_feed_48 rfl rfl ?_
      refine m_getI C (k := 6) cl_X10 (by decide) so_51 rfl fl_X10_129 dX10_feed_49 ?_
      exact m_iret C E (Or.inl rfl) dX10_feed_52 h
    · have h := h.1 e
      refine m_bipush C dX10_feed_25 (r32_of rfl) (by decide) ?_
      exact m_iret C E (Or.inl rfl) dX10_feed_27 h
  · have h := h.1 e
    refine m_bipush C dX10_feed_12 (r32_of rfl) (by decide) ?_
    exact m_iret C E (Or.inl rfl) dX10_feed_14 h
def B_X10_byteAt (n : Nat) (a1 : Int) (M : Mem) (Q : Int → Mem → Prop)  : Prop :=
  (((M 51 22) ≤ a1 →
  Q (-1) M) ∧ (¬ (M 51 22) ≤ a1 →
  ((0 ≤ (w32 ((M 51 21) + a1)) ∧ (w32 ((M 51 21) + a1)) < 960) ∧ Q (M 52 (Int.toNat (w32 ((M 51 21) + a1)))) M)))
set_option maxHeartbeats 4000000 in
set_option maxRecDepth 20000 in
theorem g_X10_byteAt {n : Nat} {a1 : Int} {M : Mem} {Q : Int → Mem → Prop}  (h : B_X10_byteAt n a1 M Q) : Con (n + 1) md_X10_byteAt [vR 51, vI a1] M Q := by
  refine Con.ofF (n := n + 1) (Nat.succ_pos n) pl_X10_byteAt (Nat.le_of_ble_eq_true rfl) (fun X C E hnL => ?_)
  have C : Cx X cX10_byteAt RX10 n := C
  show WM X 0 [(0, vR 51), (1, vI a1)] [] M
  unfold B_X10_byteAt at h
  refine m_iload_n C 1 dX10_byteAt_0 rfl rfl ?_
  refine m_aload_n C 0 dX10_byteAt_1 rfl rfl ?_
  refine m_getI C (k := 22) cl_X10 (by decide) so_51 rfl fl_X10_132 dX10_byteAt_2 ?_
  refine m_icmp_ge C (tgt := 22) dX10_byteAt_5 (by decide) (fun e => ?_) (fun e => ?_)
  · have h := h.1 e
    refine m_iconst C dX10_byteAt_22 (r32_of rfl) ?_
    exact m_iret C E (Or.inl rfl) dX10_byteAt_23 h
  · have h := h.2 e
    refine m_aload_n C 0 dX10_byteAt_8 rfl rfl ?_
    refine m_getR C (k := 1) cl_X10 (by decide) so_51 rfl fl_X10_13 dX10_byteAt_9 ?_
    refine m_aload_n C 0 dX10_byteAt_12 rfl rfl ?_
    refine m_getI C (k := 21) cl_X10 (by decide) so_51 rfl fl_X10_135 dX10_byteAt_13 ?_
    refine m_iload_n C 1 dX10_byteAt_16 rfl rfl ?_
    refine m_iadd C dX10_byteAt_17 ?_
    refine m_iald C (N := 960) sa_52 h.1 dX10_byteAt_18 ?_
    have h := h.2
    refine m_goto C (tgt := 23) dX10_byteAt_19 (by decide) ?_
    exact m_iret C E (Or.inl rfl) dX10_byteAt_23 h
def B_X10_nextToken_0 (n : Nat)  (M : Mem) (Q : Int → Mem → Prop) (K0 : Mem → Prop) (K100 : Int → Mem → Prop) (K160 : Int → Int → Mem → Prop) : Prop :=
  Con n md_X10_byteAt [vR 51, vI (M 51 23)] M (fun r1 M2 =>
  ((r1 = 32 →
  (∀ M3 : Mem, M3 = up M2 51 23 (w32 ((M2 51 23) + 1)) →
    K0 M3)) ∧ (¬ r1 = 32 →
  Con n md_X10_byteAt [vR 51, vI (M2 51 23)] M2 (fun r4 M5 =>
    ((r4 = 10 →
    (∀ M43 : Mem, M43 = up M5 51 23 (w32 ((M5 51 23) + 1)) →
      K0 M43)) ∧ (¬ r4 = 10 →
    (∀ M6 : Mem, M6 = up M5 51 25 (M5 51 23) →
      Con n md_X10_byteAt [vR 51, vI (M6 51 23)] M6 (fun r7 M8 =>
      (∀ M9 : Mem, M9 = up M8 51 24 4 →
      ((0 ≤ r7 →
      Con n md_X10_in [vL r7, vL 97, vL 122] M9 (fun r10 M11 =>
        ((r10 = 0 →
        Con n md_X10_in [vL r7, vL 48, vL 57] M11 (fun r12 M13 =>
          ((r12 = 0 →
          ((r7 = 40 →
            (∀ M14 : Mem, M14 = up M13 51 24 3 →
              (r32 r7 ∧ (∀ M15 : Mem, M15 = up M14 51 26 r7 →
              (∀ M16 : Mem, M16 = up M15 51 23 (w32 ((M15 51 23) + 1)) →
              Q 0 M16))))) ∧ (¬ r7 = 40 →
            ((r7 = 41 →
              (∀ M17 : Mem, M17 = up M13 51 24 3 →
                (r32 r7 ∧ (∀ M18 : Mem, M18 = up M17 51 26 r7 →
                (∀ M19 : Mem, M19 = up M18 51 23 (w32 ((M18 51 23) + 1)) →
                Q 0 M19))))) ∧ (¬ r7 = 41 →
              ((r7 = 59 →
                (∀ M20 : Mem, M20 = up M13 51 24 3 →
                  (r32 r7 ∧ (∀ M21 : Mem, M21 = up M20 51 26 r7 →
                  (∀ M22 : Mem, M22 = up M21 51 23 (w32 ((M21 51 23) + 1)) →
                  Q 0 M22))))) ∧ (¬ r7 = 59 →
                ((r7 = 43 →
                  (∀ M23 : Mem, M23 = up M13 51 24 3 →
                    (r32 r7 ∧ (∀ M24 : Mem, M24 = up M23 51 26 r7 →
                    (∀ M25 : Mem, M25 = up M24 51 23 (w32 ((M24 51 23) + 1)) →
                    Q 0 M25))))) ∧ (¬ r7 = 43 →
                  ((r7 = 45 →
                    (∀ M26 : Mem, M26 = up M13 51 24 3 →
                      (r32 r7 ∧ (∀ M27 : Mem, M27 = up M26 51 26 r7 →
                      (∀ M28 : Mem, M28 = up M27 51 23 (w32 ((M27 51 23) + 1)) →
                      Q 0 M28))))) ∧ (¬ r7 = 45 →
                    ((r7 = 42 →
                      (∀ M29 : Mem, M29 = up M13 51 24 3 →
                        (r32 r7 ∧ (∀ M30 : Mem, M30 = up M29 51 26 r7 →
                        (∀ M31 : Mem, M31 = up M30 51 23 (w32 ((M30 51 23) + 1)) →
                        Q 0 M31))))) ∧ (¬ r7 = 42 →
                      ((r7 = 60 →
                        (∀ M32 : Mem, M32 = up M13 51 24 3 →
                          (r32 r7 ∧ (∀ M33 : Mem, M33 = up M32 51 26 r7 →
                          (∀ M34 : Mem, M34 = up M33 51 23 (w32 ((M33 51 23) + 1)) →
                          Q 0 M34))))) ∧ (¬ r7 = 60 →
                        ((r7 = 61 →
                          (∀ M35 : Mem, M35 = up M13 51 24 3 →
                            (r32 r7 ∧ (∀ M36 : Mem, M36 = up M35 51 26 r7 →
                            (∀ M37 : Mem, M37 = up M36 51 23 (w32 ((M36 51 23) + 1)) →
                            Q 0 M37))))) ∧ (¬ r7 = 61 →
                          Q 0 M13))))))))))))))))) ∧ (¬ r12 = 0 →
          (∀ M38 : Mem, M38 = up M13 51 24 2 →
            (r32 0 ∧ (∀ M39 : Mem, M39 = up M38 51 26 0 →
            K160 r7 0 M39))))))) ∧ (¬ r10 = 0 →
        (∀ M40 : Mem, M40 = up M11 51 24 1 →
          K100 r7 M40))))) ∧ (¬ 0 ≤ r7 →
      (∀ M41 : Mem, M41 = up M9 51 24 0 →
        (∀ M42 : Mem, M42 = up M41 51 25 (M41 51 22) →
        Q 0 M42)))))))))))))
def B_X10_nextToken_100 (n : Nat)  (x1 : Int) (M : Mem) (Q : Int → Mem → Prop) (K0 : Mem → Prop) (K100 : Int → Mem → Prop) (K160 : Int → Int → Mem → Prop) : Prop :=
  Con n md_X10_byteAt [vR 51, vI (M 51 23)] M (fun r44 M45 =>
  Con n md_X10_in [vL r44, vL 97, vL 122] M45 (fun r46 M47 =>
  ((r46 = 0 →
  Q 0 M47) ∧ (¬ r46 = 0 →
  (∀ M48 : Mem, M48 = up M47 51 23 (w32 ((M47 51 23) + 1)) →
    K100 x1 M48)))))
def B_X10_nextToken_160 (n : Nat)  (x1 : Int) (x2 : Int) (M : Mem) (Q : Int → Mem → Prop) (K0 : Mem → Prop) (K100 : Int → Mem → Prop) (K160 : Int → Int → Mem → Prop) : Prop :=
  Con n md_X10_byteAt [vR 51, vI (M 51 23)] M (fun r49 M50 =>
  Con n md_X10_in [vL r49, vL 48, vL 57] M50 (fun r51 M52 =>
  ((r51 = 0 →
  ((x2 ≤ 4 →
    (∀ M53 : Mem, M53 = up M52 51 24 2 →
      Q 0 M53)) ∧ (¬ x2 ≤ 4 →
    (∀ M54 : Mem, M54 = up M52 51 24 4 →
      Q 0 M54)))) ∧ (¬ r51 = 0 →
  ((4 ≤ x2 →
    (r32 (M52 51 26) ∧ (∀ M55 : Mem, M55 = up M52 51 26 (M52 51 26) →
      (∀ M56 : Mem, M56 = up M55 51 23 (w32 ((M55 51 23) + 1)) →
      K160 x1 (w32 (x2 + 1)) M56)))) ∧ (¬ 4 ≤ x2 →
    Con n md_X10_byteAt [vR 51, vI (M52 51 23)] M52 (fun r57 M58 =>
      (r32 (w64 ((w64 ((w64 (10 * (M52 51 26))) + r57)) - 48)) ∧ (∀ M59 : Mem, M59 = up M58 51 26 (w64 ((w64 ((w64 (10 * (M52 51 26))) + r57)) - 48)) →
      (∀ M60 : Mem, M60 = up M59 51 23 (w32 ((M59 51 23) + 1)) →
      K160 x1 (w32 (x2 + 1)) M60))))))))))
def B_X10_nextToken (n : Nat)  (M : Mem) (Q : Int → Mem → Prop) (K0 : Mem → Prop) (K100 : Int → Mem → Prop) (K160 : Int → Int → Mem → Prop) : Prop :=
  Con n md_X10_byteAt [vR 51, vI (M 51 23)] M (fun r61 M62 =>
  ((r61 = 32 →
  (∀ M63 : Mem, M63 = up M62 51 23 (w32 ((M62 51 23) + 1)) →
    K0 M63)) ∧ (¬ r61 = 32 →
  Con n md_X10_byteAt [vR 51, vI (M62 51 23)] M62 (fun r64 M65 =>
    ((r64 = 10 →
    (∀ M103 : Mem, M103 = up M65 51 23 (w32 ((M65 51 23) + 1)) →
      K0 M103)) ∧ (¬ r64 = 10 →
    (∀ M66 : Mem, M66 = up M65 51 25 (M65 51 23) →
      Con n md_X10_byteAt [vR 51, vI (M66 51 23)] M66 (fun r67 M68 =>
      (∀ M69 : Mem, M69 = up M68 51 24 4 →
      ((0 ≤ r67 →
      Con n md_X10_in [vL r67, vL 97, vL 122] M69 (fun r70 M71 =>
        ((r70 = 0 →
        Con n md_X10_in [vL r67, vL 48, vL 57] M71 (fun r72 M73 =>
          ((r72 = 0 →
          ((r67 = 40 →
            (∀ M74 : Mem, M74 = up M73 51 24 3 →
              (r32 r67 ∧ (∀ M75 : Mem, M75 = up M74 51 26 r67 →
              (∀ M76 : Mem, M76 = up M75 51 23 (w32 ((M75 51 23) + 1)) →
              Q 0 M76))))) ∧ (¬ r67 = 40 →
            ((r67 = 41 →
              (∀ M77 : Mem, M77 = up M73 51 24 3 →
                (r32 r67 ∧ (∀ M78 : Mem, M78 = up M77 51 26 r67 →
                (∀ M79 : Mem, M79 = up M78 51 23 (w32 ((M78 51 23) + 1)) →
                Q 0 M79))))) ∧ (¬ r67 = 41 →
              ((r67 = 59 →
                (∀ M80 : Mem, M80 = up M73 51 24 3 →
                  (r32 r67 ∧ (∀ M81 : Mem, M81 = up M80 51 26 r67 →
                  (∀ M82 : Mem, M82 = up M81 51 23 (w32 ((M81 51 23) + 1)) →
                  Q 0 M82))))) ∧ (¬ r67 = 59 →
                ((r67 = 43 →
                  (∀ M83 : Mem, M83 = up M73 51 24 3 →
                    (r32 r67 ∧ (∀ M84 : Mem, M84 = up M83 51 26 r67 →
                    (∀ M85 : Mem, M85 = up M84 51 23 (w32 ((M84 51 23) + 1)) →
                    Q 0 M85))))) ∧ (¬ r67 = 43 →
                  ((r67 = 45 →
                    (∀ M86 : Mem, M86 = up M73 51 24 3 →
                      (r32 r67 ∧ (∀ M87 : Mem, M87 = up M86 51 26 r67 →
                      (∀ M88 : Mem, M88 = up M87 51 23 (w32 ((M87 51 23) + 1)) →
                      Q 0 M88))))) ∧ (¬ r67 = 45 →
                    ((r67 = 42 →
                      (∀ M89 : Mem, M89 = up M73 51 24 3 →
                        (r32 r67 ∧ (∀ M90 : Mem, M90 = up M89 51 26 r67 →
                        (∀ M91 : Mem, M91 = up M90 51 23 (w32 ((M90 51 23) + 1)) →
                        Q 0 M91))))) ∧ (¬ r67 = 42 →
                      ((r67 = 60 →
                        (∀ M92 : Mem, M92 = up M73 51 24 3 →
                          (r32 r67 ∧ (∀ M93 : Mem, M93 = up M92 51 26 r67 →
                          (∀ M94 : Mem, M94 = up M93 51 23 (w32 ((M93 51 23) + 1)) →
                          Q 0 M94))))) ∧ (¬ r67 = 60 →
                        ((r67 = 61 →
                          (∀ M95 : Mem, M95 = up M73 51 24 3 →
                            (r32 r67 ∧ (∀ M96 : Mem, M96 = up M95 51 26 r67 →
                            (∀ M97 : Mem, M97 = up M96 51 23 (w32 ((M96 51 23) + 1)) →
                            Q 0 M97))))) ∧ (¬ r67 = 61 →
                          Q 0 M73))))))))))))))))) ∧ (¬ r72 = 0 →
          (∀ M98 : Mem, M98 = up M73 51 24 2 →
            (r32 0 ∧ (∀ M99 : Mem, M99 = up M98 51 26 0 →
            K160 r67 0 M99))))))) ∧ (¬ r70 = 0 →
        (∀ M100 : Mem, M100 = up M71 51 24 1 →
          K100 r67 M100))))) ∧ (¬ 0 ≤ r67 →
      (∀ M101 : Mem, M101 = up M69 51 24 0 →
        (∀ M102 : Mem, M102 = up M101 51 25 (M101 51 22) →
        Q 0 M102)))))))))))))
set_option maxHeartbeats 4000000 in
set_option maxRecDepth 20000 in
theorem g_X10_nextToken {n : Nat}  {M : Mem} {Q : Int → Mem → Prop}  (h : ∀ (K0 : Mem → Prop) (K100 : Int → Mem → Prop) (K160 : Int → Int → Mem → Prop), (∀ (M : Mem), B_X10_nextToken_0 n   M Q K0 K100 K160 → K0  M) → (∀ (x1 : Int) (M : Mem), B_X10_nextToken_100 n  x1 M Q K0 K100 K160 → K100 x1 M) → (∀ (x1 : Int) (x2 : Int) (M : Mem), B_X10_nextToken_160 n  x1 x2 M Q K0 K100 K160 → K160 x1 x2 M) → B_X10_nextToken n  M Q K0 K100 K160) : Con (n + 1) md_X10_nextToken [vR 51] M Q := by
  refine Con.ofF (n := n + 1) (Nat.succ_pos n) pl_X10_nextToken (Nat.le_of_ble_eq_true rfl) (fun X C E hnL => ?_)
  have C : Cx X cX10_nextToken RX10 n := C
  show WM X 0 [(0, vR 51)] [] M
  have hb0 : ∀ (M : Mem), B_X10_nextToken_0 n   M Q (fun (M : Mem) => WM X 0 [(0, vR 51)] [] M) (fun (x1 : Int) (M : Mem) => WM X 100 [(0, vR 51), (1, vI x1)] [] M) (fun (x1 : Int) (x2 : Int) (M : Mem) => WM X 160 [(0, vR 51), (1, vI x1), (2, vI x2)] [] M) → WM X 0 [(0, vR 51)] [] M := by
    intro M h
    unfold B_X10_nextToken_0 at h
    refine m_aload_n C 0 dX10_nextToken_0 rfl rfl ?_
    refine m_aload_n C 0 dX10_nextToken_1 rfl rfl ?_
    refine m_getI C (k := 23) cl_X10 (by decide) so_51 rfl fl_X10_138 dX10_nextToken_2 ?_
    refine m_callVi C (as := [vI (M 51 23)]) (rest := []) ok_X10_byteAt ml_X10_141 so_51 rfl rfl rfl (Nat.le_of_ble_eq_true rfl) (fun _ => rfl) dX10_nextToken_5 (Con.mono h (fun r1 M2 _ _ h => ?_))
    refine m_bipush C dX10_nextToken_8 (r32_of rfl) (by decide) ?_
    refine m_icmp_eq C (tgt := 26) dX10_nextToken_10 (by decide) (fun e => ?_) (fun e => ?_)
    · have h := h.1 e
      refine m_aload_n C 0 dX10_nextToken_26 rfl rfl ?_
      refine m_dupR C dX10_nextToken_27 ?_
      refine m_getI C (k := 23) cl_X10 (by decide) so_51 rfl fl_X10_138 dX10_nextToken_28 ?_
      refine m_iconst C dX10_nextToken_31 (r32_of rfl) ?_
      refine m_iadd C dX10_nextToken_32 ?_
      refine m_putI C (k := 23) cl_X10 (by decide) so_51 rfl rfl rfl fl_X10_138 dX10_nextToken_33 ?_
      generalize eM3 : up M2 51 23 (w32 ((M2 51 23) + 1)) = M3
      have h := h M3 eM3.symm
      refine m_goto C (tgt := 0) dX10_nextToken_36 (by decide) ?_
      exact m_sub [0] rfl h
    · have h := h.2 e
      refine m_aload_n C 0 dX10_nextToken_13 rfl rfl ?_
      refine m_aload_n C 0 dX10_nextToken_14 rfl rfl ?_
      refine m_getI C (k := 23) cl_X10 (by decide) so_51 rfl fl_X10_138 dX10_nextToken_15 ?_
      refine m_callVi C (as := [vI (M2 51 23)]) (rest := []) ok_X10_byteAt ml_X10_141 so_51 rfl rfl rfl (Nat.le_of_ble_eq_true rfl) (fun _ => rfl) dX10_nextToken_18 (Con.mono h (fun r4 M5 _ _ h => ?_))
      refine m_bipush C dX10_nextToken_21 (r32_of rfl) (by decide) ?_
      refine m_icmp_ne C (tgt := 39) dX10_nextToken_23 (by decide) (fun e => ?_) (fun e => ?_)
      · have h := h.2 e
        refine m_aload_n C 0 dX10_nextToken_39 rfl rfl ?_
        refine m_aload_n C 0 dX10_nextToken_40 rfl rfl ?_
        refine m_getI C (k := 23) cl_X10 (by decide) so_51 rfl fl_X10_138 dX10_nextToken_41 ?_
        refine m_putI C (k := 25) cl_X10 (by decide) so_51 rfl rfl rfl fl_X10_144 dX10_nextToken_44 ?_
        generalize eM6 : up M5 51 25 (M5 51 23) = M6
        have h := h M6 eM6.symm
        refine m_aload_n C 0 dX10_nextToken_47 rfl rfl ?_
        refine m_aload_n C 0 dX10_nextToken_48 rfl rfl ?_
        refine m_getI C (k := 23) cl_X10 (by decide) so_51 rfl fl_X10_138 dX10_nextToken_49 ?_
        refine m_callVi C (as := [vI (M6 51 23)]) (rest := []) ok_X10_byteAt ml_X10_141 so_51 rfl rfl rfl (Nat.le_of_ble_eq_true rfl) (fun _ => rfl) dX10_nextToken_52 (Con.mono h (fun r7 M8 _ _ h => ?_))
        refine m_istore_n C (L' := [(1, vI r7), (0, vR 51)]) dX10_nextToken_55 rfl (by rw [hnL]; decide) rfl ?_
        refine m_aload_n C 1 dX10_nextToken_56 rfl rfl ?_
        refine m_iconst C dX10_nextToken_57 (r32_of rfl) ?_
        refine m_putI C (k := 24) cl_X10 (by decide) so_51 rfl rfl rfl fl_X10_147 dX10_nextToken_58 ?_
        generalize eM9 : up M8 51 24 4 = M9
        have h := h M9 eM9.symm
        refine m_iload_n C 0 dX10_nextToken_61 rfl rfl ?_
        refine m_if_ge C (tgt := 81) dX10_nextToken_62 (by decide) (fun e => ?_) (fun e => ?_)
        · have h := h.1 e
          refine m_iload_n C 0 dX10_nextToken_81 rfl rfl ?_
          refine m_i2l C dX10_nextToken_82 ?_
          refine m_ldc2 C (v := 97) dX10_nextToken_83 kc_X10_150 (r64_of rfl) ?_
          refine m_ldc2 C (v := 122) dX10_nextToken_86 kc_X10_152 (r64_of rfl) ?_
          refine m_callSi C (as := [vL r7, vL 97, vL 122]) (rest := []) ok_X10_in ml_X10_79 rfl rfl (Nat.le_of_ble_eq_true rfl) (fun _ => rfl) dX10_nextToken_89 (Con.mono h (fun r10 M11 _ _ h => ?_))
          refine m_if_eq C (tgt := 134) dX10_nextToken_92 (by decide) (fun e => ?_) (fun e => ?_)
          · have h := h.1 e
            refine m_iload_n C 0 dX10_nextToken_134 rfl rfl ?_
            refine m_i2l C dX10_nextToken_135 ?_
            refine m_ldc2 C (v := 48) dX10_nextToken_136 kc_X10_154 (r64_of rfl) ?_
            refine m_ldc2 C (v := 57) dX10_nextToken_139 kc_X10_156 (r64_of rfl) ?_
            refine m_callSi C (as := [vL r7, vL 48, vL 57]) (rest := []) ok_X10_in ml_X10_79 rfl rfl (Nat.le_of_ble_eq_true rfl) (fun _ => rfl) dX10_nextToken_142 (Con.mono h (fun r12 M13 _ _ h => ?_))
            refine m_if_eq C (tgt := 252) dX10_nextToken_145 (by decide) (fun e => ?_) (fun e => ?_)
            · have h := h.1 e
              refine m_iload_n C 0 dX10_nextToken_252 rfl rfl ?_
              refine m_bipush C dX10_nextToken_253 (r32_of rfl) (by decide) ?_
              refine m_icmp_eq C (tgt := 300) dX10_nextToken_255 (by decide) (fun e => ?_) (fun e => ?_)
              · have h := h.1 e
                refine m_aload_n C 1 dX10_nextToken_300 rfl rfl ?_
                refine m_iconst C dX10_nextToken_301 (r32_of rfl) ?_
                refine m_putI C (k := 24) cl_X10 (by decide) so_51 rfl rfl rfl fl_X10_147 dX10_nextToken_302 ?_
                generalize eM14 : up M13 51 24 3 = M14
                have h := h M14 eM14.symm
                refine m_aload_n C 1 dX10_nextToken_305 rfl rfl ?_
                refine m_iload_n C 0 dX10_nextToken_306 rfl rfl ?_
                refine m_i2l C dX10_nextToken_307 ?_
                refine m_putL C (k := 26) cl_X10 (by decide) so_51 rfl rfl rfl h.1 fl_X10_158 dX10_nextToken_308 ?_
                have h := h.2
                generalize eM15 : up M14 51 26 r7 = M15
                have h := h M15 eM15.symm
                refine m_aload_n C 1 dX10_nextToken_311 rfl rfl ?_
                refine m_dupR C dX10_nextToken_312 ?_
                refine m_getI C (k := 23) cl_X10 (by decide) so_51 rfl fl_X10_138 dX10_nextToken_313 ?_
                refine m_iconst C dX10_nextToken_316 (r32_of rfl) ?_
                refine m_iadd C dX10_nextToken_317 ?_
                refine m_putI C (k := 23) cl_X10 (by decide) so_51 rfl rfl rfl fl_X10_138 dX10_nextToken_318 ?_
                generalize eM16 : up M15 51 23 (w32 ((M15 51 23) + 1)) = M16
                have h := h M16 eM16.symm
                exact m_vret C E dX10_nextToken_321 h
              · have h := h.2 e
                refine m_iload_n C 0 dX10_nextToken_258 rfl rfl ?_
                refine m_bipush C dX10_nextToken_259 (r32_of rfl) (by decide) ?_
                refine m_icmp_eq C (tgt := 300) dX10_nextToken_261 (by decide) (fun e => ?_) (fun e => ?_)
                · have h := h.1 e
                  refine m_aload_n C 1 dX10_nextToken_300 rfl rfl ?_
                  refine m_iconst C dX10_nextToken_301 (r32_of rfl) ?_
                  refine m_putI C (k := 24) cl_X10 (by decide) so_51 rfl rfl rfl fl_X10_147 dX10_nextToken_302 ?_
                  generalize eM17 : up M13 51 24 3 = M17
                  have h := h M17 eM17.symm
                  refine m_aload_n C 1 dX10_nextToken_305 rfl rfl ?_
                  refine m_iload_n C 0 dX10_nextToken_306 rfl rfl ?_
                  refine m_i2l C dX10_nextToken_307 ?_
                  refine m_putL C (k := 26) cl_X10 (by decide) so_51 rfl rfl rfl h.1 fl_X10_158 dX10_nextToken_308 ?_
                  have h := h.2
                  generalize eM18 : up M17 51 26 r7 = M18
                  have h := h M18 eM18.symm
                  refine m_aload_n C 1 dX10_nextToken_311 rfl rfl ?_
                  refine m_dupR C dX10_nextToken_312 ?_
                  refine m_getI C (k := 23) cl_X10 (by decide) so_51 rfl fl_X10_138 dX10_nextToken_313 ?_
                  refine m_iconst C dX10_nextToken_316 (r32_of rfl) ?_
                  refine m_iadd C dX10_nextToken_317 ?_
                  refine m_putI C (k := 23) cl_X10 (by decide) so_51 rfl rfl rfl fl_X10_138 dX10_nextToken_318 ?_
                  generalize eM19 : up M18 51 23 (w32 ((M18 51 23) + 1)) = M19
                  have h := h M19 eM19.symm
                  exact m_vret C E dX10_nextToken_321 h
                · have h := h.2 e
                  refine m_iload_n C 0 dX10_nextToken_264 rfl rfl ?_
                  refine m_bipush C dX10_nextToken_265 (r32_of rfl) (by decide) ?_
                  refine m_icmp_eq C (tgt := 300) dX10_nextToken_267 (by decide) (fun e => ?_) (fun e => ?_)
                  · have h := h.1 e
                    refine m_aload_n C 1 dX10_nextToken_300 rfl rfl ?_
                    refine m_iconst C dX10_nextToken_301 (r32_of rfl) ?_
                    refine m_putI C (k := 24) cl_X10 (by decide) so_51 rfl rfl rfl fl_X10_147 dX10_nextToken_302 ?_
                    generalize eM20 : up M13 51 24 3 = M20
                    have h := h M20 eM20.symm
                    refine m_aload_n C 1 dX10_nextToken_305 rfl rfl ?_
                    refine m_iload_n C 0 dX10_nextToken_306 rfl rfl ?_
                    refine m_i2l C dX10_nextToken_307 ?_
                    refine m_putL C (k := 26) cl_X10 (by decide) so_51 rfl rfl rfl h.1 fl_X10_158 dX10_nextToken_308 ?_
                    have h := h.2
                    generalize eM21 : up M20 51 26 r7 = M21
                    have h := h M21 eM21.symm
                    refine m_aload_n C 1 dX10_nextToken_311 rfl rfl ?_
                    refine m_dupR C dX10_nextToken_312 ?_
                    refine m_getI C (k := 23) cl_X10 (by decide) so_51 rfl fl_X10_138 dX10_nextToken_313 ?_
                    refine m_iconst C dX10_nextToken_316 (r32_of rfl) ?_
                    refine m_iadd C dX10_nextToken_317 ?_
                    refine m_putI C (k := 23) cl_X10 (by decide) so_51 rfl rfl rfl fl_X10_138 dX10_nextToken_318 ?_
                    generalize eM22 : up M21 51 23 (w32 ((M21 51 23) + 1)) = M22
                    have h := h M22 eM22.symm
                    exact m_vret C E dX10_nextToken_321 h
                  · have h := h.2 e
                    refine m_iload_n C 0 dX10_nextToken_270 rfl rfl ?_
                    refine m_bipush C dX10_nextToken_271 (r32_of rfl) (by decide) ?_
                    refine m_icmp_eq C (tgt := 300) dX10_nextToken_273 (by decide) (fun e => ?_) (fun e => ?_)
                    · have h := h.1 e
                      refine m_aload_n C 1 dX10_nextToken_300 rfl rfl ?_
                      refine m_iconst C dX10_nextToken_301 (r32_of rfl) ?_
                      refine m_putI C (k := 24) cl_X10 (by decide) so_51 rfl rfl rfl fl_X10_147 dX10_nextToken_302 ?_
                      generalize eM23 : up M13 51 24 3 = M23
                      have h := h M23 eM23.symm
                      refine m_aload_n C 1 dX10_nextToken_305 rfl rfl ?_
                      refine m_iload_n C 0 dX10_nextToken_306 rfl rfl ?_
                      refine m_i2l C dX10_nextToken_307 ?_
                      refine m_putL C (k := 26) cl_X10 (by decide) so_51 rfl rfl rfl h.1 fl_X10_158 dX10_nextToken_308 ?_
                      have h := h.2
                      generalize eM24 : up M23 51 26 r7 = M24
                      have h := h M24 eM24.symm
                      refine m_aload_n C 1 dX10_nextToken_311 rfl rfl ?_
                      refine m_dupR C dX10_nextToken_312 ?_
                      refine m_getI C (k := 23) cl_X10 (by decide) so_51 rfl fl_X10_138 dX10_nextToken_313 ?_
                      refine m_iconst C dX10_nextToken_316 (r32_of rfl) ?_
                      refine m_iadd C dX10_nextToken_317 ?_
                      refine m_putI C (k := 23) cl_X10 (by decide) so_51 rfl rfl rfl fl_X10_138 dX10_nextToken_318 ?_
                      generalize eM25 : up M24 51 23 (w32 ((M24 51 23) + 1)) = M25
                      have h := h M25 eM25.symm
                      exact m_vret C E dX10_nextToken_321 h
                    · have h := h.2 e
                      refine m_iload_n C 0 dX10_nextToken_276 rfl rfl ?_
                      refine m_bipush C dX10_nextToken_277 (r32_of rfl) (by decide) ?_
                      refine m_icmp_eq C (tgt := 300) dX10_nextToken_279 (by decide) (fun e => ?_) (fun e => ?_)
                      · have h := h.1 e
                        refine m_aload_n C 1 dX10_nextToken_300 rfl rfl ?_
                        refine m_iconst C dX10_nextToken_301 (r32_of rfl) ?_
                        refine m_putI C (k := 24) cl_X10 (by decide) so_51 rfl rfl rfl fl_X10_147 dX10_nextToken_302 ?_
                        generalize eM26 : up M13 51 24 3 = M26
                        have h := h M26 eM26.symm
                        refine m_aload_n C 1 dX10_nextToken_305 rfl rfl ?_
                        refine m_iload_n C 0 dX10_nextToken_306 rfl rfl ?_
                        refine m_i2l C dX10_nextToken_307 ?_
                        refine m_putL C (k := 26) cl_X10 (by decide) so_51 rfl rfl rfl h.1 fl_X10_158 dX10_nextToken_308 ?_
                        have h := h.2
                        generalize eM27 : up M26 51 26 r7 = M27
                        have h := h M27 eM27.symm
                        refine m_aload_n C 1 dX10_nextToken_311 rfl rfl ?_
                        refine m_dupR C dX10_nextToken_312 ?_
                        refine m_getI C (k := 23) cl_X10 (by decide) so_51 rfl fl_X10_138 dX10_nextToken_313 ?_
                        refine m_iconst C dX10_nextToken_316 (r32_of rfl) ?_
                        refine m_iadd C dX10_nextToken_317 ?_
                        refine m_putI C (k := 23) cl_X10 (by decide) so_51 rfl rfl rfl fl_X10_138 dX10_nextToken_318 ?_
                        generalize eM28 : up M27 51 23 (w32 ((M27 51 23) + 1)) = M28
                        have h := h M28 eM28.symm
                        exact m_vret C E dX10_nextToken_321 h
                      · have h := h.2 e
                        refine m_iload_n C 0 dX10_nextToken_282 rfl rfl ?_
                        refine m_bipush C dX10_nextToken_283 (r32_of rfl) (by decide) ?_
                        refine m_icmp_eq C (tgt := 300) dX10_nextToken_285 (by decide) (fun e => ?_) (fun e => ?_)
                        · have h := h.1 e
                          refine m_aload_n C 1 dX10_nextToken_300 rfl rfl ?_
                          refine m_iconst C dX10_nextToken_301 (r32_of rfl) ?_
                          refine m_putI C (k := 24) cl_X10 (by decide) so_51 rfl rfl rfl fl_X10_147 dX10_nextToken_302 ?_
                          generalize eM29 : up M13 51 24 3 = M29
                          have h := h M29 eM29.symm
                          refine m_aload_n C 1 dX10_nextToken_305 rfl rfl ?_
                          refine m_iload_n C 0 dX10_nextToken_306 rfl rfl ?_
                          refine m_i2l C dX10_nextToken_307 ?_
                          refine m_putL C (k := 26) cl_X10 (by decide) so_51 rfl rfl rfl h.1 fl_X10_158 dX10_nextToken_308 ?_
                          have h := h.2
                          generalize eM30 : up M29 51 26 r7 = M30
                          have h := h M30 eM30.symm
                          refine m_aload_n C 1 dX10_nextToken_311 rfl rfl ?_
                          refine m_dupR C dX10_nextToken_312 ?_
                          refine m_getI C (k := 23) cl_X10 (by decide) so_51 rfl fl_X10_138 dX10_nextToken_313 ?_
                          refine m_iconst C dX10_nextToken_316 (r32_of rfl) ?_
                          refine m_iadd C dX10_nextToken_317 ?_
                          refine m_putI C (k := 23) cl_X10 (by decide) so_51 rfl rfl rfl fl_X10_138 dX10_nextToken_318 ?_
                          generalize eM31 : up M30 51 23 (w32 ((M30 51 23) + 1)) = M31
                          have h := h M31 eM31.symm
                          exact m_vret C E dX10_nextToken_321 h
                        · have h := h.2 e
                          refine m_iload_n C 0 dX10_nextToken_288 rfl rfl ?_
                          refine m_bipush C dX10_nextToken_289 (r32_of rfl) (by decide) ?_
                          refine m_icmp_eq C (tgt := 300) dX10_nextToken_291 (by decide) (fun e => ?_) (fun e => ?_)
                          · have h := h.1 e
                            refine m_aload_n C 1 dX10_nextToken_300 rfl rfl ?_
                            refine m_iconst C dX10_nextToken_301 (r32_of rfl) ?_
                            refine m_putI C (k := 24) cl_X10 (by decide) so_51 rfl rfl rfl fl_X10_147 dX10_nextToken_302 ?_
                            generalize eM32 : up M13 51 24 3 = M32
                            have h := h M32 eM32.symm
                            refine m_aload_n C 1 dX10_nextToken_305 rfl rfl ?_
                            refine m_iload_n C 0 dX10_nextToken_306 rfl rfl ?_
                            refine m_i2l C dX10_nextToken_307 ?_
                            refine m_putL C (k := 26) cl_X10 (by decide) so_51 rfl rfl rfl h.1 fl_X10_158 dX10_nextToken_308 ?_
                            have h := h.2
                            generalize eM33 : up M32 51 26 r7 = M33
                            have h := h M33 eM33.symm
                            refine m_aload_n C 1 dX10_nextToken_311 rfl rfl ?_
                            refine m_dupR C dX10_nextToken_312 ?_
                            refine m_getI C (k := 23) cl_X10 (by decide) so_51 rfl fl_X10_138 dX10_nextToken_313 ?_
                            refine m_iconst C dX10_nextToken_316 (r32_of rfl) ?_
                            refine m_iadd C dX10_nextToken_317 ?_
                            refine m_putI C (k := 23) cl_X10 (by decide) so_51 rfl rfl rfl fl_X10_138 dX10_nextToken_318 ?_
                            generalize eM34 : up M33 51 23 (w32 ((M33 51 23) + 1)) = M34
                            have h := h M34 eM34.symm
                            exact m_vret C E dX10_nextToken_321 h
                          · have h := h.2 e
                            refine m_iload_n C 0 dX10_nextToken_294 rfl rfl ?_
                            refine m_bipush C dX10_nextToken_295 (r32_of rfl) (by decide) ?_
                            refine m_icmp_ne C (tgt := 321) dX10_nextToken_297 (by decide) (fun e => ?_) (fun e => ?_)
                            · have h := h.2 e
                              exact m_vret C E dX10_nextToken_321 h
                            · have h := h.1 e
                              refine m_aload_n C 1 dX10_nextToken_300 rfl rfl ?_
                              refine m_iconst C dX10_nextToken_301 (r32_of rfl) ?_
                              refine m_putI C (k := 24) cl_X10 (by decide) so_51 rfl rfl rfl fl_X10_147 dX10_nextToken_302 ?_
                              generalize eM35 : up M13 51 24 3 = M35
                              have h := h M35 eM35.symm
                              refine m_aload_n C 1 dX10_nextToken_305 rfl rfl ?_
                              refine m_iload_n C 0 dX10_nextToken_306 rfl rfl ?_
                              refine m_i2l C dX10_nextToken_307 ?_
                              refine m_putL C (k := 26) cl_X10 (by decide) so_51 rfl rfl rfl h.1 fl_X10_158 dX10_nextToken_308 ?_
                              have h := h.2
                              generalize eM36 : up M35 51 26 r7 = M36
                              have h := h M36 eM36.symm
                              refine m_aload_n C 1 dX10_nextToken_311 rfl rfl ?_
                              refine m_dupR C dX10_nextToken_312 ?_
                              refine m_getI C (k := 23) cl_X10 (by decide) so_51 rfl fl_X10_138 dX10_nextToken_313 ?_
                              refine m_iconst C dX10_nextToken_316 (r32_of rfl) ?_
                              refine m_iadd C dX10_nextToken_317 ?_
                              refine m_putI C (k := 23) cl_X10 (by decide) so_51 rfl rfl rfl fl_X10_138 dX10_nextToken_318 ?_
                              generalize eM37 : up M36 51 23 (w32 ((M36 51 23) + 1)) = M37
                              have h := h M37 eM37.symm
                              exact m_vret C E dX10_nextToken_321 h
            · have h := h.2 e
              refine m_aload_n C 1 dX10_nextToken_148 rfl rfl ?_
              refine m_iconst C dX10_nextToken_149 (r32_of rfl) ?_
              refine m_putI C (k := 24) cl_X10 (by decide) so_51 rfl rfl rfl fl_X10_147 dX10_nextToken_150 ?_
              generalize eM38 : up M13 51 24 2 = M38
              have h := h M38 eM38.symm
              refine m_aload_n C 1 dX10_nextToken_153 rfl rfl ?_
              refine m_lconst C (x := 0) dX10_nextToken_154 (by decide) (r64_of rfl) ?_
              refine m_putL C (k := 26) cl_X10 (by decide) so_51 rfl rfl rfl h.1 fl_X10_158 dX10_nextToken_155 ?_
              have h := h.2
              generalize eM39 : up M38 51 26 0 = M39
              have h := h M39 eM39.symm
              refine m_iconst C dX10_nextToken_158 (r32_of rfl) ?_
              refine m_istore_n C (L' := [(2, vI 0), (1, vI r7), (0, vR 51)]) dX10_nextToken_159 rfl (by rw [hnL]; decide) rfl ?_
              exact m_sub [2, 1, 0] rfl h
          · have h := h.2 e
            refine m_aload_n C 1 dX10_nextToken_95 rfl rfl ?_
            refine m_iconst C dX10_nextToken_96 (r32_of rfl) ?_
            refine m_putI C (k := 24) cl_X10 (by decide) so_51 rfl rfl rfl fl_X10_147 dX10_nextToken_97 ?_
            generalize eM40 : up M11 51 24 1 = M40
            have h := h M40 eM40.symm
            exact m_sub [1, 0] rfl h
        · have h := h.2 e
          refine m_aload_n C 1 dX10_nextToken_65 rfl rfl ?_
          refine m_iconst C dX10_nextToken_66 (r32_of rfl) ?_
          refine m_putI C (k := 24) cl_X10 (by decide) so_51 rfl rfl rfl fl_X10_147 dX10_nextToken_67 ?_
          generalize eM41 : up M9 51 24 0 = M41
          have h := h M41 eM41.symm
          refine m_aload_n C 1 dX10_nextToken_70 rfl rfl ?_
          refine m_aload_n C 1 dX10_nextToken_71 rfl rfl ?_
          refine m_getI C (k := 22) cl_X10 (by decide) so_51 rfl fl_X10_132 dX10_nextToken_72 ?_
          refine m_putI C (k := 25) cl_X10 (by decide) so_51 rfl rfl rfl fl_X10_144 dX10_nextToken_75 ?_
          generalize eM42 : up M41 51 25 (M41 51 22) = M42
          have h := h M42 eM42.symm
          refine m_goto C (tgt := 321) dX10_nextToken_78 (by decide) ?_
          exact m_vret C E dX10_nextToken_321 h
      · have h := h.1 e
        refine m_aload_n C 0 dX10_nextToken_26 rfl rfl ?_
        refine m_dupR C dX10_nextToken_27 ?_
        refine m_getI C (k := 23) cl_X10 (by decide) so_51 rfl fl_X10_138 dX10_nextToken_28 ?_
        refine m_iconst C dX10_nextToken_31 (r32_of rfl) ?_
        refine m_iadd C dX10_nextToken_32 ?_
        refine m_putI C (k := 23) cl_X10 (by decide) so_51 rfl rfl rfl fl_X10_138 dX10_nextToken_33 ?_
        generalize eM43 : up M5 51 23 (w32 ((M5 51 23) + 1)) = M43
        have h := h M43 eM43.symm
        refine m_goto C (tgt := 0) dX10_nextToken_36 (by decide) ?_
        exact m_sub [0] rfl h
  have hb100 : ∀ (x1 : Int) (M : Mem), B_X10_nextToken_100 n  x1 M Q (fun (M : Mem) => WM X 0 [(0, vR 51)] [] M) (fun (x1 : Int) (M : Mem) => WM X 100 [(0, vR 51), (1, vI x1)] [] M) (fun (x1 : Int) (x2 : Int) (M : Mem) => WM X 160 [(0, vR 51), (1, vI x1), (2, vI x2)] [] M) → WM X 100 [(0, vR 51), (1, vI x1)] [] M := by
    intro x1 M h
    unfold B_X10_nextToken_100 at h
    refine m_aload_n C 0 dX10_nextToken_100 rfl rfl ?_
    refine m_aload_n C 0 dX10_nextToken_101 rfl rfl ?_
    refine m_getI C (k := 23) cl_X10 (by decide) so_51 rfl fl_X10_138 dX10_nextToken_102 ?_
    refine m_callVi C (as := [vI (M 51 23)]) (rest := []) ok_X10_byteAt ml_X10_141 so_51 rfl rfl rfl (Nat.le_of_ble_eq_true rfl) (fun _ => rfl) dX10_nextToken_105 (Con.mono h (fun r44 M45 _ _ h => ?_))
    refine m_i2l C dX10_nextToken_108 ?_
    refine m_ldc2 C (v := 97) dX10_nextToken_109 kc_X10_150 (r64_of rfl) ?_
    refine m_ldc2 C (v := 122) dX10_nextToken_112 kc_X10_152 (r64_of rfl) ?_
    refine m_callSi C (as := [vL r44, vL 97, vL 122]) (rest := []) ok_X10_in ml_X10_79 rfl rfl (Nat.le_of_ble_eq_true rfl) (fun _ => rfl) dX10_nextToken_115 (Con.mono h (fun r46 M47 _ _ h => ?_))
    refine m_if_eq C (tgt := 321) dX10_nextToken_118 (by decide) (fun e => ?_) (fun e => ?_)
    · have h := h.1 e
      exact m_vret C E dX10_nextToken_321 h
    · have h := h.2 e
      refine m_aload_n C 0 dX10_nextToken_121 rfl rfl ?_
      refine m_dupR C dX10_nextToken_122 ?_
      refine m_getI C (k := 23) cl_X10 (by decide) so_51 rfl fl_X10_138 dX10_nextToken_123 ?_
      refine m_iconst C dX10_nextToken_126 (r32_of rfl) ?_
      refine m_iadd C dX10_nextToken_127 ?_
      refine m_putI C (k := 23) cl_X10 (by decide) so_51 rfl rfl rfl fl_X10_138 dX10_nextToken_128 ?_
      generalize eM48 : up M47 51 23 (w32 ((M47 51 23) + 1)) = M48
      have h := h M48 eM48.symm
      refine m_goto C (tgt := 100) dX10_nextToken_131 (by decide) ?_
      exact m_sub [0, 1] rfl h
  have hb160 : ∀ (x1 : Int) (x2 : Int) (M : Mem), B_X10_nextToken_160 n  x1 x2 M Q (fun (M : Mem) => WM X 0 [(0, vR 51)] [] M) (fun (x1 : Int) (M : Mem) => WM X 100 [(0, vR 51), (1, vI x1)] [] M) (fun (x1 : Int) (x2 : Int) (M : Mem) => WM X 160 [(0, vR 51), (1, vI x1), (2, vI x2)] [] M) → WM X 160 [(0, vR 51), (1, vI x1), (2, vI x2)] [] M := by
    intro x1 x2 M h
    unfold B_X10_nextToken_160 at h
    refine m_aload_n C 0 dX10_nextToken_160 rfl rfl ?_
    refine m_aload_n C 0 dX10_nextToken_161 rfl rfl ?_
    refine m_getI C (k := 23) cl_X10 (by decide) so_51 rfl fl_X10_138 dX10_nextToken_162 ?_
    refine m_callVi C (as := [vI (M 51 23)]) (rest := []) ok_X10_byteAt ml_X10_141 so_51 rfl rfl rfl (Nat.le_of_ble_eq_true rfl) (fun _ => rfl) dX10_nextToken_165 (Con.mono h (fun r49 M50 _ _ h => ?_))
    refine m_i2l C dX10_nextToken_168 ?_
    refine m_ldc2 C (v := 48) dX10_nextToken_169 kc_X10_154 (r64_of rfl) ?_
    refine m_ldc2 C (v := 57) dX10_nextToken_172 kc_X10_156 (r64_of rfl) ?_
    refine m_callSi C (as := [vL r49, vL 48, vL 57]) (rest := []) ok_X10_in ml_X10_79 rfl rfl (Nat.le_of_ble_eq_true rfl) (fun _ => rfl) dX10_nextToken_175 (Con.mono h (fun r51 M52 _ _ h => ?_))
    refine m_if_eq C (tgt := 235) dX10_nextToken_178 (by decide) (fun e => ?_) (fun e => ?_)
    · have h := h.1 e
      refine m_aload_n C 0 dX10_nextToken_235 rfl rfl ?_
      refine m_iload_n C 2 dX10_nextToken_236 rfl rfl ?_
      refine m_iconst C dX10_nextToken_237 (r32_of rfl) ?_
      refine m_icmp_le C (tgt := 245) dX10_nextToken_238 (by decide) (fun e => ?_) (fun e => ?_)
      · have h := h.1 e
        refine m_iconst C dX10_nextToken_245 (r32_of rfl) ?_
        refine m_putI C (k := 24) cl_X10 (by decide) so_51 rfl rfl rfl fl_X10_147 dX10_nextToken_246 ?_
        generalize eM53 : up M52 51 24 2 = M53
        have h := h M53 eM53.symm
        refine m_goto C (tgt := 321) dX10_nextToken_249 (by decide) ?_
        exact m_vret C E dX10_nextToken_321 h
      · have h := h.2 e
        refine m_iconst C dX10_nextToken_241 (r32_of rfl) ?_
        refine m_goto C (tgt := 246) dX10_nextToken_242 (by decide) ?_
        refine m_putI C (k := 24) cl_X10 (by decide) so_51 rfl rfl rfl fl_X10_147 dX10_nextToken_246 ?_
        generalize eM54 : up M52 51 24 4 = M54
        have h := h M54 eM54.symm
        refine m_goto C (tgt := 321) dX10_nextToken_249 (by decide) ?_
        exact m_vret C E dX10_nextToken_321 h
    · have h := h.2 e
      refine m_aload_n C 0 dX10_nextToken_181 rfl rfl ?_
      refine m_iload_n C 2 dX10_nextToken_182 rfl rfl ?_
      refine m_iconst C dX10_nextToken_183 (r32_of rfl) ?_
      refine m_icmp_ge C (tgt := 212) dX10_nextToken_184 (by decide) (fun e => ?_) (fun e => ?_)
      · have h := h.1 e
        refine m_aload_n C 0 dX10_nextToken_212 rfl rfl ?_
        refine m_getL C (k := 26) cl_X10 (by decide) so_51 rfl fl_X10_158 dX10_nextToken_213 ?_
        refine m_putL C (k := 26) cl_X10 (by decide) so_51 rfl rfl rfl h.1 fl_X10_158 dX10_nextToken_216 ?_
        have h := h.2
        generalize eM55 : up M52 51 26 (M52 51 26) = M55
        have h := h M55 eM55.symm
        refine m_iinc C (L' := [(2, vI (w32 (x2 + 1))), (0, vR 51), (1, vI x1)]) 2 dX10_nextToken_219 rfl (by rw [hnL]; decide) rfl ?_
        refine m_aload_n C 1 dX10_nextToken_222 rfl rfl ?_
        refine m_dupR C dX10_nextToken_223 ?_
        refine m_getI C (k := 23) cl_X10 (by decide) so_51 rfl fl_X10_138 dX10_nextToken_224 ?_
        refine m_iconst C dX10_nextToken_227 (r32_of rfl) ?_
        refine m_iadd C dX10_nextToken_228 ?_
        refine m_putI C (k := 23) cl_X10 (by decide) so_51 rfl rfl rfl fl_X10_138 dX10_nextToken_229 ?_
        generalize eM56 : up M55 51 23 (w32 ((M55 51 23) + 1)) = M56
        have h := h M56 eM56.symm
        refine m_goto C (tgt := 160) dX10_nextToken_232 (by decide) ?_
        exact m_sub [1, 2, 0] rfl h
      · have h := h.2 e
        refine m_ldc2 C (v := 10) dX10_nextToken_187 kc_X10_162 (r64_of rfl) ?_
        refine m_aload_n C 0 dX10_nextToken_190 rfl rfl ?_
        refine m_getL C (k := 26) cl_X10 (by decide) so_51 rfl fl_X10_158 dX10_nextToken_191 ?_
        refine m_lmul C dX10_nextToken_194 ?_
        refine m_aload_n C 0 dX10_nextToken_195 rfl rfl ?_
        refine m_aload_n C 0 dX10_nextToken_196 rfl rfl ?_
        refine m_getI C (k := 23) cl_X10 (by decide) so_51 rfl fl_X10_138 dX10_nextToken_197 ?_
        refine m_callVi C (as := [vI (M52 51 23)]) (rest := [vL (w64 (10 * (M52 51 26))), vR 51]) ok_X10_byteAt ml_X10_141 so_51 rfl rfl rfl (Nat.le_of_ble_eq_true rfl) (fun _ => rfl) dX10_nextToken_200 (Con.mono h (fun r57 M58 _ _ h => ?_))
        refine m_i2l C dX10_nextToken_203 ?_
        refine m_ladd C dX10_nextToken_204 ?_
        refine m_ldc2 C (v := 48) dX10_nextToken_205 kc_X10_154 (r64_of rfl) ?_
        refine m_lsub C dX10_nextToken_208 ?_
        refine m_goto C (tgt := 216) dX10_nextToken_209 (by decide) ?_
        refine m_putL C (k := 26) cl_X10 (by decide) so_51 rfl rfl rfl h.1 fl_X10_158 dX10_nextToken_216 ?_
        have h := h.2
        generalize eM59 : up M58 51 26 (w64 ((w64 ((w64 (10 * (M52 51 26))) + r57)) - 48)) = M59
        have h := h M59 eM59.symm
        refine m_iinc C (L' := [(2, vI (w32 (x2 + 1))), (0, vR 51), (1, vI x1)]) 2 dX10_nextToken_219 rfl (by rw [hnL]; decide) rfl ?_
        refine m_aload_n C 1 dX10_nextToken_222 rfl rfl ?_
        refine m_dupR C dX10_nextToken_223 ?_
        refine m_getI C (k := 23) cl_X10 (by decide) so_51 rfl fl_X10_138 dX10_nextToken_224 ?_
        refine m_iconst C dX10_nextToken_227 (r32_of rfl) ?_
        refine m_iadd C dX10_nextToken_228 ?_
        refine m_putI C (k := 23) cl_X10 (by decide) so_51 rfl rfl rfl fl_X10_138 dX10_nextToken_229 ?_
        generalize eM60 : up M59 51 23 (w32 ((M59 51 23) + 1)) = M60
        have h := h M60 eM60.symm
        refine m_goto C (tgt := 160) dX10_nextToken_232 (by decide) ?_
        exact m_sub [1, 2, 0] rfl h
  have h := h (fun (M : Mem) => WM X 0 [(0, vR 51)] [] M) (fun (x1 : Int) (M : Mem) => WM X 100 [(0, vR 51), (1, vI x1)] [] M) (fun (x1 : Int) (x2 : Int) (M : Mem) => WM X 160 [(0, vR 51), (1, vI x1), (2, vI x2)] [] M) hb0 hb100 hb160
  unfold B_X10_nextToken at h
  refine m_aload_n C 0 dX10_nextToken_0 rfl rfl ?_
  refine m_aload_n C 0 dX10_nextToken_1 rfl rfl ?_
  refine m_getI C (k := 23) cl_X10 (by decide) so_51 rfl fl_X10_138 dX10_nextToken_2 ?_
  refine m_callVi C (as := [vI (M 51 23)]) (rest := []) ok_X10_byteAt ml_X10_141 so_51 rfl rfl rfl (Nat.le_of_ble_eq_true rfl) (fun _ => rfl) dX10_nextToken_5 (Con.mono h (fun r61 M62 _ _ h => ?_))
  refine m_bipush C dX10_nextToken_8 (r32_of rfl) (by decide) ?_
  refine m_icmp_eq C (tgt := 26) dX10_nextToken_10 (by decide) (fun e => ?_) (fun e => ?_)
  · have h := h.1 e
    refine m_aload_n C 0 dX10_nextToken_26 rfl rfl ?_
    refine m_dupR C dX10_nextToken_27 ?_
    refine m_getI C (k := 23) cl_X10 (by decide) so_51 rfl fl_X10_138 dX10_nextToken_28 ?_
    refine m_iconst C dX10_nextToken_31 (r32_of rfl) ?_
    refine m_iadd C dX10_nextToken_32 ?_
    refine m_putI C (k := 23) cl_X10 (by decide) so_51 rfl rfl rfl fl_X10_138 dX10_nextToken_33 ?_
    generalize eM63 : up M62 51 23 (w32 ((M62 51 23) + 1)) = M63
    have h := h M63 eM63.symm
    refine m_goto C (tgt := 0) dX10_nextToken_36 (by decide) ?_
    exact m_sub [0] rfl h
  · have h := h.2 e
    refine m_aload_n C 0 dX10_nextToken_13 rfl rfl ?_
    refine m_aload_n C 0 dX10_nextToken_14 rfl rfl ?_
    refine m_getI C (k := 23) cl_X10 (by decide) so_51 rfl fl_X10_138 dX10_nextToken_15 ?_
    refine m_callVi C (as := [vI (M62 51 23)]) (rest := []) ok_X10_byteAt ml_X10_141 so_51 rfl rfl rfl (Nat.le_of_ble_eq_true rfl) (fun _ => rfl) dX10_nextToken_18 (Con.mono h (fun r64 M65 _ _ h => ?_))
    refine m_bipush C dX10_nextToken_21 (r32_of rfl) (by decide) ?_
    refine m_icmp_ne C (tgt := 39) dX10_nextToken_23 (by decide) (fun e => ?_) (fun e => ?_)
    · have h := h.2 e
      refine m_aload_n C 0 dX10_nextToken_39 rfl rfl ?_
      refine m_aload_n C 0 dX10_nextToken_40 rfl rfl ?_
      refine m_getI C (k := 23) cl_X10 (by decide) so_51 rfl fl_X10_138 dX10_nextToken_41 ?_
      refine m_putI C (k := 25) cl_X10 (by decide) so_51 rfl rfl rfl fl_X10_144 dX10_nextToken_44 ?_
      generalize eM66 : up M65 51 25 (M65 51 23) = M66
      have h := h M66 eM66.symm
      refine m_aload_n C 0 dX10_nextToken_47 rfl rfl ?_
      refine m_aload_n C 0 dX10_nextToken_48 rfl rfl ?_
      refine m_getI C (k := 23) cl_X10 (by decide) so_51 rfl fl_X10_138 dX10_nextToken_49 ?_
      refine m_callVi C (as := [vI (M66 51 23)]) (rest := []) ok_X10_byteAt ml_X10_141 so_51 rfl rfl rfl (Nat.le_of_ble_eq_true rfl) (fun _ => rfl) dX10_nextToken_52 (Con.mono h (fun r67 M68 _ _ h => ?_))
      refine m_istore_n C (L' := [(1, vI r67), (0, vR 51)]) dX10_nextToken_55 rfl (by rw [hnL]; decide) rfl ?_
      refine m_aload_n C 1 dX10_nextToken_56 rfl rfl ?_
      refine m_iconst C dX10_nextToken_57 (r32_of rfl) ?_
      refine m_putI C (k := 24) cl_X10 (by decide) so_51 rfl rfl rfl fl_X10_147 dX10_nextToken_58 ?_
      generalize eM69 : up M68 51 24 4 = M69
      have h := h M69 eM69.symm
      refine m_iload_n C 0 dX10_nextToken_61 rfl rfl ?_
      refine m_if_ge C (tgt := 81) dX10_nextToken_62 (by decide) (fun e => ?_) (fun e => ?_)
      · have h := h.1 e
        refine m_iload_n C 0 dX10_nextToken_81 rfl rfl ?_
        refine m_i2l C dX10_nextToken_82 ?_
        refine m_ldc2 C (v := 97) dX10_nextToken_83 kc_X10_150 (r64_of rfl) ?_
        refine m_ldc2 C (v := 122) dX10_nextToken_86 kc_X10_152 (r64_of rfl) ?_
        refine m_callSi C (as := [vL r67, vL 97, vL 122]) (rest := []) ok_X10_in ml_X10_79 rfl rfl (Nat.le_of_ble_eq_true rfl) (fun _ => rfl) dX10_nextToken_89 (Con.mono h (fun r70 M71 _ _ h => ?_))
        refine m_if_eq C (tgt := 134) dX10_nextToken_92 (by decide) (fun e => ?_) (fun e => ?_)
        · have h := h.1 e
          refine m_iload_n C 0 dX10_nextToken_134 rfl rfl ?_
          refine m_i2l C dX10_nextToken_135 ?_
          refine m_ldc2 C (v := 48) dX10_nextToken_136 kc_X10_154 (r64_of rfl) ?_
          refine m_ldc2 C (v := 57) dX10_nextToken_139 kc_X10_156 (r64_of rfl) ?_
          refine m_callSi C (as := [vL r67, vL 48, vL 57]) (rest := []) ok_X10_in ml_X10_79 rfl rfl (Nat.le_of_ble_eq_true rfl) (fun _ => rfl) dX10_nextToken_142 (Con.mono h (fun r72 M73 _ _ h => ?_))
          refine m_if_eq C (tgt := 252) dX10_nextToken_145 (by decide) (fun e => ?_) (fun e => ?_)
          · have h := h.1 e
            refine m_iload_n C 0 dX10_nextToken_252 rfl rfl ?_
            refine m_bipush C dX10_nextToken_253 (r32_of rfl) (by decide) ?_
            refine m_icmp_eq C (tgt := 300) dX10_nextToken_255 (by decide) (fun e => ?_) (fun e => ?_)
            · have h := h.1 e
              refine m_aload_n C 1 dX10_nextToken_300 rfl rfl ?_
              refine m_iconst C dX10_nextToken_301 (r32_of rfl) ?_
              refine m_putI C (k := 24) cl_X10 (by decide) so_51 rfl rfl rfl fl_X10_147 dX10_nextToken_302 ?_
              generalize eM74 : up M73 51 24 3 = M74
              have h := h M74 eM74.symm
              refine m_aload_n C 1 dX10_nextToken_305 rfl rfl ?_
              refine m_iload_n C 0 dX10_nextToken_306 rfl rfl ?_
              refine m_i2l C dX10_nextToken_307 ?_
              refine m_putL C (k := 26) cl_X10 (by decide) so_51 rfl rfl rfl h.1 fl_X10_158 dX10_nextToken_308 ?_
              have h := h.2
              generalize eM75 : up M74 51 26 r67 = M75
              have h := h M75 eM75.symm
              refine m_aload_n C 1 dX10_nextToken_311 rfl rfl ?_
              refine m_dupR C dX10_nextToken_312 ?_
              refine m_getI C (k := 23) cl_X10 (by decide) so_51 rfl fl_X10_138 dX10_nextToken_313 ?_
              refine m_iconst C dX10_nextToken_316 (r32_of rfl) ?_
              refine m_iadd C dX10_nextToken_317 ?_
              refine m_putI C (k := 23) cl_X10 (by decide) so_51 rfl rfl rfl fl_X10_138 dX10_nextToken_318 ?_
              generalize eM76 : up M75 51 23 (w32 ((M75 51 23) + 1)) = M76
              have h := h M76 eM76.symm
              exact m_vret C E dX10_nextToken_321 h
            · have h := h.2 e
              refine m_iload_n C 0 dX10_nextToken_258 rfl rfl ?_
              refine m_bipush C dX10_nextToken_259 (r32_of rfl) (by decide) ?_
              refine m_icmp_eq C (tgt := 300) dX10_nextToken_261 (by decide) (fun e => ?_) (fun e => ?_)
              · have h := h.1 e
                refine m_aload_n C 1 dX10_nextToken_300 rfl rfl ?_
                refine m_iconst C dX10_nextToken_301 (r32_of rfl) ?_
                refine m_putI C (k := 24) cl_X10 (by decide) so_51 rfl rfl rfl fl_X10_147 dX10_nextToken_302 ?_
                generalize eM77 : up M73 51 24 3 = M77
                have h := h M77 eM77.symm
                refine m_aload_n C 1 dX10_nextToken_305 rfl rfl ?_
                refine m_iload_n C 0 dX10_nextToken_306 rfl rfl ?_
                refine m_i2l C dX10_nextToken_307 ?_
                refine m_putL C (k := 26) cl_X10 (by decide) so_51 rfl rfl rfl h.1 fl_X10_158 dX10_nextToken_308 ?_
                have h := h.2
                generalize eM78 : up M77 51 26 r67 = M78
                have h := h M78 eM78.symm
                refine m_aload_n C 1 dX10_nextToken_311 rfl rfl ?_
                refine m_dupR C dX10_nextToken_312 ?_
                refine m_getI C (k := 23) cl_X10 (by decide) so_51 rfl fl_X10_138 dX10_nextToken_313 ?_
                refine m_iconst C dX10_nextToken_316 (r32_of rfl) ?_
                refine m_iadd C dX10_nextToken_317 ?_
                refine m_putI C (k := 23) cl_X10 (by decide) so_51 rfl rfl rfl fl_X10_138 dX10_nextToken_318 ?_
                generalize eM79 : up M78 51 23 (w32 ((M78 51 23) + 1)) = M79
                have h := h M79 eM79.symm
                exact m_vret C E dX10_nextToken_321 h
              · have h := h.2 e
                refine m_iload_n C 0 dX10_nextToken_264 rfl rfl ?_
                refine m_bipush C dX10_nextToken_265 (r32_of rfl) (by decide) ?_
                refine m_icmp_eq C (tgt := 300) dX10_nextToken_267 (by decide) (fun e => ?_) (fun e => ?_)
                · have h := h.1 e
                  refine m_aload_n C 1 dX10_nextToken_300 rfl rfl ?_
                  refine m_iconst C dX10_nextToken_301 (r32_of rfl) ?_
                  refine m_putI C (k := 24) cl_X10 (by decide) so_51 rfl rfl rfl fl_X10_147 dX10_nextToken_302 ?_
                  generalize eM80 : up M73 51 24 3 = M80
                  have h := h M80 eM80.symm
                  refine m_aload_n C 1 dX10_nextToken_305 rfl rfl ?_
                  refine m_iload_n C 0 dX10_nextToken_306 rfl rfl ?_
                  refine m_i2l C dX10_nextToken_307 ?_
                  refine m_putL C (k := 26) cl_X10 (by decide) so_51 rfl rfl rfl h.1 fl_X10_158 dX10_nextToken_308 ?_
                  have h := h.2
                  generalize eM81 : up M80 51 26 r67 = M81
                  have h := h M81 eM81.symm
                  refine m_aload_n C 1 dX10_nextToken_311 rfl rfl ?_
                  refine m_dupR C dX10_nextToken_312 ?_
                  refine m_getI C (k := 23) cl_X10 (by decide) so_51 rfl fl_X10_138 dX10_nextToken_313 ?_
                  refine m_iconst C dX10_nextToken_316 (r32_of rfl) ?_
                  refine m_iadd C dX10_nextToken_317 ?_
                  refine m_putI C (k := 23) cl_X10 (by decide) so_51 rfl rfl rfl fl_X10_138 dX10_nextToken_318 ?_
                  generalize eM82 : up M81 51 23 (w32 ((M81 51 23) + 1)) = M82
                  have h := h M82 eM82.symm
                  exact m_vret C E dX10_nextToken_321 h
                · have h := h.2 e
                  refine m_iload_n C 0 dX10_nextToken_270 rfl rfl ?_
                  refine m_bipush C dX10_nextToken_271 (r32_of rfl) (by decide) ?_
                  refine m_icmp_eq C (tgt := 300) dX10_nextToken_273 (by decide) (fun e => ?_) (fun e => ?_)
                  · have h := h.1 e
                    refine m_aload_n C 1 dX10_nextToken_300 rfl rfl ?_
                    refine m_iconst C dX10_nextToken_301 (r32_of rfl) ?_
                    refine m_putI C (k := 24) cl_X10 (by decide) so_51 rfl rfl rfl fl_X10_147 dX10_nextToken_302 ?_
                    generalize eM83 : up M73 51 24 3 = M83
                    have h := h M83 eM83.symm
                    refine m_aload_n C 1 dX10_nextToken_305 rfl rfl ?_
                    refine m_iload_n C 0 dX10_nextToken_306 rfl rfl ?_
                    refine m_i2l C dX10_nextToken_307 ?_
                    refine m_putL C (k := 26) cl_X10 (by decide) so_51 rfl rfl rfl h.1 fl_X10_158 dX10_nextToken_308 ?_
                    have h := h.2
                    generalize eM84 : up M83 51 26 r67 = M84
                    have h := h M84 eM84.symm
                    refine m_aload_n C 1 dX10_nextToken_311 rfl rfl ?_
                    refine m_dupR C dX10_nextToken_312 ?_
                    refine m_getI C (k := 23) cl_X10 (by decide) so_51 rfl fl_X10_138 dX10_nextToken_313 ?_
                    refine m_iconst C dX10_nextToken_316 (r32_of rfl) ?_
                    refine m_iadd C dX10_nextToken_317 ?_
                    refine m_putI C (k := 23) cl_X10 (by decide) so_51 rfl rfl rfl fl_X10_138 dX10_nextToken_318 ?_
                    generalize eM85 : up M84 51 23 (w32 ((M84 51 23) + 1)) = M85
                    have h := h M85 eM85.symm
                    exact m_vret C E dX10_nextToken_321 h
                  · have h := h.2 e
                    refine m_iload_n C 0 dX10_nextToken_276 rfl rfl ?_
                    refine m_bipush C dX10_nextToken_277 (r32_of rfl) (by decide) ?_
                    refine m_icmp_eq C (tgt := 300) dX10_nextToken_279 (by decide) (fun e => ?_) (fun e => ?_)
                    · have h := h.1 e
                      refine m_aload_n C 1 dX10_nextToken_300 rfl rfl ?_
                      refine m_iconst C dX10_nextToken_301 (r32_of rfl) ?_
                      refine m_putI C (k := 24) cl_X10 (by decide) so_51 rfl rfl rfl fl_X10_147 dX10_nextToken_302 ?_
                      generalize eM86 : up M73 51 24 3 = M86
                      have h := h M86 eM86.symm
                      refine m_aload_n C 1 dX10_nextToken_305 rfl rfl ?_
                      refine m_iload_n C 0 dX10_nextToken_306 rfl rfl ?_
                      refine m_i2l C dX10_nextToken_307 ?_
                      refine m_putL C (k := 26) cl_X10 (by decide) so_51 rfl rfl rfl h.1 fl_X10_158 dX10_nextToken_308 ?_
                      have h := h.2
                      generalize eM87 : up M86 51 26 r67 = M87
                      have h := h M87 eM87.symm
                      refine m_aload_n C 1 dX10_nextToken_311 rfl rfl ?_
                      refine m_dupR C dX10_nextToken_312 ?_
                      refine m_getI C (k := 23) cl_X10 (by decide) so_51 rfl fl_X10_138 dX10_nextToken_313 ?_
                      refine m_iconst C dX10_nextToken_316 (r32_of rfl) ?_
                      refine m_iadd C dX10_nextToken_317 ?_
                      refine m_putI C (k := 23) cl_X10 (by decide) so_51 rfl rfl rfl fl_X10_138 dX10_nextToken_318 ?_
                      generalize eM88 : up M87 51 23 (w32 ((M87 51 23) + 1)) = M88
                      have h := h M88 eM88.symm
                      exact m_vret C E dX10_nextToken_321 h
                    · have h := h.2 e
                      refine m_iload_n C 0 dX10_nextToken_282 rfl rfl ?_
                      refine m_bipush C dX10_nextToken_283 (r32_of rfl) (by decide) ?_
                      refine m_icmp_eq C (tgt := 300) dX10_nextToken_285 (by decide) (fun e => ?_) (fun e => ?_)
                      · have h := h.1 e
                        refine m_aload_n C 1 dX10_nextToken_300 rfl rfl ?_
                        refine m_iconst C dX10_nextToken_301 (r32_of rfl) ?_
                        refine m_putI C (k := 24) cl_X10 (by decide) so_51 rfl rfl rfl fl_X10_147 dX10_nextToken_302 ?_
                        generalize eM89 : up M73 51 24 3 = M89
                        have h := h M89 eM89.symm
                        refine m_aload_n C 1 dX10_nextToken_305 rfl rfl ?_
                        refine m_iload_n C 0 dX10_nextToken_306 rfl rfl ?_
                        refine m_i2l C dX10_nextToken_307 ?_
                        refine m_putL C (k := 26) cl_X10 (by decide) so_51 rfl rfl rfl h.1 fl_X10_158 dX10_nextToken_308 ?_
                        have h := h.2
                        generalize eM90 : up M89 51 26 r67 = M90
                        have h := h M90 eM90.symm
                        refine m_aload_n C 1 dX10_nextToken_311 rfl rfl ?_
                        refine m_dupR C dX10_nextToken_312 ?_
                        refine m_getI C (k := 23) cl_X10 (by decide) so_51 rfl fl_X10_138 dX10_nextToken_313 ?_
                        refine m_iconst C dX10_nextToken_316 (r32_of rfl) ?_
                        refine m_iadd C dX10_nextToken_317 ?_
                        refine m_putI C (k := 23) cl_X10 (by decide) so_51 rfl rfl rfl fl_X10_138 dX10_nextToken_318 ?_
                        generalize eM91 : up M90 51 23 (w32 ((M90 51 23) + 1)) = M91
                        have h := h M91 eM91.symm
                        exact m_vret C E dX10_nextToken_321 h
                      · have h := h.2 e
                        refine m_iload_n C 0 dX10_nextToken_288 rfl rfl ?_
                        refine m_bipush C dX10_nextToken_289 (r32_of rfl) (by decide) ?_
                        refine m_icmp_eq C (tgt := 300) dX10_nextToken_291 (by decide) (fun e => ?_) (fun e => ?_)
                        · have h := h.1 e
                          refine m_aload_n C 1 dX10_nextToken_300 rfl rfl ?_
                          refine m_iconst C dX10_nextToken_301 (r32_of rfl) ?_
                          refine m_putI C (k := 24) cl_X10 (by decide) so_51 rfl rfl rfl fl_X10_147 dX10_nextToken_302 ?_
                          generalize eM92 : up M73 51 24 3 = M92
                          have h := h M92 eM92.symm
                          refine m_aload_n C 1 dX10_nextToken_305 rfl rfl ?_
                          refine m_iload_n C 0 dX10_nextToken_306 rfl rfl ?_
                          refine m_i2l C dX10_nextToken_307 ?_
                          refine m_putL C (k := 26) cl_X10 (by decide) so_51 rfl rfl rfl h.1 fl_X10_158 dX10_nextToken_308 ?_
                          have h := h.2
                          generalize eM93 : up M92 51 26 r67 = M93
                          have h := h M93 eM93.symm
                          refine m_aload_n C 1 dX10_nextToken_311 rfl rfl ?_
                          refine m_dupR C dX10_nextToken_312 ?_
                          refine m_getI C (k := 23) cl_X10 (by decide) so_51 rfl fl_X10_138 dX10_nextToken_313 ?_
                          refine m_iconst C dX10_nextToken_316 (r32_of rfl) ?_
                          refine m_iadd C dX10_nextToken_317 ?_
                          refine m_putI C (k := 23) cl_X10 (by decide) so_51 rfl rfl rfl fl_X10_138 dX10_nextToken_318 ?_
                          generalize eM94 : up M93 51 23 (w32 ((M93 51 23) + 1)) = M94
                          have h := h M94 eM94.symm
                          exact m_vret C E dX10_nextToken_321 h
                        · have h := h.2 e
                          refine m_iload_n C 0 dX10_nextToken_294 rfl rfl ?_
                          refine m_bipush C dX10_nextToken_295 (r32_of rfl) (by decide) ?_
                          refine m_icmp_ne C (tgt := 321) dX10_nextToken_297 (by decide) (fun e => ?_) (fun e => ?_)
                          · have h := h.2 e
                            exact m_vret C E dX10_nextToken_321 h
                          · have h := h.1 e
                            refine m_aload_n C 1 dX10_nextToken_300 rfl rfl ?_
                            refine m_iconst C dX10_nextToken_301 (r32_of rfl) ?_
                            refine m_putI C (k := 24) cl_X10 (by decide) so_51 rfl rfl rfl fl_X10_147 dX10_nextToken_302 ?_
                            generalize eM95 : up M73 51 24 3 = M95
                            have h := h M95 eM95.symm
                            refine m_aload_n C 1 dX10_nextToken_305 rfl rfl ?_
                            refine m_iload_n C 0 dX10_nextToken_306 rfl rfl ?_
                            refine m_i2l C dX10_nextToken_307 ?_
                            refine m_putL C (k := 26) cl_X10 (by decide) so_51 rfl rfl rfl h.1 fl_X10_158 dX10_nextToken_308 ?_
                            have h := h.2
                            generalize eM96 : up M95 51 26 r67 = M96
                            have h := h M96 eM96.symm
                            refine m_aload_n C 1 dX10_nextToken_311 rfl rfl ?_
                            refine m_dupR C dX10_nextToken_312 ?_
                            refine m_getI C (k := 23) cl_X10 (by decide) so_51 rfl fl_X10_138 dX10_nextToken_313 ?_
                            refine m_iconst C dX10_nextToken_316 (r32_of rfl) ?_
                            refine m_iadd C dX10_nextToken_317 ?_
                            refine m_putI C (k := 23) cl_X10 (by decide) so_51 rfl rfl rfl fl_X10_138 dX10_nextToken_318 ?_
                            generalize eM97 : up M96 51 23 (w32 ((M96 51 23) + 1)) = M97
                            have h := h M97 eM97.symm
                            exact m_vret C E dX10_nextToken_321 h
          · have h := h.2 e
            refine m_aload_n C 1 dX10_nextToken_148 rfl rfl ?_
            refine m_iconst C dX10_nextToken_149 (r32_of rfl) ?_
            refine m_putI C (k := 24) cl_X10 (by decide) so_51 rfl rfl rfl fl_X10_147 dX10_nextToken_150 ?_
            generalize eM98 : up M73 51 24 2 = M98
            have h := h M98 eM98.symm
            refine m_aload_n C 1 dX10_nextToken_153 rfl rfl ?_
            refine m_lconst C (x := 0) dX10_nextToken_154 (by decide) (r64_of rfl) ?_
            refine m_putL C (k := 26) cl_X10 (by decide) so_51 rfl rfl rfl h.1 fl_X10_158 dX10_nextToken_155 ?_
            have h := h.2
            generalize eM99 : up M98 51 26 0 = M99
            have h := h M99 eM99.symm
            refine m_iconst C dX10_nextToken_158 (r32_of rfl) ?_
            refine m_istore_n C (L' := [(2, vI 0), (1, vI r67), (0, vR 51)]) dX10_nextToken_159 rfl (by rw [hnL]; decide) rfl ?_
            exact m_sub [2, 1, 0] rfl h
        · have h := h.2 e
          refine m_aload_n C 1 dX10_nextToken_95 rfl rfl ?_
          refine m_iconst C dX10_nextToken_96 (r32_of rfl) ?_
          refine m_putI C (k := 24) cl_X10 (by decide) so_51 rfl rfl rfl fl_X10_147 dX10_nextToken_97 ?_
          generalize eM100 : up M71 51 24 1 = M100
          have h := h M100 eM100.symm
          exact m_sub [1, 0] rfl h
      · have h := h.2 e
        refine m_aload_n C 1 dX10_nextToken_65 rfl rfl ?_
        refine m_iconst C dX10_nextToken_66 (r32_of rfl) ?_
        refine m_putI C (k := 24) cl_X10 (by decide) so_51 rfl rfl rfl fl_X10_147 dX10_nextToken_67 ?_
        generalize eM101 : up M69 51 24 0 = M101
        have h := h M101 eM101.symm
        refine m_aload_n C 1 dX10_nextToken_70 rfl rfl ?_
        refine m_aload_n C 1 dX10_nextToken_71 rfl rfl ?_
        refine m_getI C (k := 22) cl_X10 (by decide) so_51 rfl fl_X10_132 dX10_nextToken_72 ?_
        refine m_putI C (k := 25) cl_X10 (by decide) so_51 rfl rfl rfl fl_X10_144 dX10_nextToken_75 ?_
        generalize eM102 : up M101 51 25 (M101 51 22) = M102
        have h := h M102 eM102.symm
        refine m_goto C (tgt := 321) dX10_nextToken_78 (by decide) ?_
        exact m_vret C E dX10_nextToken_321 h
    · have h := h.1 e
      refine m_aload_n C 0 dX10_nextToken_26 rfl rfl ?_
      refine m_dupR C dX10_nextToken_27 ?_
      refine m_getI C (k := 23) cl_X10 (by decide) so_51 rfl fl_X10_138 dX10_nextToken_28 ?_
      refine m_iconst C dX10_nextToken_31 (r32_of rfl) ?_
      refine m_iadd C dX10_nextToken_32 ?_
      refine m_putI C (k := 23) cl_X10 (by decide) so_51 rfl rfl rfl fl_X10_138 dX10_nextToken_33 ?_
      generalize eM103 : up M65 51 23 (w32 ((M65 51 23) + 1)) = M103
      have h := h M103 eM103.symm
      refine m_goto C (tgt := 0) dX10_nextToken_36 (by decide) ?_
      exact m_sub [0] rfl h
def B_X10_fail (n : Nat)  (M : Mem) (Q : Int → Mem → Prop)  : Prop :=
  (((M 51 28) = 0 →
  (∀ M1 : Mem, M1 = up M 51 28 1 →
    (∀ M2 : Mem, M2 = up M1 51 29 (M1 51 25) →
    Q 0 M2))) ∧ (¬ (M 51 28) = 0 →
  Q 0 M))
set_option maxHeartbeats 4000000 in
set_option maxRecDepth 20000 in
theorem g_X10_fail {n : Nat}  {M : Mem} {Q : Int → Mem → Prop}  (h : B_X10_fail n  M Q) : Con (n + 1) md_X10_fail [vR 51] M Q := by
  refine Con.ofF (n := n + 1) (Nat.succ_pos n) pl_X10_fail (Nat.le_of_ble_eq_true rfl) (fun X C E hnL => ?_)
  have C : Cx X cX10_fail RX10 n := C
  show WM X 0 [(0, vR 51)] [] M
  unfold B_X10_fail at h
  refine m_aload_n C 0 dX10_fail_0 rfl rfl ?_
  refine m_getZ C (k := 28) cl_X10 (by decide) so_51 rfl fl_X10_164 dX10_fail_1 ?_
  refine m_if_ne C (tgt := 20) dX10_fail_4 (by decide) (fun e => ?_) (fun e => ?_)
  · have h := h.2 e
    exact m_vret C E dX10_fail_20 h
  · have h := h.1 e
    refine m_aload_n C 0 dX10_fail_7 rfl rfl ?_
    refine m_iconst C dX10_fail_8 (r32_of rfl) ?_
    refine m_putZ C (k := 28) cl_X10 (by decide) so_51 rfl rfl rfl (Or.inr rfl) fl_X10_164 dX10_fail_9 ?_
    generalize eM1 : up M 51 28 1 = M1
    have h := h M1 eM1.symm
    refine m_aload_n C 0 dX10_fail_12 rfl rfl ?_
    refine m_aload_n C 0 dX10_fail_13 rfl rfl ?_
    refine m_getI C (k := 25) cl_X10 (by decide) so_51 rfl fl_X10_144 dX10_fail_14 ?_
    refine m_putI C (k := 29) cl_X10 (by decide) so_51 rfl rfl rfl fl_X10_168 dX10_fail_17 ?_
    generalize eM2 : up M1 51 29 (M1 51 25) = M2
    have h := h M2 eM2.symm
    exact m_vret C E dX10_fail_20 h
def B_X10_isLetter (n : Nat) (a1 : Int) (a2 : Int) (M : Mem) (Q : Int → Mem → Prop)  : Prop :=
  (((M 51 23) ≤ (w32 ((M 51 25) + a1)) →
  ((a2 = 0 →
    Q 1 M) ∧ (¬ a2 = 0 →
    Q 0 M))) ∧ (¬ (M 51 23) ≤ (w32 ((M 51 25) + a1)) →
  Con n md_X10_byteAt [vR 51, vI (w32 ((M 51 25) + a1))] M (fun r1 M2 =>
    ((r1 = a2 →
    Q 1 M2) ∧ (¬ r1 = a2 →
    Q 0 M2)))))
set_option maxHeartbeats 4000000 in
set_option maxRecDepth 20000 in
theorem g_X10_isLetter {n : Nat} {a1 : Int} {a2 : Int} {M : Mem} {Q : Int → Mem → Prop}  (h : B_X10_isLetter n a1 a2 M Q) : Con (n + 1) md_X10_isLetter [vR 51, vI a1, vI a2] M Q := by
  refine Con.ofF (n := n + 1) (Nat.succ_pos n) pl_X10_isLetter (Nat.le_of_ble_eq_true rfl) (fun X C E hnL => ?_)
  have C : Cx X cX10_isLetter RX10 n := C
  show WM X 0 [(0, vR 51), (1, vI a1), (2, vI a2)] [] M
  unfold B_X10_isLetter at h
  refine m_aload_n C 0 dX10_isLetter_0 rfl rfl ?_
  refine m_getI C (k := 25) cl_X10 (by decide) so_51 rfl fl_X10_144 dX10_isLetter_1 ?_
  refine m_iload_n C 1 dX10_isLetter_4 rfl rfl ?_
  refine m_iadd C dX10_isLetter_5 ?_
  refine m_aload_n C 0 dX10_isLetter_6 rfl rfl ?_
  refine m_getI C (k := 23) cl_X10 (by decide) so_51 rfl fl_X10_138 dX10_isLetter_7 ?_
  refine m_icmp_ge C (tgt := 35) dX10_isLetter_10 (by decide) (fun e => ?_) (fun e => ?_)
  · have h := h.1 e
    refine m_iload_n C 2 dX10_isLetter_35 rfl rfl ?_
    refine m_if_ne C (tgt := 43) dX10_isLetter_36 (by decide) (fun e => ?_) (fun e => ?_)
    · have h := h.2 e
      refine m_iconst C dX10_isLetter_43 (r32_of rfl) ?_
      exact m_iret C E (Or.inr ⟨rfl, Or.inl rfl⟩) dX10_isLetter_44 h
    · have h := h.1 e
      refine m_iconst C dX10_isLetter_39 (r32_of rfl) ?_
      refine m_goto C (tgt := 44) dX10_isLetter_40 (by decide) ?_
      exact m_iret C E (Or.inr ⟨rfl, Or.inr rfl⟩) dX10_isLetter_44 h
  · have h := h.2 e
    refine m_aload_n C 0 dX10_isLetter_13 rfl rfl ?_
    refine m_aload_n C 0 dX10_isLetter_14 rfl rfl ?_
    refine m_getI C (k := 25) cl_X10 (by decide) so_51 rfl fl_X10_144 dX10_isLetter_15 ?_
    refine m_iload_n C 1 dX10_isLetter_18 rfl rfl ?_
    refine m_iadd C dX10_isLetter_19 ?_
    refine m_callVi C (as := [vI (w32 ((M 51 25) + a1))]) (rest := []) ok_X10_byteAt ml_X10_141 so_51 rfl rfl rfl (Nat.le_of_ble_eq_true rfl) (fun _ => rfl) dX10_isLetter_20 (Con.mono h (fun r1 M2 _ _ h => ?_))
    refine m_iload_n C 2 dX10_isLetter_23 rfl rfl ?_
    refine m_icmp_ne C (tgt := 31) dX10_isLetter_24 (by decide) (fun e => ?_) (fun e => ?_)
    · have h := h.2 e
      refine m_iconst C dX10_isLetter_31 (r32_of rfl) ?_
      refine m_goto C (tgt := 44) dX10_isLetter_32 (by decide) ?_
      exact m_iret C E (Or.inr ⟨rfl, Or.inl rfl⟩) dX10_isLetter_44 h
    · have h := h.1 e
      refine m_iconst C dX10_isLetter_27 (r32_of rfl) ?_
      refine m_goto C (tgt := 44) dX10_isLetter_28 (by decide) ?_
      exact m_iret C E (Or.inr ⟨rfl, Or.inr rfl⟩) dX10_isLetter_44 h
def B_X10_isWord (n : Nat) (a1 : Int) (a2 : Int) (a3 : Int) (a4 : Int) (a5 : Int) (a6 : Int) (a7 : Int) (a8 : Int) (M : Mem) (Q : Int → Mem → Prop)  : Prop :=
  (((M 51 28) = 0 →
  (((M 51 24) = 1 →
    (((w32 ((M 51 25) + 8)) < (M 51 23) →
      Q 0 M) ∧ (¬ (w32 ((M 51 25) + 8)) < (M 51 23) →
      Con n md_X10_isLetter [vR 51, vI 0, vI a1] M (fun r1 M2 =>
        ((r1 = 0 →
        Q 0 M2) ∧ (¬ r1 = 0 →
        Con n md_X10_isLetter [vR 51, vI 1, vI a2] M2 (fun r3 M4 =>
          ((r3 = 0 →
          Q 0 M4) ∧ (¬ r3 = 0 →
          Con n md_X10_isLetter [vR 51, vI 2, vI a3] M4 (fun r5 M6 =>
            ((r5 = 0 →
            Q 0 M6) ∧ (¬ r5 = 0 →
            Con n md_X10_isLetter [vR 51, vI 3, vI a4] M6 (fun r7 M8 =>
              ((r7 = 0 →
              Q 0 M8) ∧ (¬ r7 = 0 →
              Con n md_X10_isLetter [vR 51, vI 4, vI a5] M8 (fun r9 M10 =>
                ((r9 = 0 →
                Q 0 M10) ∧ (¬ r9 = 0 →
                Con n md_X10_isLetter [vR 51, vI 5, vI a6] M10 (fun r11 M12 =>
                  ((r11 = 0 →
                  Q 0 M12) ∧ (¬ r11 = 0 →
                  Con n md_X10_isLetter [vR 51, vI 6, vI a7] M12 (fun r13 M14 =>
                    ((r13 = 0 →
                    Q 0 M14) ∧ (¬ r13 = 0 →
                    Con n md_X10_isLetter [vR 51, vI 7, vI a8] M14 (fun r15 M16 =>
                      ((r15 = 0 →
                      Q 0 M16) ∧ (¬ r15 = 0 →
                      Q 1 M16))))))))))))))))))))))))))) ∧ (¬ (M 51 24) = 1 →
    Q 0 M))) ∧ (¬ (M 51 28) = 0 →
  Q 0 M))
set_option maxHeartbeats 4000000 in
set_option maxRecDepth 20000 in
theorem g_X10_isWord {n : Nat} {a1 : Int} {a2 : Int} {a3 : Int} {a4 : Int} {a5 : Int} {a6 : Int} {a7 : Int} {a8 : Int} {M : Mem} {Q : Int → Mem → Prop}  (h : B_X10_isWord n a1 a2 a3 a4 a5 a6 a7 a8 M Q) : Con (n + 1) md_X10_isWord [vR 51, vI a1, vI a2, vI a3, vI a4, vI a5, vI a6, vI a7, vI a8] M Q := by
  refine Con.ofF (n := n + 1) (Nat.succ_pos n) pl_X10_isWord (Nat.le_of_ble_eq_true rfl) (fun X C E hnL => ?_)
  have C : Cx X cX10_isWord RX10 n := C
  show WM X 0 [(0, vR 51), (1, vI a1), (2, vI a2), (3, vI a3), (4, vI a4), (5, vI a5), (6, vI a6), (7, vI a7), (8, vI a8)] [] M
  unfold B_X10_isWord at h
  refine m_aload_n C 0 dX10_isWord_0 rfl rfl ?_
  refine m_getZ C (k := 28) cl_X10 (by decide) so_51 rfl fl_X10_164 dX10_isWord_1 ?_
  refine m_if_ne C (tgt := 112) dX10_isWord_4 (by decide) (fun e => ?_) (fun e => ?_)
  · have h := h.2 e
    refine m_iconst C dX10_isWord_112 (r32_of rfl) ?_
    exact m_iret C E (Or.inr ⟨rfl, Or.inl rfl⟩) dX10_isWord_113 h
  · have h := h.1 e
    refine m_aload_n C 0 dX10_isWord_7 rfl rfl ?_
    refine m_getI C (k := 24) cl_X10 (by decide) so_51 rfl fl_X10_147 dX10_isWord_8 ?_
    refine m_iconst C dX10_isWord_11 (r32_of rfl) ?_
    refine m_icmp_ne C (tgt := 112) dX10_isWord_12 (by decide) (fun e => ?_) (fun e => ?_)
    · have h := h.2 e
      refine m_iconst C dX10_isWord_112 (r32_of rfl) ?_
      exact m_iret C E (Or.inr ⟨rfl, Or.inl rfl⟩) dX10_isWord_113 h
    · have h := h.1 e
      refine m_aload_n C 0 dX10_isWord_15 rfl rfl ?_
      refine m_getI C (k := 23) cl_X10 (by decide) so_51 rfl fl_X10_138 dX10_isWord_16 ?_
      refine m_aload_n C 0 dX10_isWord_19 rfl rfl ?_
      refine m_getI C (k := 25) cl_X10 (by decide) so_51 rfl fl_X10_144 dX10_isWord_20 ?_
      refine m_bipush C dX10_isWord_23 (r32_of rfl) (by decide) ?_
      refine m_iadd C dX10_isWord_25 ?_
      refine m_icmp_gt C (tgt := 112) dX10_isWord_26 (by decide) (fun e => ?_) (fun e => ?_)
      · have h := h.1 e
        refine m_iconst C dX10_isWord_112 (r32_of rfl) ?_
        exact m_iret C E (Or.inr ⟨rfl, Or.inl rfl⟩) dX10_isWord_113 h
      · have h := h.2 e
        refine m_aload_n C 0 dX10_isWord_29 rfl rfl ?_
        refine m_iconst C dX10_isWord_30 (r32_of rfl) ?_
        refine m_iload_n C 1 dX10_isWord_31 rfl rfl ?_
        refine m_callVi C (as := [vI 0, vI a1]) (rest := []) ok_X10_isLetter ml_X10_171 so_51 rfl rfl rfl (Nat.le_of_ble_eq_true rfl) (fun _ => rfl) dX10_isWord_32 (Con.mono h (fun r1 M2 _ _ h => ?_))
        refine m_if_eq C (tgt := 112) dX10_isWord_35 (by decide) (fun e => ?_) (fun e => ?_)
        · have h := h.1 e
          refine m_iconst C dX10_isWord_112 (r32_of rfl) ?_
          exact m_iret C E (Or.inr ⟨rfl, Or.inl rfl⟩) dX10_isWord_113 h
        · have h := h.2 e
          refine m_aload_n C 0 dX10_isWord_38 rfl rfl ?_
          refine m_iconst C dX10_isWord_39 (r32_of rfl) ?_
          refine m_iload_n C 2 dX10_isWord_40 rfl rfl ?_
          refine m_callVi C (as := [vI 1, vI a2]) (rest := []) ok_X10_isLetter ml_X10_171 so_51 rfl rfl rfl (Nat.le_of_ble_eq_true rfl) (fun _ => rfl) dX10_isWord_41 (Con.mono h (fun r3 M4 _ _ h => ?_))
          refine m_if_eq C (tgt := 112) dX10_isWord_44 (by decide) (fun e => ?_) (fun e => ?_)
          · have h := h.1 e
            refine m_iconst C dX10_isWord_112 (r32_of rfl) ?_
            exact m_iret C E (Or.inr ⟨rfl, Or.inl rfl⟩) dX10_isWord_113 h
          · have h := h.2 e
            refine m_aload_n C 0 dX10_isWord_47 rfl rfl ?_
            refine m_iconst C dX10_isWord_48 (r32_of rfl) ?_
            refine m_iload_n C 3 dX10_isWord_49 rfl rfl ?_
            refine m_callVi C (as := [vI 2, vI a3]) (rest := []) ok_X10_isLetter ml_X10_171 so_51 rfl rfl rfl (Nat.le_of_ble_eq_true rfl) (fun _ => rfl) dX10_isWord_50 (Con.mono h (fun r5 M6 _ _ h => ?_))
            refine m_if_eq C (tgt := 112) dX10_isWord_53 (by decide) (fun e => ?_) (fun e => ?_)
            · have h := h.1 e
              refine m_iconst C dX10_isWord_112 (r32_of rfl) ?_
              exact m_iret C E (Or.inr ⟨rfl, Or.inl rfl⟩) dX10_isWord_113 h
            · have h := h.2 e
              refine m_aload_n C 0 dX10_isWord_56 rfl rfl ?_
              refine m_iconst C dX10_isWord_57 (r32_of rfl) ?_
              refine m_iload C 4 dX10_isWord_58 rfl ?_
              refine m_callVi C (as := [vI 3, vI a4]) (rest := []) ok_X10_isLetter ml_X10_171 so_51 rfl rfl rfl (Nat.le_of_ble_eq_true rfl) (fun _ => rfl) dX10_isWord_60 (Con.mono h (fun r7 M8 _ _ h => ?_))
              refine m_if_eq C (tgt := 112) dX10_isWord_63 (by decide) (fun e => ?_) (fun e => ?_)
              · have h := h.1 e
                refine m_iconst C dX10_isWord_112 (r32_of rfl) ?_
                exact m_iret C E (Or.inr ⟨rfl, Or.inl rfl⟩) dX10_isWord_113 h
              · have h := h.2 e
                refine m_aload_n C 0 dX10_isWord_66 rfl rfl ?_
                refine m_iconst C dX10_isWord_67 (r32_of rfl) ?_
                refine m_iload C 5 dX10_isWord_68 rfl ?_
                refine m_callVi C (as := [vI 4, vI a5]) (rest := []) ok_X10_isLetter ml_X10_171 so_51 rfl rfl rfl (Nat.le_of_ble_eq_true rfl) (fun _ => rfl) dX10_isWord_70 (Con.mono h (fun r9 M10 _ _ h => ?_))
                refine m_if_eq C (tgt := 112) dX10_isWord_73 (by decide) (fun e => ?_) (fun e => ?_)
                · have h := h.1 e
                  refine m_iconst C dX10_isWord_112 (r32_of rfl) ?_
                  exact m_iret C E (Or.inr ⟨rfl, Or.inl rfl⟩) dX10_isWord_113 h
                · have h := h.2 e
                  refine m_aload_n C 0 dX10_isWord_76 rfl rfl ?_
                  refine m_iconst C dX10_isWord_77 (r32_of rfl) ?_
                  refine m_iload C 6 dX10_isWord_78 rfl ?_
                  refine m_callVi C (as := [vI 5, vI a6]) (rest := []) ok_X10_isLetter ml_X10_171 so_51 rfl rfl rfl (Nat.le_of_ble_eq_true rfl) (fun _ => rfl) dX10_isWord_80 (Con.mono h (fun r11 M12 _ _ h => ?_))
                  refine m_if_eq C (tgt := 112) dX10_isWord_83 (by decide) (fun e => ?_) (fun e => ?_)
                  · have h := h.1 e
                    refine m_iconst C dX10_isWord_112 (r32_of rfl) ?_
                    exact m_iret C E (Or.inr ⟨rfl, Or.inl rfl⟩) dX10_isWord_113 h
                  · have h := h.2 e
                    refine m_aload_n C 0 dX10_isWord_86 rfl rfl ?_
                    refine m_bipush C dX10_isWord_87 (r32_of rfl) (by decide) ?_
                    refine m_iload C 7 dX10_isWord_89 rfl ?_
                    refine m_callVi C (as := [vI 6, vI a7]) (rest := []) ok_X10_isLetter ml_X10_171 so_51 rfl rfl rfl (Nat.le_of_ble_eq_true rfl) (fun _ => rfl) dX10_isWord_91 (Con.mono h (fun r13 M14 _ _ h => ?_))
                    refine m_if_eq C (tgt := 112) dX10_isWord_94 (by decide) (fun e => ?_) (fun e => ?_)
                    · have h := h.1 e
                      refine m_iconst C dX10_isWord_112 (r32_of rfl) ?_
                      exact m_iret C E (Or.inr ⟨rfl, Or.inl rfl⟩) dX10_isWord_113 h
                    · have h := h.2 e
                      refine m_aload_n C 0 dX10_isWord_97 rfl rfl ?_
                      refine m_bipush C dX10_isWord_98 (r32_of rfl) (by decide) ?_
                      refine m_iload C 8 dX10_isWord_100 rfl ?_
                      refine m_callVi C (as := [vI 7, vI a8]) (rest := []) ok_X10_isLetter ml_X10_171 so_51 rfl rfl rfl (Nat.le_of_ble_eq_true rfl) (fun _ => rfl) dX10_isWord_102 (Con.mono h (fun r15 M16 _ _ h => ?_))
                      refine m_if_eq C (tgt := 112) dX10_isWord_105 (by decide) (fun e => ?_) (fun e => ?_)
                      · have h := h.1 e
                        refine m_iconst C dX10_isWord_112 (r32_of rfl) ?_
                        exact m_iret C E (Or.inr ⟨rfl, Or.inl rfl⟩) dX10_isWord_113 h
                      · have h := h.2 e
                        refine m_iconst C dX10_isWord_108 (r32_of rfl) ?_
                        refine m_goto C (tgt := 113) dX10_isWord_109 (by decide) ?_
                        exact m_iret C E (Or.inr ⟨rfl, Or.inr rfl⟩) dX10_isWord_113 h
def B_X10_isSign (n : Nat) (a1 : Int) (M : Mem) (Q : Int → Mem → Prop)  : Prop :=
  (((M 51 28) = 0 →
  (((M 51 24) = 3 →
    (((l_c (M 51 26) a1) = 0 →
      Q 1 M) ∧ (¬ (l_c (M 51 26) a1) = 0 →
      Q 0 M))) ∧ (¬ (M 51 24) = 3 →
    Q 0 M))) ∧ (¬ (M 51 28) = 0 →
  Q 0 M))
set_option maxHeartbeats 4000000 in
set_option maxRecDepth 20000 in
theorem g_X10_isSign {n : Nat} {a1 : Int} {M : Mem} {Q : Int → Mem → Prop}  (h : B_X10_isSign n a1 M Q) : Con (n + 1) md_X10_isSign [vR 51, vI a1] M Q := by
  refine Con.ofF (n := n + 1) (Nat.succ_pos n) pl_X10_isSign (Nat.le_of_ble_eq_true rfl) (fun X C E hnL => ?_)
  have C : Cx X cX10_isSign RX10 n := C
  show WM X 0 [(0, vR 51), (1, vI a1)] [] M
  unfold B_X10_isSign at h
  refine m_aload_n C 0 dX10_isSign_0 rfl rfl ?_
  refine m_getZ C (k := 28) cl_X10 (by decide) so_51 rfl fl_X10_164 dX10_isSign_1 ?_
  refine m_if_ne C (tgt := 29) dX10_isSign_4 (by decide) (fun e => ?_) (fun e => ?_)
  · have h := h.2 e
    refine m_iconst C dX10_isSign_29 (r32_of rfl) ?_
    exact m_iret C E (Or.inr ⟨rfl, Or.inl rfl⟩) dX10_isSign_30 h
  · have h := h.1 e
    refine m_aload_n C 0 dX10_isSign_7 rfl rfl ?_
    refine m_getI C (k := 24) cl_X10 (by decide) so_51 rfl fl_X10_147 dX10_isSign_8 ?_
    refine m_iconst C dX10_isSign_11 (r32_of rfl) ?_
    refine m_icmp_ne C (tgt := 29) dX10_isSign_12 (by decide) (fun e => ?_) (fun e => ?_)
    · have h := h.2 e
      refine m_iconst C dX10_isSign_29 (r32_of rfl) ?_
      exact m_iret C E (Or.inr ⟨rfl, Or.inl rfl⟩) dX10_isSign_30 h
    · have h := h.1 e
      refine m_aload_n C 0 dX10_isSign_15 rfl rfl ?_
      refine m_getL C (k := 26) cl_X10 (by decide) so_51 rfl fl_X10_158 dX10_isSign_16 ?_
      refine m_iload_n C 1 dX10_isSign_19 rfl rfl ?_
      refine m_i2l C dX10_isSign_20 ?_
      refine m_lcmp C dX10_isSign_21 ?_
      refine m_if_ne C (tgt := 29) dX10_isSign_22 (by decide) (fun e => ?_) (fun e => ?_)
      · have h := h.2 e
        refine m_iconst C dX10_isSign_29 (r32_of rfl) ?_
        exact m_iret C E (Or.inr ⟨rfl, Or.inl rfl⟩) dX10_isSign_30 h
      · have h := h.1 e
        refine m_iconst C dX10_isSign_25 (r32_of rfl) ?_
        refine m_goto C (tgt := 30) dX10_isSign_26 (by decide) ?_
        exact m_iret C E (Or.inr ⟨rfl, Or.inr rfl⟩) dX10_isSign_30 h
def B_X10_opens (n : Nat)  (M : Mem) (Q : Int → Mem → Prop)  : Prop :=
  (((M 51 27) = 5 →
  Con n md_X10_fail [vR 51] M (fun _ M5 =>
    Q 0 M5)) ∧ (¬ (M 51 27) = 5 →
  (∀ M1 : Mem, M1 = up M 51 27 (w32 ((M 51 27) + 1)) →
    Con n md_X10_nextToken [vR 51] M1 (fun _ M3 =>
    Q 1 M3))))
set_option maxHeartbeats 4000000 in
set_option maxRecDepth 20000 in
theorem g_X10_opens {n : Nat}  {M : Mem} {Q : Int → Mem → Prop}  (h : B_X10_opens n  M Q) : Con (n + 1) md_X10_opens [vR 51] M Q := by
  refine Con.ofF (n := n + 1) (Nat.succ_pos n) pl_X10_opens (Nat.le_of_ble_eq_true rfl) (fun X C E hnL => ?_)
  have C : Cx X cX10_opens RX10 n := C
  show WM X 0 [(0, vR 51)] [] M
  unfold B_X10_opens at h
  refine m_aload_n C 0 dX10_opens_0 rfl rfl ?_
  refine m_getI C (k := 27) cl_X10 (by decide) so_51 rfl fl_X10_175 dX10_opens_1 ?_
  refine m_iconst C dX10_opens_4 (r32_of rfl) ?_
  refine m_icmp_ne C (tgt := 14) dX10_opens_5 (by decide) (fun e => ?_) (fun e => ?_)
  · have h := h.2 e
    refine m_aload_n C 0 dX10_opens_14 rfl rfl ?_
    refine m_dupR C dX10_opens_15 ?_
    refine m_getI C (k := 27) cl_X10 (by decide) so_51 rfl fl_X10_175 dX10_opens_16 ?_
    refine m_iconst C dX10_opens_19 (r32_of rfl) ?_
    refine m_iadd C dX10_opens_20 ?_
    refine m_putI C (k := 27) cl_X10 (by decide) so_51 rfl rfl rfl fl_X10_175 dX10_opens_21 ?_
    generalize eM1 : up M 51 27 (w32 ((M 51 27) + 1)) = M1
    have h := h M1 eM1.symm
    refine m_aload_n C 0 dX10_opens_24 rfl rfl ?_
    refine m_callVv C (as := []) (rest := []) ok_X10_nextToken ml_X10_181 so_51 rfl rfl rfl (Nat.le_of_ble_eq_true rfl) (fun _ => rfl) dX10_opens_25 (Con.mono h (fun _ M3 _ _ h => ?_))
    refine m_iconst C dX10_opens_28 (r32_of rfl) ?_
    exact m_iret C E (Or.inr ⟨rfl, Or.inr rfl⟩) dX10_opens_29 h
  · have h := h.1 e
    refine m_aload_n C 0 dX10_opens_8 rfl rfl ?_
    refine m_callVv C (as := []) (rest := []) ok_X10_fail ml_X10_178 so_51 rfl rfl rfl (Nat.le_of_ble_eq_true rfl) (fun _ => rfl) dX10_opens_9 (Con.mono h (fun _ M5 _ _ h => ?_))
    refine m_iconst C dX10_opens_12 (r32_of rfl) ?_
    exact m_iret C E (Or.inr ⟨rfl, Or.inl rfl⟩) dX10_opens_13 h
def B_X10_name (n : Nat)  (M : Mem) (Q : Int → Mem → Prop)  : Prop :=
  Con n md_X10_isWord [vR 51, vI 115, vI 116, vI 101, vI 109, vI 0, vI 0, vI 0, vI 0] M (fun r1 M2 =>
  ((r1 = 0 →
  Con n md_X10_isWord [vR 51, vI 99, vI 111, vI 108, vI 111, vI 117, vI 114, vI 0, vI 0] M2 (fun r3 M4 =>
    ((r3 = 0 →
    Con n md_X10_isWord [vR 51, vI 110, vI 117, vI 109, vI 98, vI 101, vI 114, vI 0, vI 0] M4 (fun r5 M6 =>
      ((r5 = 0 →
      Con n md_X10_isWord [vR 51, vI 97, vI 110, vI 103, vI 108, vI 101, vI 0, vI 0, vI 0] M6 (fun r7 M8 =>
        ((r7 = 0 →
        Con n md_X10_isWord [vR 51, vI 108, vI 101, vI 102, vI 116, vI 0, vI 0, vI 0, vI 0] M8 (fun r9 M10 =>
          ((r9 = 0 →
          Con n md_X10_isWord [vR 51, vI 114, vI 111, vI 111, vI 109, vI 0, vI 0, vI 0, vI 0] M10 (fun r11 M12 =>
            ((r11 = 0 →
            Con n md_X10_fail [vR 51] M12 (fun _ M14 =>
              Q 0 M14)) ∧ (¬ r11 = 0 →
            Q (M12 51 20) M12)))) ∧ (¬ r9 = 0 →
          Q (M10 51 19) M10)))) ∧ (¬ r7 = 0 →
        Q (M8 51 18) M8)))) ∧ (¬ r5 = 0 →
      Q (M6 51 17) M6)))) ∧ (¬ r3 = 0 →
    Q (M4 51 16) M4)))) ∧ (¬ r1 = 0 →
  Q (M2 51 15) M2)))
set_option maxHeartbeats 4000000 in
set_option maxRecDepth 20000 in
theorem g_X10_name {n : Nat}  {M : Mem} {Q : Int → Mem → Prop}  (h : B_X10_name n  M Q) : Con (n + 1) md_X10_name [vR 51] M Q := by
  refine Con.ofF (n := n + 1) (Nat.succ_pos n) pl_X10_name (Nat.le_of_ble_eq_true rfl) (fun X C E hnL => ?_)
  have C : Cx X cX10_name RX10 n := C
  show WM X 0 [(0, vR 51)] [] M
  unfold B_X10_name at h
  refine m_aload_n C 0 dX10_name_0 rfl rfl ?_
  refine m_bipush C dX10_name_1 (r32_of rfl) (by decide) ?_
  refine m_bipush C dX10_name_3 (r32_of rfl) (by decide) ?_
  refine m_bipush C dX10_name_5 (r32_of rfl) (by decide) ?_
  refine m_bipush C dX10_name_7 (r32_of rfl) (by decide) ?_
  refine m_iconst C dX10_name_9 (r32_of rfl) ?_
  refine m_iconst C dX10_name_10 (r32_of rfl) ?_
  refine m_iconst C dX10_name_11 (r32_of rfl) ?_
  refine m_iconst C dX10_name_12 (r32_of rfl) ?_
  refine m_callVi C (as := [vI 115, vI 116, vI 101, vI 109, vI 0, vI 0, vI 0, vI 0]) (rest := []) ok_X10_isWord ml_X10_184 so_51 rfl rfl rfl (Nat.le_of_ble_eq_true rfl) (fun _ => rfl) dX10_name_13 (Con.mono h (fun r1 M2 _ _ h => ?_))
  refine m_if_eq C (tgt := 24) dX10_name_16 (by decide) (fun e => ?_) (fun e => ?_)
  · have h := h.1 e
    refine m_aload_n C 0 dX10_name_24 rfl rfl ?_
    refine m_bipush C dX10_name_25 (r32_of rfl) (by decide) ?_
    refine m_bipush C dX10_name_27 (r32_of rfl) (by decide) ?_
    refine m_bipush C dX10_name_29 (r32_of rfl) (by decide) ?_
    refine m_bipush C dX10_name_31 (r32_of rfl) (by decide) ?_
    refine m_bipush C dX10_name_33 (r32_of rfl) (by decide) ?_
    refine m_bipush C dX10_name_35 (r32_of rfl) (by decide) ?_
    refine m_iconst C dX10_name_37 (r32_of rfl) ?_
    refine m_iconst C dX10_name_38 (r32_of rfl) ?_
    refine m_callVi C (as := [vI 99, vI 111, vI 108, vI 111, vI 117, vI 114, vI 0, vI 0]) (rest := []) ok_X10_isWord ml_X10_184 so_51 rfl rfl rfl (Nat.le_of_ble_eq_true rfl) (fun _ => rfl) dX10_name_39 (Con.mono h (fun r3 M4 _ _ h => ?_))
    refine m_if_eq C (tgt := 50) dX10_name_42 (by decide) (fun e => ?_) (fun e => ?_)
    · have h := h.1 e
      refine m_aload_n C 0 dX10_name_50 rfl rfl ?_
      refine m_bipush C dX10_name_51 (r32_of rfl) (by decide) ?_
      refine m_bipush C dX10_name_53 (r32_of rfl) (by decide) ?_
      refine m_bipush C dX10_name_55 (r32_of rfl) (by decide) ?_
      refine m_bipush C dX10_name_57 (r32_of rfl) (by decide) ?_
      refine m_bipush C dX10_name_59 (r32_of rfl) (by decide) ?_
      refine m_bipush C dX10_name_61 (r32_of rfl) (by decide) ?_
      refine m_iconst C dX10_name_63 (r32_of rfl) ?_
      refine m_iconst C dX10_name_64 (r32_of rfl) ?_
      refine m_callVi C (as := [vI 110, vI 117, vI 109, vI 98, vI 101, vI 114, vI 0, vI 0]) (rest := []) ok_X10_isWord ml_X10_184 so_51 rfl rfl rfl (Nat.le_of_ble_eq_true rfl) (fun _ => rfl) dX10_name_65 (Con.mono h (fun r5 M6 _ _ h => ?_))
      refine m_if_eq C (tgt := 76) dX10_name_68 (by decide) (fun e => ?_) (fun e => ?_)
      · have h := h.1 e
        refine m_aload_n C 0 dX10_name_76 rfl rfl ?_
        refine m_bipush C dX10_name_77 (r32_of rfl) (by decide) ?_
        refine m_bipush C dX10_name_79 (r32_of rfl) (by decide) ?_
        refine m_bipush C dX10_name_81 (r32_of rfl) (by decide) ?_
        refine m_bipush C dX10_name_83 (r32_of rfl) (by decide) ?_
        refine m_bipush C dX10_name_85 (r32_of rfl) (by decide) ?_
        refine m_iconst C dX10_name_87 (r32_of rfl) ?_
        refine m_iconst C dX10_name_88 (r32_of rfl) ?_
        refine m_iconst C dX10_name_89 (r32_of rfl) ?_
        refine m_callVi C (as := [vI 97, vI 110, vI 103, vI 108, vI 101, vI 0, vI 0, vI 0]) (rest := []) ok_X10_isWord ml_X10_184 so_51 rfl rfl rfl (Nat.le_of_ble_eq_true rfl) (fun _ => rfl) dX10_name_90 (Con.mono h (fun r7 M8 _ _ h => ?_))
        refine m_if_eq C (tgt := 101) dX10_name_93 (by decide) (fun e => ?_) (fun e => ?_)
        · have h := h.1 e
          refine m_aload_n C 0 dX10_name_101 rfl rfl ?_
          refine m_bipush C dX10_name_102 (r32_of rfl) (by decide) ?_
          refine m_bipush C dX10_name_104 (r32_of rfl) (by decide) ?_
          refine m_bipush C dX10_name_106 (r32_of rfl) (by decide) ?_
          refine m_bipush C dX10_name_108 (r32_of rfl) (by decide) ?_
          refine m_iconst C dX10_name_110 (r32_of rfl) ?_
          refine m_iconst C dX10_name_111 (r32_of rfl) ?_
          refine m_iconst C dX10_name_112 (r32_of rfl) ?_
          refine m_iconst C dX10_name_113 (r32_of rfl) ?_
          refine m_callVi C (as := [vI 108, vI 101, vI 102, vI 116, vI 0, vI 0, vI 0, vI 0]) (rest := []) ok_X10_isWord ml_X10_184 so_51 rfl rfl rfl (Nat.le_of_ble_eq_true rfl) (fun _ => rfl) dX10_name_114 (Con.mono h (fun r9 M10 _ _ h => ?_))
          refine m_if_eq C (tgt := 125) dX10_name_117 (by decide) (fun e => ?_) (fun e => ?_)
          · have h := h.1 e
            refine m_aload_n C 0 dX10_name_125 rfl rfl ?_
            refine m_bipush C dX10_name_126 (r32_of rfl) (by decide) ?_
            refine m_bipush C dX10_name_128 (r32_of rfl) (by decide) ?_
            refine m_bipush C dX10_name_130 (r32_of rfl) (by decide) ?_
            refine m_bipush C dX10_name_132 (r32_of rfl) (by decide) ?_
            refine m_iconst C dX10_name_134 (r32_of rfl) ?_
            refine m_iconst C dX10_name_135 (r32_of rfl) ?_
            refine m_iconst C dX10_name_136 (r32_of rfl) ?_
            refine m_iconst C dX10_name_137 (r32_of rfl) ?_
            refine m_callVi C (as := [vI 114, vI 111, vI 111, vI 109, vI 0, vI 0, vI 0, vI 0]) (rest := []) ok_X10_isWord ml_X10_184 so_51 rfl rfl rfl (Nat.le_of_ble_eq_true rfl) (fun _ => rfl) dX10_name_138 (Con.mono h (fun r11 M12 _ _ h => ?_))
            refine m_if_eq C (tgt := 149) dX10_name_141 (by decide) (fun e => ?_) (fun e => ?_)
            · have h := h.1 e
              refine m_aload_n C 0 dX10_name_149 rfl rfl ?_
              refine m_callVv C (as := []) (rest := []) ok_X10_fail ml_X10_178 so_51 rfl rfl rfl (Nat.le_of_ble_eq_true rfl) (fun _ => rfl) dX10_name_150 (Con.mono h (fun _ M14 _ _ h => ?_))
              refine m_iconst C dX10_name_153 (r32_of rfl) ?_
              exact m_iret C E (Or.inl rfl) dX10_name_154 h
            · have h := h.2 e
              refine m_aload_n C 0 dX10_name_144 rfl rfl ?_
              refine m_getI C (k := 20) cl_X10 (by decide) so_51 rfl fl_X10_203 dX10_name_145 ?_
              exact m_iret C E (Or.inl rfl) dX10_name_148 h
          · have h := h.2 e
            refine m_aload_n C 0 dX10_name_120 rfl rfl ?_
            refine m_getI C (k := 19) cl_X10 (by decide) so_51 rfl fl_X10_200 dX10_name_121 ?_
            exact m_iret C E (Or.inl rfl) dX10_name_124 h
        · have h := h.2 e
          refine m_aload_n C 0 dX10_name_96 rfl rfl ?_
          refine m_getI C (k := 18) cl_X10 (by decide) so_51 rfl fl_X10_197 dX10_name_97 ?_
          exact m_iret C E (Or.inl rfl) dX10_name_100 h
      · have h := h.2 e
        refine m_aload_n C 0 dX10_name_71 rfl rfl ?_
        refine m_getI C (k := 17) cl_X10 (by decide) so_51 rfl fl_X10_194 dX10_name_72 ?_
        exact m_iret C E (Or.inl rfl) dX10_name_75 h
    · have h := h.2 e
      refine m_aload_n C 0 dX10_name_45 rfl rfl ?_
      refine m_getI C (k := 16) cl_X10 (by decide) so_51 rfl fl_X10_191 dX10_name_46 ?_
      exact m_iret C E (Or.inl rfl) dX10_name_49 h
  · have h := h.2 e
    refine m_aload_n C 0 dX10_name_19 rfl rfl ?_
    refine m_getI C (k := 15) cl_X10 (by decide) so_51 rfl fl_X10_188 dX10_name_20 ?_
    exact m_iret C E (Or.inl rfl) dX10_name_23 h
def B_X10_atom (n : Nat)  (M : Mem) (Q : Int → Mem → Prop)  : Prop :=
  Con n md_X10_isSign [vR 51, vI 45] M (fun r1 M2 =>
  ((r1 = 0 →
  Con n md_X10_isSign [vR 51, vI 40] M2 (fun r3 M4 =>
    ((r3 = 0 →
    (((M4 51 28) = 0 →
      (((M4 51 24) = 2 →
        Con n md_X10_nextToken [vR 51] M4 (fun _ M22 =>
          Q (w32 (M4 51 26)) M22)) ∧ (¬ (M4 51 24) = 2 →
        (((M4 51 28) = 0 →
          (((M4 51 24) = 1 →
            Con n md_X10_name [vR 51] M4 (fun r17 M18 =>
              (((M18 51 28) = 0 →
              Con n md_X10_nextToken [vR 51] M18 (fun _ M20 =>
                Q r17 M20)) ∧ (¬ (M18 51 28) = 0 →
              Q r17 M18)))) ∧ (¬ (M4 51 24) = 1 →
            Con n md_X10_fail [vR 51] M4 (fun _ M16 =>
              Q 0 M16)))) ∧ (¬ (M4 51 28) = 0 →
          Con n md_X10_fail [vR 51] M4 (fun _ M14 =>
            Q 0 M14)))))) ∧ (¬ (M4 51 28) = 0 →
      (((M4 51 28) = 0 →
        (((M4 51 24) = 1 →
          Con n md_X10_name [vR 51] M4 (fun r9 M10 =>
            (((M10 51 28) = 0 →
            Con n md_X10_nextToken [vR 51] M10 (fun _ M12 =>
              Q r9 M12)) ∧ (¬ (M10 51 28) = 0 →
            Q r9 M10)))) ∧ (¬ (M4 51 24) = 1 →
          Con n md_X10_fail [vR 51] M4 (fun _ M8 =>
            Q 0 M8)))) ∧ (¬ (M4 51 28) = 0 →
        Con n md_X10_fail [vR 51] M4 (fun _ M6 =>
          Q 0 M6)))))) ∧ (¬ r3 = 0 →
    Con n md_X10_opens [vR 51] M4 (fun r23 M24 =>
      ((r23 = 0 →
      Q 0 M24) ∧ (¬ r23 = 0 →
      Con n md_X10_either [vR 51] M24 (fun r25 M26 =>
        Con n md_X10_isSign [vR 51, vI 41] M26 (fun r27 M28 =>
        ((r27 = 0 →
        Con n md_X10_fail [vR 51] M28 (fun _ M33 =>
          (∀ M34 : Mem, M34 = up M33 51 27 (w32 ((M33 51 27) - 1)) →
          (((M34 51 28) = 0 →
          Con n md_X10_nextToken [vR 51] M34 (fun _ M36 =>
            Q r25 M36)) ∧ (¬ (M34 51 28) = 0 →
          Q r25 M34))))) ∧ (¬ r27 = 0 →
        (∀ M29 : Mem, M29 = up M28 51 27 (w32 ((M28 51 27) - 1)) →
          (((M29 51 28) = 0 →
          Con n md_X10_nextToken [vR 51] M29 (fun _ M31 =>
            Q r25 M31)) ∧ (¬ (M29 51 28) = 0 →
          Q r25 M29)))))))))))))) ∧ (¬ r1 = 0 →
  Con n md_X10_opens [vR 51] M2 (fun r37 M38 =>
    ((r37 = 0 →
    Q 0 M38) ∧ (¬ r37 = 0 →
    Con n md_X10_atom [vR 51] M38 (fun r39 M40 =>
      (∀ M41 : Mem, M41 = up M40 51 27 (w32 ((M40 51 27) - 1)) →
      Q (w32 (-r39)) M41))))))))
set_option maxHeartbeats 4000000 in
set_option maxRecDepth 20000 in
theorem g_X10_atom {n : Nat}  {M : Mem} {Q : Int → Mem → Prop}  (h : B_X10_atom n  M Q) : Con (n + 1) md_X10_atom [vR 51] M Q := by
  refine Con.ofF (n := n + 1) (Nat.succ_pos n) pl_X10_atom (Nat.le_of_ble_eq_true rfl) (fun X C E hnL => ?_)
  have C : Cx X cX10_atom RX10 n := C
  show WM X 0 [(0, vR 51)] [] M
  unfold B_X10_atom at h
  refine m_iconst C dX10_atom_0 (r32_of rfl) ?_
  refine m_istore_n C (L' := [(1, vI 0), (0, vR 51)]) dX10_atom_1 rfl (by rw [hnL]; decide) rfl ?_
  refine m_aload_n C 1 dX10_atom_2 rfl rfl ?_
  refine m_bipush C dX10_atom_3 (r32_of rfl) (by decide) ?_
  refine m_callVi C (as := [vI 45]) (rest := []) ok_X10_isSign ml_X10_206 so_51 rfl rfl rfl (Nat.le_of_ble_eq_true rfl) (fun _ => rfl) dX10_atom_5 (Con.mono h (fun r1 M2 _ _ h => ?_))
  refine m_if_eq C (tgt := 37) dX10_atom_8 (by decide) (fun e => ?_) (fun e => ?_)
  · have h := h.1 e
    refine m_aload_n C 1 dX10_atom_37 rfl rfl ?_
    refine m_bipush C dX10_atom_38 (r32_of rfl) (by decide) ?_
    refine m_callVi C (as := [vI 40]) (rest := []) ok_X10_isSign ml_X10_206 so_51 rfl rfl rfl (Nat.le_of_ble_eq_true rfl) (fun _ => rfl) dX10_atom_40 (Con.mono h (fun r3 M4 _ _ h => ?_))
    refine m_if_eq C (tgt := 95) dX10_atom_43 (by decide) (fun e => ?_) (fun e => ?_)
    · have h := h.1 e
      refine m_aload_n C 1 dX10_atom_95 rfl rfl ?_
      refine m_getZ C (k := 28) cl_X10 (by decide) so_51 rfl fl_X10_164 dX10_atom_96 ?_
      refine m_if_ne C (tgt := 123) dX10_atom_99 (by decide) (fun e => ?_) (fun e => ?_)
      · have h := h.2 e
        refine m_aload_n C 1 dX10_atom_123 rfl rfl ?_
        refine m_getZ C (k := 28) cl_X10 (by decide) so_51 rfl fl_X10_164 dX10_atom_124 ?_
        refine m_if_ne C (tgt := 157) dX10_atom_127 (by decide) (fun e => ?_) (fun e => ?_)
        · have h := h.2 e
          refine m_aload_n C 1 dX10_atom_157 rfl rfl ?_
          refine m_callVv C (as := []) (rest := []) ok_X10_fail ml_X10_178 so_51 rfl rfl rfl (Nat.le_of_ble_eq_true rfl) (fun _ => rfl) dX10_atom_158 (Con.mono h (fun _ M6 _ _ h => ?_))
          refine m_iload_n C 0 dX10_atom_161 rfl rfl ?_
          exact m_iret C E (Or.inl rfl) dX10_atom_162 h
        · have h := h.1 e
          refine m_aload_n C 1 dX10_atom_130 rfl rfl ?_
          refine m_getI C (k := 24) cl_X10 (by decide) so_51 rfl fl_X10_147 dX10_atom_131 ?_
          refine m_iconst C dX10_atom_134 (r32_of rfl) ?_
          refine m_icmp_ne C (tgt := 157) dX10_atom_135 (by decide) (fun e => ?_) (fun e => ?_)
          · have h := h.2 e
            refine m_aload_n C 1 dX10_atom_157 rfl rfl ?_
            refine m_callVv C (as := []) (rest := []) ok_X10_fail ml_X10_178 so_51 rfl rfl rfl (Nat.le_of_ble_eq_true rfl) (fun _ => rfl) dX10_atom_158 (Con.mono h (fun _ M8 _ _ h => ?_))
            refine m_iload_n C 0 dX10_atom_161 rfl rfl ?_
            exact m_iret C E (Or.inl rfl) dX10_atom_162 h
          · have h := h.1 e
            refine m_aload_n C 1 dX10_atom_138 rfl rfl ?_
            refine m_callVi C (as := []) (rest := []) ok_X10_name ml_X10_220 so_51 rfl rfl rfl (Nat.le_of_ble_eq_true rfl) (fun _ => rfl) dX10_atom_139 (Con.mono h (fun r9 M10 _ _ h => ?_))
            refine m_istore_n C (L' := [(1, vI r9), (0, vR 51)]) dX10_atom_142 rfl (by rw [hnL]; decide) rfl ?_
            refine m_aload_n C 1 dX10_atom_143 rfl rfl ?_
            refine m_getZ C (k := 28) cl_X10 (by decide) so_51 rfl fl_X10_164 dX10_atom_144 ?_
            refine m_if_ne C (tgt := 161) dX10_atom_147 (by decide) (fun e => ?_) (fun e => ?_)
            · have h := h.2 e
              refine m_iload_n C 0 dX10_atom_161 rfl rfl ?_
              exact m_iret C E (Or.inl rfl) dX10_atom_162 h
            · have h := h.1 e
              refine m_aload_n C 1 dX10_atom_150 rfl rfl ?_
              refine m_callVv C (as := []) (rest := []) ok_X10_nextToken ml_X10_181 so_51 rfl rfl rfl (Nat.le_of_ble_eq_true rfl) (fun _ => rfl) dX10_atom_151 (Con.mono h (fun _ M12 _ _ h => ?_))
              refine m_goto C (tgt := 161) dX10_atom_154 (by decide) ?_
              refine m_iload_n C 0 dX10_atom_161 rfl rfl ?_
              exact m_iret C E (Or.inl rfl) dX10_atom_162 h
      · have h := h.1 e
        refine m_aload_n C 1 dX10_atom_102 rfl rfl ?_
        refine m_getI C (k := 24) cl_X10 (by decide) so_51 rfl fl_X10_147 dX10_atom_103 ?_
        refine m_iconst C dX10_atom_106 (r32_of rfl) ?_
        refine m_icmp_ne C (tgt := 123) dX10_atom_107 (by decide) (fun e => ?_) (fun e => ?_)
        · have h := h.2 e
          refine m_aload_n C 1 dX10_atom_123 rfl rfl ?_
          refine m_getZ C (k := 28) cl_X10 (by decide) so_51 rfl fl_X10_164 dX10_atom_124 ?_
          refine m_if_ne C (tgt := 157) dX10_atom_127 (by decide) (fun e => ?_) (fun e => ?_)
          · have h := h.2 e
            refine m_aload_n C 1 dX10_atom_157 rfl rfl ?_
            refine m_callVv C (as := []) (rest := []) ok_X10_fail ml_X10_178 so_51 rfl rfl rfl (Nat.le_of_ble_eq_true rfl) (fun _ => rfl) dX10_atom_158 (Con.mono h (fun _ M14 _ _ h => ?_))
            refine m_iload_n C 0 dX10_atom_161 rfl rfl ?_
            exact m_iret C E (Or.inl rfl) dX10_atom_162 h
          · have h := h.1 e
            refine m_aload_n C 1 dX10_atom_130 rfl rfl ?_
            refine m_getI C (k := 24) cl_X10 (by decide) so_51 rfl fl_X10_147 dX10_atom_131 ?_
            refine m_iconst C dX10_atom_134 (r32_of rfl) ?_
            refine m_icmp_ne C (tgt := 157) dX10_atom_135 (by decide) (fun e => ?_) (fun e => ?_)
            · have h := h.2 e
              refine m_aload_n C 1 dX10_atom_157 rfl rfl ?_
              refine m_callVv C (as := []) (rest := []) ok_X10_fail ml_X10_178 so_51 rfl rfl rfl (Nat.le_of_ble_eq_true rfl) (fun _ => rfl) dX10_atom_158 (Con.mono h (fun _ M16 _ _ h => ?_))
              refine m_iload_n C 0 dX10_atom_161 rfl rfl ?_
              exact m_iret C E (Or.inl rfl) dX10_atom_162 h
            · have h := h.1 e
              refine m_aload_n C 1 dX10_atom_138 rfl rfl ?_
              refine m_callVi C (as := []) (rest := []) ok_X10_name ml_X10_220 so_51 rfl rfl rfl (Nat.le_of_ble_eq_true rfl) (fun _ => rfl) dX10_atom_139 (Con.mono h (fun r17 M18 _ _ h => ?_))
              refine m_istore_n C (L' := [(1, vI r17), (0, vR 51)]) dX10_atom_142 rfl (by rw [hnL]; decide) rfl ?_
              refine m_aload_n C 1 dX10_atom_143 rfl rfl ?_
              refine m_getZ C (k := 28) cl_X10 (by decide) so_51 rfl fl_X10_164 dX10_atom_144 ?_
              refine m_if_ne C (tgt := 161) dX10_atom_147 (by decide) (fun e => ?_) (fun e => ?_)
              · have h := h.2 e
                refine m_iload_n C 0 dX10_atom_161 rfl rfl ?_
                exact m_iret C E (Or.inl rfl) dX10_atom_162 h
              · have h := h.1 e
                refine m_aload_n C 1 dX10_atom_150 rfl rfl ?_
                refine m_callVv C (as := []) (rest := []) ok_X10_nextToken ml_X10_181 so_51 rfl rfl rfl (Nat.le_of_ble_eq_true rfl) (fun _ => rfl) dX10_atom_151 (Con.mono h (fun _ M20 _ _ h => ?_))
                refine m_goto C (tgt := 161) dX10_atom_154 (by decide) ?_
                refine m_iload_n C 0 dX10_atom_161 rfl rfl ?_
                exact m_iret C E (Or.inl rfl) dX10_atom_162 h
        · have h := h.1 e
          refine m_aload_n C 1 dX10_atom_110 rfl rfl ?_
          refine m_getL C (k := 26) cl_X10 (by decide) so_51 rfl fl_X10_158 dX10_atom_111 ?_
          refine m_l2i C dX10_atom_114 ?_
          refine m_istore_n C (L' := [(1, vI (w32 (M4 51 26))), (0, vR 51)]) dX10_atom_115 rfl (by rw [hnL]; decide) rfl ?_
          refine m_aload_n C 1 dX10_atom_116 rfl rfl ?_
          refine m_callVv C (as := []) (rest := []) ok_X10_nextToken ml_X10_181 so_51 rfl rfl rfl (Nat.le_of_ble_eq_true rfl) (fun _ => rfl) dX10_atom_117 (Con.mono h (fun _ M22 _ _ h => ?_))
          refine m_goto C (tgt := 161) dX10_atom_120 (by decide) ?_
          refine m_iload_n C 0 dX10_atom_161 rfl rfl ?_
          exact m_iret C E (Or.inl rfl) dX10_atom_162 h
    · have h := h.2 e
      refine m_aload_n C 1 dX10_atom_46 rfl rfl ?_
      refine m_callVi C (as := []) (rest := []) ok_X10_opens ml_X10_209 so_51 rfl rfl rfl (Nat.le_of_ble_eq_true rfl) (fun _ => rfl) dX10_atom_47 (Con.mono h (fun r23 M24 _ _ h => ?_))
      refine m_if_eq C (tgt := 161) dX10_atom_50 (by decide) (fun e => ?_) (fun e => ?_)
      · have h := h.1 e
        refine m_iload_n C 0 dX10_atom_161 rfl rfl ?_
        exact m_iret C E (Or.inl rfl) dX10_atom_162 h
      · have h := h.2 e
        refine m_aload_n C 1 dX10_atom_53 rfl rfl ?_
        refine m_callVi C (as := []) (rest := []) ok_X10_either ml_X10_217 so_51 rfl rfl rfl (Nat.le_of_ble_eq_true rfl) (fun _ => rfl) dX10_atom_54 (Con.mono h (fun r25 M26 _ _ h => ?_))
        refine m_istore_n C (L' := [(1, vI r25), (0, vR 51)]) dX10_atom_57 rfl (by rw [hnL]; decide) rfl ?_
        refine m_aload_n C 1 dX10_atom_58 rfl rfl ?_
        refine m_bipush C dX10_atom_59 (r32_of rfl) (by decide) ?_
        refine m_callVi C (as := [vI 41]) (rest := []) ok_X10_isSign ml_X10_206 so_51 rfl rfl rfl (Nat.le_of_ble_eq_true rfl) (fun _ => rfl) dX10_atom_61 (Con.mono h (fun r27 M28 _ _ h => ?_))
        refine m_if_ne C (tgt := 71) dX10_atom_64 (by decide) (fun e => ?_) (fun e => ?_)
        · have h := h.2 e
          refine m_aload_n C 1 dX10_atom_71 rfl rfl ?_
          refine m_dupR C dX10_atom_72 ?_
          refine m_getI C (k := 27) cl_X10 (by decide) so_51 rfl fl_X10_175 dX10_atom_73 ?_
          refine m_iconst C dX10_atom_76 (r32_of rfl) ?_
          refine m_isub C dX10_atom_77 ?_
          refine m_putI C (k := 27) cl_X10 (by decide) so_51 rfl rfl rfl fl_X10_175 dX10_atom_78 ?_
          generalize eM29 : up M28 51 27 (w32 ((M28 51 27) - 1)) = M29
          have h := h M29 eM29.symm
          refine m_aload_n C 1 dX10_atom_81 rfl rfl ?_
          refine m_getZ C (k := 28) cl_X10 (by decide) so_51 rfl fl_X10_164 dX10_atom_82 ?_
          refine m_if_ne C (tgt := 161) dX10_atom_85 (by decide) (fun e => ?_) (fun e => ?_)
          · have h := h.2 e
            refine m_iload_n C 0 dX10_atom_161 rfl rfl ?_
            exact m_iret C E (Or.inl rfl) dX10_atom_162 h
          · have h := h.1 e
            refine m_aload_n C 1 dX10_atom_88 rfl rfl ?_
            refine m_callVv C (as := []) (rest := []) ok_X10_nextToken ml_X10_181 so_51 rfl rfl rfl (Nat.le_of_ble_eq_true rfl) (fun _ => rfl) dX10_atom_89 (Con.mono h (fun _ M31 _ _ h => ?_))
            refine m_goto C (tgt := 161) dX10_atom_92 (by decide) ?_
            refine m_iload_n C 0 dX10_atom_161 rfl rfl ?_
            exact m_iret C E (Or.inl rfl) dX10_atom_162 h
        · have h := h.1 e
          refine m_aload_n C 1 dX10_atom_67 rfl rfl ?_
          refine m_callVv C (as := []) (rest := []) ok_X10_fail ml_X10_178 so_51 rfl rfl rfl (Nat.le_of_ble_eq_true rfl) (fun _ => rfl) dX10_atom_68 (Con.mono h (fun _ M33 _ _ h => ?_))
          refine m_aload_n C 1 dX10_atom_71 rfl rfl ?_
          refine m_dupR C dX10_atom_72 ?_
          refine m_getI C (k := 27) cl_X10 (by decide) so_51 rfl fl_X10_175 dX10_atom_73 ?_
          refine m_iconst C dX10_atom_76 (r32_of rfl) ?_
          refine m_isub C dX10_atom_77 ?_
          refine m_putI C (k := 27) cl_X10 (by decide) so_51 rfl rfl rfl fl_X10_175 dX10_atom_78 ?_
          generalize eM34 : up M33 51 27 (w32 ((M33 51 27) - 1)) = M34
          have h := h M34 eM34.symm
          refine m_aload_n C 1 dX10_atom_81 rfl rfl ?_
          refine m_getZ C (k := 28) cl_X10 (by decide) so_51 rfl fl_X10_164 dX10_atom_82 ?_
          refine m_if_ne C (tgt := 161) dX10_atom_85 (by decide) (fun e => ?_) (fun e => ?_)
          · have h := h.2 e
            refine m_iload_n C 0 dX10_atom_161 rfl rfl ?_
            exact m_iret C E (Or.inl rfl) dX10_atom_162 h
          · have h := h.1 e
            refine m_aload_n C 1 dX10_atom_88 rfl rfl ?_
            refine m_callVv C (as := []) (rest := []) ok_X10_nextToken ml_X10_181 so_51 rfl rfl rfl (Nat.le_of_ble_eq_true rfl) (fun _ => rfl) dX10_atom_89 (Con.mono h (fun _ M36 _ _ h => ?_))
            refine m_goto C (tgt := 161) dX10_atom_92 (by decide) ?_
            refine m_iload_n C 0 dX10_atom_161 rfl rfl ?_
            exact m_iret C E (Or.inl rfl) dX10_atom_162 h
  · have h := h.2 e
    refine m_aload_n C 1 dX10_atom_11 rfl rfl ?_
    refine m_callVi C (as := []) (rest := []) ok_X10_opens ml_X10_209 so_51 rfl rfl rfl (Nat.le_of_ble_eq_true rfl) (fun _ => rfl) dX10_atom_12 (Con.mono h (fun r37 M38 _ _ h => ?_))
    refine m_if_eq C (tgt := 161) dX10_atom_15 (by decide) (fun e => ?_) (fun e => ?_)
    · have h := h.1 e
      refine m_iload_n C 0 dX10_atom_161 rfl rfl ?_
      exact m_iret C E (Or.inl rfl) dX10_atom_162 h
    · have h := h.2 e
      refine m_aload_n C 1 dX10_atom_18 rfl rfl ?_
      refine m_callVi C (as := []) (rest := []) ok_X10_atom ml_X10_213 so_51 rfl rfl rfl (Nat.le_of_ble_eq_true rfl) (fun _ => rfl) dX10_atom_19 (Con.mono h (fun r39 M40 _ _ h => ?_))
      refine m_ineg C dX10_atom_22 ?_
      refine m_istore_n C (L' := [(1, vI (w32 (-r39))), (0, vR 51)]) dX10_atom_23 rfl (by rw [hnL]; decide) rfl ?_
      refine m_aload_n C 1 dX10_atom_24 rfl rfl ?_
      refine m_dupR C dX10_atom_25 ?_
      refine m_getI C (k := 27) cl_X10 (by decide) so_51 rfl fl_X10_175 dX10_atom_26 ?_
      refine m_iconst C dX10_atom_29 (r32_of rfl) ?_
      refine m_isub C dX10_atom_30 ?_
      refine m_putI C (k := 27) cl_X10 (by decide) so_51 rfl rfl rfl fl_X10_175 dX10_atom_31 ?_
      generalize eM41 : up M40 51 27 (w32 ((M40 51 27) - 1)) = M41
      have h := h M41 eM41.symm
      refine m_goto C (tgt := 161) dX10_atom_34 (by decide) ?_
      refine m_iload_n C 0 dX10_atom_161 rfl rfl ?_
      exact m_iret C E (Or.inl rfl) dX10_atom_162 h
def B_X10_term_5 (n : Nat)  (x1 : Int) (M : Mem) (Q : Int → Mem → Prop) (K5 : Int → Mem → Prop) : Prop :=
  Con n md_X10_isSign [vR 51, vI 42] M (fun r1 M2 =>
  ((r1 = 0 →
  Q x1 M2) ∧ (¬ r1 = 0 →
  Con n md_X10_nextToken [vR 51] M2 (fun _ M4 =>
    Con n md_X10_atom [vR 51] M4 (fun r5 M6 =>
    K5 (w32 (x1 * r5)) M6)))))
def B_X10_term (n : Nat)  (M : Mem) (Q : Int → Mem → Prop) (K5 : Int → Mem → Prop) : Prop :=
  Con n md_X10_atom [vR 51] M (fun r7 M8 =>
  K5 r7 M8)
set_option maxHeartbeats 4000000 in
set_option maxRecDepth 20000 in
theorem g_X10_term {n : Nat}  {M : Mem} {Q : Int → Mem → Prop}  (h : ∀ (K5 : Int → Mem → Prop), (∀ (x1 : Int) (M : Mem), B_X10_term_5 n  x1 M Q K5 → K5 x1 M) → B_X10_term n  M Q K5) : Con (n + 1) md_X10_term [vR 51] M Q := by
  refine Con.ofF (n := n + 1) (Nat.succ_pos n) pl_X10_term (Nat.le_of_ble_eq_true rfl) (fun X C E hnL => ?_)
  have C : Cx X cX10_term RX10 n := C
  show WM X 0 [(0, vR 51)] [] M
  have hb5 : ∀ (x1 : Int) (M : Mem), B_X10_term_5 n  x1 M Q (fun (x1 : Int) (M : Mem) => WM X 5 [(0, vR 51), (1, vI x1)] [] M) → WM X 5 [(0, vR 51), (1, vI x1)] [] M := by
    intro x1 M h
    unfold B_X10_term_5 at h
    refine m_aload_n C 0 dX10_term_5 rfl rfl ?_
    refine m_bipush C dX10_term_6 (r32_of rfl) (by decide) ?_
    refine m_callVi C (as := [vI 42]) (rest := []) ok_X10_isSign ml_X10_206 so_51 rfl rfl rfl (Nat.le_of_ble_eq_true rfl) (fun _ => rfl) dX10_term_8 (Con.mono h (fun r1 M2 _ _ h => ?_))
    refine m_if_eq C (tgt := 28) dX10_term_11 (by decide) (fun e => ?_) (fun e => ?_)
    · have h := h.1 e
      refine m_iload_n C 1 dX10_term_28 rfl rfl ?_
      exact m_iret C E (Or.inl rfl) dX10_term_29 h
    · have h := h.2 e
      refine m_aload_n C 0 dX10_term_14 rfl rfl ?_
      refine m_callVv C (as := []) (rest := []) ok_X10_nextToken ml_X10_181 so_51 rfl rfl rfl (Nat.le_of_ble_eq_true rfl) (fun _ => rfl) dX10_term_15 (Con.mono h (fun _ M4 _ _ h => ?_))
      refine m_iload_n C 1 dX10_term_18 rfl rfl ?_
      refine m_aload_n C 0 dX10_term_19 rfl rfl ?_
      refine m_callVi C (as := []) (rest := [vI x1]) ok_X10_atom ml_X10_213 so_51 rfl rfl rfl (Nat.le_of_ble_eq_true rfl) (fun _ => rfl) dX10_term_20 (Con.mono h (fun r5 M6 _ _ h => ?_))
      refine m_imul C dX10_term_23 ?_
      refine m_istore_n C (L' := [(1, vI (w32 (x1 * r5))), (0, vR 51)]) dX10_term_24 rfl (by rw [hnL]; decide) rfl ?_
      refine m_goto C (tgt := 5) dX10_term_25 (by decide) ?_
      exact m_sub [1, 0] rfl h
  have h := h (fun (x1 : Int) (M : Mem) => WM X 5 [(0, vR 51), (1, vI x1)] [] M) hb5
  unfold B_X10_term at h
  refine m_aload_n C 0 dX10_term_0 rfl rfl ?_
  refine m_callVi C (as := []) (rest := []) ok_X10_atom ml_X10_213 so_51 rfl rfl rfl (Nat.le_of_ble_eq_true rfl) (fun _ => rfl) dX10_term_1 (Con.mono h (fun r7 M8 _ _ h => ?_))
  refine m_istore_n C (L' := [(1, vI r7), (0, vR 51)]) dX10_term_4 rfl (by rw [hnL]; decide) rfl ?_
  exact m_sub [1, 0] rfl h
def B_X10_added_5 (n : Nat)  (x1 : Int) (M : Mem) (Q : Int → Mem → Prop) (K5 : Int → Mem → Prop) : Prop :=
  Con n md_X10_isSign [vR 51, vI 43] M (fun r1 M2 =>
  ((r1 = 0 →
  Con n md_X10_isSign [vR 51, vI 45] M2 (fun r11 M12 =>
    ((r11 = 0 →
    Q x1 M12) ∧ (¬ r11 = 0 →
    (((l_c (M12 51 26) 43) = 0 →
      Con n md_X10_nextToken [vR 51] M12 (fun _ M18 =>
        Con n md_X10_term [vR 51] M18 (fun r19 M20 =>
        (((1 : Int) = 0 →
        K5 (w32 (x1 - r19)) M20) ∧ (¬ (1 : Int) = 0 →
        K5 (w32 (x1 + r19)) M20))))) ∧ (¬ (l_c (M12 51 26) 43) = 0 →
      Con n md_X10_nextToken [vR 51] M12 (fun _ M14 =>
        Con n md_X10_term [vR 51] M14 (fun r15 M16 =>
        (((0 : Int) = 0 →
        K5 (w32 (x1 - r15)) M16) ∧ (¬ (0 : Int) = 0 →
        K5 (w32 (x1 + r15)) M16)))))))))) ∧ (¬ r1 = 0 →
  (((l_c (M2 51 26) 43) = 0 →
    Con n md_X10_nextToken [vR 51] M2 (fun _ M8 =>
      Con n md_X10_term [vR 51] M8 (fun r9 M10 =>
      (((1 : Int) = 0 →
      K5 (w32 (x1 - r9)) M10) ∧ (¬ (1 : Int) = 0 →
      K5 (w32 (x1 + r9)) M10))))) ∧ (¬ (l_c (M2 51 26) 43) = 0 →
    Con n md_X10_nextToken [vR 51] M2 (fun _ M4 =>
      Con n md_X10_term [vR 51] M4 (fun r5 M6 =>
      (((0 : Int) = 0 →
      K5 (w32 (x1 - r5)) M6) ∧ (¬ (0 : Int) = 0 →
      K5 (w32 (x1 + r5)) M6)))))))))
def B_X10_added (n : Nat)  (M : Mem) (Q : Int → Mem → Prop) (K5 : Int → Mem → Prop) : Prop :=
  Con n md_X10_term [vR 51] M (fun r21 M22 =>
  K5 r21 M22)
set_option maxHeartbeats 4000000 in
set_option maxRecDepth 20000 in
theorem g_X10_added {n : Nat}  {M : Mem} {Q : Int → Mem → Prop}  (h : ∀ (K5 : Int → Mem → Prop), (∀ (x1 : Int) (M : Mem), B_X10_added_5 n  x1 M Q K5 → K5 x1 M) → B_X10_added n  M Q K5) : Con (n + 1) md_X10_added [vR 51] M Q := by
  refine Con.ofF (n := n + 1) (Nat.succ_pos n) pl_X10_added (Nat.le_of_ble_eq_true rfl) (fun X C E hnL => ?_)
  have C : Cx X cX10_added RX10 n := C
  show WM X 0 [(0, vR 51)] [] M
  have hb5 : ∀ (x1 : Int) (M : Mem), B_X10_added_5 n  x1 M Q (fun (x1 : Int) (M : Mem) => WM X 5 [(0, vR 51), (1, vI x1)] [] M) → WM X 5 [(0, vR 51), (1, vI x1)] [] M := by
    intro x1 M h
    unfold B_X10_added_5 at h
    refine m_aload_n C 0 dX10_added_5 rfl rfl ?_
    refine m_bipush C dX10_added_6 (r32_of rfl) (by decide) ?_
    refine m_callVi C (as := [vI 43]) (rest := []) ok_X10_isSign ml_X10_206 so_51 rfl rfl rfl (Nat.le_of_ble_eq_true rfl) (fun _ => rfl) dX10_added_8 (Con.mono h (fun r1 M2 _ _ h => ?_))
    refine m_if_ne C (tgt := 23) dX10_added_11 (by decide) (fun e => ?_) (fun e => ?_)
    · have h := h.2 e
      refine m_aload_n C 0 dX10_added_23 rfl rfl ?_
      refine m_getL C (k := 26) cl_X10 (by decide) so_51 rfl fl_X10_158 dX10_added_24 ?_
      refine m_ldc2 C (v := 43) dX10_added_27 kc_X10_226 (r64_of rfl) ?_
      refine m_lcmp C dX10_added_30 ?_
      refine m_if_ne C (tgt := 38) dX10_added_31 (by decide) (fun e => ?_) (fun e => ?_)
      · have h := h.2 e
        refine m_iconst C dX10_added_38 (r32_of rfl) ?_
        refine m_istore_n C (L' := [(2, vI 0), (0, vR 51), (1, vI x1)]) dX10_added_39 rfl (by rw [hnL]; decide) rfl ?_
        refine m_aload_n C 1 dX10_added_40 rfl rfl ?_
        refine m_callVv C (as := []) (rest := []) ok_X10_nextToken ml_X10_181 so_51 rfl rfl rfl (Nat.le_of_ble_eq_true rfl) (fun _ => rfl) dX10_added_41 (Con.mono h (fun _ M4 _ _ h => ?_))
        refine m_aload_n C 1 dX10_added_44 rfl rfl ?_
        refine m_callVi C (as := []) (rest := []) ok_X10_term ml_X10_223 so_51 rfl rfl rfl (Nat.le_of_ble_eq_true rfl) (fun _ => rfl) dX10_added_45 (Con.mono h (fun r5 M6 _ _ h => ?_))
        refine m_istore_n C (L' := [(3, vI r5), (2, vI 0), (0, vR 51), (1, vI x1)]) dX10_added_48 rfl (by rw [hnL]; decide) rfl ?_
        refine m_iload_n C 1 dX10_added_49 rfl rfl ?_
        refine m_if_eq C (tgt := 59) dX10_added_50 (by decide) (fun e => ?_) (fun e => ?_)
        · have h := h.1 e
          refine m_iload_n C 3 dX10_added_59 rfl rfl ?_
          refine m_iload_n C 0 dX10_added_60 rfl rfl ?_
          refine m_isub C dX10_added_61 ?_
          refine m_istore_n C (L' := [(1, vI (w32 (x1 - r5))), (3, vI r5), (2, vI 0), (0, vR 51)]) dX10_added_62 rfl (by rw [hnL]; decide) rfl ?_
          refine m_goto C (tgt := 5) dX10_added_63 (by decide) ?_
          exact m_sub [3, 0] rfl h
        · have h := h.2 e
          refine m_iload_n C 3 dX10_added_53 rfl rfl ?_
          refine m_iload_n C 0 dX10_added_54 rfl rfl ?_
          refine m_iadd C dX10_added_55 ?_
          refine m_goto C (tgt := 62) dX10_added_56 (by decide) ?_
          refine m_istore_n C (L' := [(1, vI (w32 (x1 + r5))), (3, vI r5), (2, vI 0), (0, vR 51)]) dX10_added_62 rfl (by rw [hnL]; decide) rfl ?_
          refine m_goto C (tgt := 5) dX10_added_63 (by decide) ?_
          exact m_sub [3, 0] rfl h
      · have h := h.1 e
        refine m_iconst C dX10_added_34 (r32_of rfl) ?_
        refine m_goto C (tgt := 39) dX10_added_35 (by decide) ?_
        refine m_istore_n C (L' := [(2, vI 1), (0, vR 51), (1, vI x1)]) dX10_added_39 rfl (by rw [hnL]; decide) rfl ?_
        refine m_aload_n C 1 dX10_added_40 rfl rfl ?_
        refine m_callVv C (as := []) (rest := []) ok_X10_nextToken ml_X10_181 so_51 rfl rfl rfl (Nat.le_of_ble_eq_true rfl) (fun _ => rfl) dX10_added_41 (Con.mono h (fun _ M8 _ _ h => ?_))
        refine m_aload_n C 1 dX10_added_44 rfl rfl ?_
        refine m_callVi C (as := []) (rest := []) ok_X10_term ml_X10_223 so_51 rfl rfl rfl (Nat.le_of_ble_eq_true rfl) (fun _ => rfl) dX10_added_45 (Con.mono h (fun r9 M10 _ _ h => ?_))
        refine m_istore_n C (L' := [(3, vI r9), (2, vI 1), (0, vR 51), (1, vI x1)]) dX10_added_48 rfl (by rw [hnL]; decide) rfl ?_
        refine m_iload_n C 1 dX10_added_49 rfl rfl ?_
        refine m_if_eq C (tgt := 59) dX10_added_50 (by decide) (fun e => ?_) (fun e => ?_)
        · have h := h.1 e
          refine m_iload_n C 3 dX10_added_59 rfl rfl ?_
          refine m_iload_n C 0 dX10_added_60 rfl rfl ?_
          refine m_isub C dX10_added_61 ?_
          refine m_istore_n C (L' := [(1, vI (w32 (x1 - r9))), (3, vI r9), (2, vI 1), (0, vR 51)]) dX10_added_62 rfl (by rw [hnL]; decide) rfl ?_
          refine m_goto C (tgt := 5) dX10_added_63 (by decide) ?_
          exact m_sub [3, 0] rfl h
        · have h := h.2 e
          refine m_iload_n C 3 dX10_added_53 rfl rfl ?_
          refine m_iload_n C 0 dX10_added_54 rfl rfl ?_
          refine m_iadd C dX10_added_55 ?_
          refine m_goto C (tgt := 62) dX10_added_56 (by decide) ?_
          refine m_istore_n C (L' := [(1, vI (w32 (x1 + r9))), (3, vI r9), (2, vI 1), (0, vR 51)]) dX10_added_62 rfl (by rw [hnL]; decide) rfl ?_
          refine m_goto C (tgt := 5) dX10_added_63 (by decide) ?_
          exact m_sub [3, 0] rfl h
    · have h := h.1 e
      refine m_aload_n C 0 dX10_added_14 rfl rfl ?_
      refine m_bipush C dX10_added_15 (r32_of rfl) (by decide) ?_
      refine m_callVi C (as := [vI 45]) (rest := []) ok_X10_isSign ml_X10_206 so_51 rfl rfl rfl (Nat.le_of_ble_eq_true rfl) (fun _ => rfl) dX10_added_17 (Con.mono h (fun r11 M12 _ _ h => ?_))
      refine m_if_eq C (tgt := 66) dX10_added_20 (by decide) (fun e => ?_) (fun e => ?_)
      · have h := h.1 e
        refine m_iload_n C 1 dX10_added_66 rfl rfl ?_
        exact m_iret C E (Or.inl rfl) dX10_added_67 h
      · have h := h.2 e
        refine m_aload_n C 0 dX10_added_23 rfl rfl ?_
        refine m_getL C (k := 26) cl_X10 (by decide) so_51 rfl fl_X10_158 dX10_added_24 ?_
        refine m_ldc2 C (v := 43) dX10_added_27 kc_X10_226 (r64_of rfl) ?_
        refine m_lcmp C dX10_added_30 ?_
        refine m_if_ne C (tgt := 38) dX10_added_31 (by decide) (fun e => ?_) (fun e => ?_)
        · have h := h.2 e
          refine m_iconst C dX10_added_38 (r32_of rfl) ?_
          refine m_istore_n C (L' := [(2, vI 0), (0, vR 51), (1, vI x1)]) dX10_added_39 rfl (by rw [hnL]; decide) rfl ?_
          refine m_aload_n C 1 dX10_added_40 rfl rfl ?_
          refine m_callVv C (as := []) (rest := []) ok_X10_nextToken ml_X10_181 so_51 rfl rfl rfl (Nat.le_of_ble_eq_true rfl) (fun _ => rfl) dX10_added_41 (Con.mono h (fun _ M14 _ _ h => ?_))
          refine m_aload_n C 1 dX10_added_44 rfl rfl ?_
          refine m_callVi C (as := []) (rest := []) ok_X10_term ml_X10_223 so_51 rfl rfl rfl (Nat.le_of_ble_eq_true rfl) (fun _ => rfl) dX10_added_45 (Con.mono h (fun r15 M16 _ _ h => ?_))
          refine m_istore_n C (L' := [(3, vI r15), (2, vI 0), (0, vR 51), (1, vI x1)]) dX10_added_48 rfl (by rw [hnL]; decide) rfl ?_
          refine m_iload_n C 1 dX10_added_49 rfl rfl ?_
          refine m_if_eq C (tgt := 59) dX10_added_50 (by decide) (fun e => ?_) (fun e => ?_)
          · have h := h.1 e
            refine m_iload_n C 3 dX10_added_59 rfl rfl ?_
            refine m_iload_n C 0 dX10_added_60 rfl rfl ?_
            refine m_isub C dX10_added_61 ?_
            refine m_istore_n C (L' := [(1, vI (w32 (x1 - r15))), (3, vI r15), (2, vI 0), (0, vR 51)]) dX10_added_62 rfl (by rw [hnL]; decide) rfl ?_
            refine m_goto C (tgt := 5) dX10_added_63 (by decide) ?_
            exact m_sub [3, 0] rfl h
          · have h := h.2 e
            refine m_iload_n C 3 dX10_added_53 rfl rfl ?_
            refine m_iload_n C 0 dX10_added_54 rfl rfl ?_
            refine m_iadd C dX10_added_55 ?_
            refine m_goto C (tgt := 62) dX10_added_56 (by decide) ?_
            refine m_istore_n C (L' := [(1, vI (w32 (x1 + r15))), (3, vI r15), (2, vI 0), (0, vR 51)]) dX10_added_62 rfl (by rw [hnL]; decide) rfl ?_
            refine m_goto C (tgt := 5) dX10_added_63 (by decide) ?_
            exact m_sub [3, 0] rfl h
        · have h := h.1 e
          refine m_iconst C dX10_added_34 (r32_of rfl) ?_
          refine m_goto C (tgt := 39) dX10_added_35 (by decide) ?_
          refine m_istore_n C (L' := [(2, vI 1), (0, vR 51), (1, vI x1)]) dX10_added_39 rfl (by rw [hnL]; decide) rfl ?_
          refine m_aload_n C 1 dX10_added_40 rfl rfl ?_
          refine m_callVv C (as := []) (rest := []) ok_X10_nextToken ml_X10_181 so_51 rfl rfl rfl (Nat.le_of_ble_eq_true rfl) (fun _ => rfl) dX10_added_41 (Con.mono h (fun _ M18 _ _ h => ?_))
          refine m_aload_n C 1 dX10_added_44 rfl rfl ?_
          refine m_callVi C (as := []) (rest := []) ok_X10_term ml_X10_223 so_51 rfl rfl rfl (Nat.le_of_ble_eq_true rfl) (fun _ => rfl) dX10_added_45 (Con.mono h (fun r19 M20 _ _ h => ?_))
          refine m_istore_n C (L' := [(3, vI r19), (2, vI 1), (0, vR 51), (1, vI x1)]) dX10_added_48 rfl (by rw [hnL]; decide) rfl ?_
          refine m_iload_n C 1 dX10_added_49 rfl rfl ?_
          refine m_if_eq C (tgt := 59) dX10_added_50 (by decide) (fun e => ?_) (fun e => ?_)
          · have h := h.1 e
            refine m_iload_n C 3 dX10_added_59 rfl rfl ?_
            refine m_iload_n C 0 dX10_added_60 rfl rfl ?_
            refine m_isub C dX10_added_61 ?_
            refine m_istore_n C (L' := [(1, vI (w32 (x1 - r19))), (3, vI r19), (2, vI 1), (0, vR 51)]) dX10_added_62 rfl (by rw [hnL]; decide) rfl ?_
            refine m_goto C (tgt := 5) dX10_added_63 (by decide) ?_
            exact m_sub [3, 0] rfl h
          · have h := h.2 e
            refine m_iload_n C 3 dX10_added_53 rfl rfl ?_
            refine m_iload_n C 0 dX10_added_54 rfl rfl ?_
            refine m_iadd C dX10_added_55 ?_
            refine m_goto C (tgt := 62) dX10_added_56 (by decide) ?_
            refine m_istore_n C (L' := [(1, vI (w32 (x1 + r19))), (3, vI r19), (2, vI 1), (0, vR 51)]) dX10_added_62 rfl (by rw [hnL]; decide) rfl ?_
            refine m_goto C (tgt := 5) dX10_added_63 (by decide) ?_
            exact m_sub [3, 0] rfl h
  have h := h (fun (x1 : Int) (M : Mem) => WM X 5 [(0, vR 51), (1, vI x1)] [] M) hb5
  unfold B_X10_added at h
  refine m_aload_n C 0 dX10_added_0 rfl rfl ?_
  refine m_callVi C (as := []) (rest := []) ok_X10_term ml_X10_223 so_51 rfl rfl rfl (Nat.le_of_ble_eq_true rfl) (fun _ => rfl) dX10_added_1 (Con.mono h (fun r21 M22 _ _ h => ?_))
  refine m_istore_n C (L' := [(1, vI r21), (0, vR 51)]) dX10_added_4 rfl (by rw [hnL]; decide) rfl ?_
  exact m_sub [1, 0] rfl h
def B_X10_not (n : Nat)  (M : Mem) (Q : Int → Mem → Prop)  : Prop :=
  Con n md_X10_isWord [vR 51, vI 110, vI 111, vI 116, vI 0, vI 0, vI 0, vI 0, vI 0] M (fun r1 M2 =>
  ((r1 = 0 →
  Con n md_X10_added [vR 51] M2 (fun r3 M4 =>
    Con n md_X10_isSign [vR 51, vI 60] M4 (fun r5 M6 =>
    ((r5 = 0 →
    Con n md_X10_isSign [vR 51, vI 61] M6 (fun r15 M16 =>
      ((r15 = 0 →
      Q r3 M16) ∧ (¬ r15 = 0 →
      (((l_c (M16 51 26) 60) = 0 →
        Con n md_X10_nextToken [vR 51] M16 (fun _ M22 =>
          Con n md_X10_added [vR 51] M22 (fun r23 M24 =>
          (((1 : Int) = 0 →
          ((r3 = r23 →
            Q 1 M24) ∧ (¬ r3 = r23 →
            Q 0 M24))) ∧ (¬ (1 : Int) = 0 →
          ((r23 ≤ r3 →
            Q 0 M24) ∧ (¬ r23 ≤ r3 →
            Q 1 M24))))))) ∧ (¬ (l_c (M16 51 26) 60) = 0 →
        Con n md_X10_nextToken [vR 51] M16 (fun _ M18 =>
          Con n md_X10_added [vR 51] M18 (fun r19 M20 =>
          (((0 : Int) = 0 →
          ((r3 = r19 →
            Q 1 M20) ∧ (¬ r3 = r19 →
            Q 0 M20))) ∧ (¬ (0 : Int) = 0 →
          ((r19 ≤ r3 →
            Q 0 M20) ∧ (¬ r19 ≤ r3 →
            Q 1 M20)))))))))))) ∧ (¬ r5 = 0 →
    (((l_c (M6 51 26) 60) = 0 →
      Con n md_X10_nextToken [vR 51] M6 (fun _ M12 =>
        Con n md_X10_added [vR 51] M12 (fun r13 M14 =>
        (((1 : Int) = 0 →
        ((r3 = r13 →
          Q 1 M14) ∧ (¬ r3 = r13 →
          Q 0 M14))) ∧ (¬ (1 : Int) = 0 →
        ((r13 ≤ r3 →
          Q 0 M14) ∧ (¬ r13 ≤ r3 →
          Q 1 M14))))))) ∧ (¬ (l_c (M6 51 26) 60) = 0 →
      Con n md_X10_nextToken [vR 51] M6 (fun _ M8 =>
        Con n md_X10_added [vR 51] M8 (fun r9 M10 =>
        (((0 : Int) = 0 →
        ((r3 = r9 →
          Q 1 M10) ∧ (¬ r3 = r9 →
          Q 0 M10))) ∧ (¬ (0 : Int) = 0 →
        ((r9 ≤ r3 →
          Q 0 M10) ∧ (¬ r9 ≤ r3 →
          Q 1 M10))))))))))))) ∧ (¬ r1 = 0 →
  Con n md_X10_opens [vR 51] M2 (fun r25 M26 =>
    ((r25 = 0 →
    Q 0 M26) ∧ (¬ r25 = 0 →
    Con n md_X10_not [vR 51] M26 (fun r27 M28 =>
      (∀ M29 : Mem, M29 = up M28 51 27 (w32 ((M28 51 27) - 1)) →
      ((r27 = 0 →
      Q 1 M29) ∧ (¬ r27 = 0 →
      Q 0 M29))))))))))
set_option maxHeartbeats 4000000 in
set_option maxRecDepth 20000 in
theorem g_X10_not {n : Nat}  {M : Mem} {Q : Int → Mem → Prop}  (h : B_X10_not n  M Q) : Con (n + 1) md_X10_not [vR 51] M Q := by
  refine Con.ofF (n := n + 1) (Nat.succ_pos n) pl_X10_not (Nat.le_of_ble_eq_true rfl) (fun X C E hnL => ?_)
  have C : Cx X cX10_not RX10 n := C
  show WM X 0 [(0, vR 51)] [] M
  unfold B_X10_not at h
  refine m_aload_n C 0 dX10_not_0 rfl rfl ?_
  refine m_bipush C dX10_not_1 (r32_of rfl) (by decide) ?_
  refine m_bipush C dX10_not_3 (r32_of rfl) (by decide) ?_
  refine m_bipush C dX10_not_5 (r32_of rfl) (by decide) ?_
  refine m_iconst C dX10_not_7 (r32_of rfl) ?_
  refine m_iconst C dX10_not_8 (r32_of rfl) ?_
  refine m_iconst C dX10_not_9 (r32_of rfl) ?_
  refine m_iconst C dX10_not_10 (r32_of rfl) ?_
  refine m_iconst C dX10_not_11 (r32_of rfl) ?_
  refine m_callVi C (as := [vI 110, vI 111, vI 116, vI 0, vI 0, vI 0, vI 0, vI 0]) (rest := []) ok_X10_isWord ml_X10_184 so_51 rfl rfl rfl (Nat.le_of_ble_eq_true rfl) (fun _ => rfl) dX10_not_12 (Con.mono h (fun r1 M2 _ _ h => ?_))
  refine m_if_eq C (tgt := 52) dX10_not_15 (by decide) (fun e => ?_) (fun e => ?_)
  · have h := h.1 e
    refine m_aload_n C 0 dX10_not_52 rfl rfl ?_
    refine m_callVi C (as := []) (rest := []) ok_X10_added ml_X10_231 so_51 rfl rfl rfl (Nat.le_of_ble_eq_true rfl) (fun _ => rfl) dX10_not_53 (Con.mono h (fun r3 M4 _ _ h => ?_))
    refine m_istore_n C (L' := [(1, vI r3), (0, vR 51)]) dX10_not_56 rfl (by rw [hnL]; decide) rfl ?_
    refine m_aload_n C 1 dX10_not_57 rfl rfl ?_
    refine m_bipush C dX10_not_58 (r32_of rfl) (by decide) ?_
    refine m_callVi C (as := [vI 60]) (rest := []) ok_X10_isSign ml_X10_206 so_51 rfl rfl rfl (Nat.le_of_ble_eq_true rfl) (fun _ => rfl) dX10_not_60 (Con.mono h (fun r5 M6 _ _ h => ?_))
    refine m_if_ne C (tgt := 77) dX10_not_63 (by decide) (fun e => ?_) (fun e => ?_)
    · have h := h.2 e
      refine m_aload_n C 1 dX10_not_77 rfl rfl ?_
      refine m_getL C (k := 26) cl_X10 (by decide) so_51 rfl fl_X10_158 dX10_not_78 ?_
      refine m_ldc2 C (v := 60) dX10_not_81 kc_X10_234 (r64_of rfl) ?_
      refine m_lcmp C dX10_not_84 ?_
      refine m_if_ne C (tgt := 92) dX10_not_85 (by decide) (fun e => ?_) (fun e => ?_)
      · have h := h.2 e
        refine m_iconst C dX10_not_92 (r32_of rfl) ?_
        refine m_istore_n C (L' := [(2, vI 0), (1, vI r3), (0, vR 51)]) dX10_not_93 rfl (by rw [hnL]; decide) rfl ?_
        refine m_aload_n C 2 dX10_not_94 rfl rfl ?_
        refine m_callVv C (as := []) (rest := []) ok_X10_nextToken ml_X10_181 so_51 rfl rfl rfl (Nat.le_of_ble_eq_true rfl) (fun _ => rfl) dX10_not_95 (Con.mono h (fun _ M8 _ _ h => ?_))
        refine m_aload_n C 2 dX10_not_98 rfl rfl ?_
        refine m_callVi C (as := []) (rest := []) ok_X10_added ml_X10_231 so_51 rfl rfl rfl (Nat.le_of_ble_eq_true rfl) (fun _ => rfl) dX10_not_99 (Con.mono h (fun r9 M10 _ _ h => ?_))
        refine m_istore_n C (L' := [(3, vI r9), (2, vI 0), (1, vI r3), (0, vR 51)]) dX10_not_102 rfl (by rw [hnL]; decide) rfl ?_
        refine m_iload_n C 1 dX10_not_103 rfl rfl ?_
        refine m_if_eq C (tgt := 115) dX10_not_104 (by decide) (fun e => ?_) (fun e => ?_)
        · have h := h.1 e
          refine m_iload_n C 2 dX10_not_115 rfl rfl ?_
          refine m_iload_n C 0 dX10_not_116 rfl rfl ?_
          refine m_icmp_ne C (tgt := 124) dX10_not_117 (by decide) (fun e => ?_) (fun e => ?_)
          · have h := h.2 e
            refine m_iconst C dX10_not_124 (r32_of rfl) ?_
            exact m_iret C E (Or.inl rfl) dX10_not_125 h
          · have h := h.1 e
            refine m_iconst C dX10_not_120 (r32_of rfl) ?_
            refine m_goto C (tgt := 125) dX10_not_121 (by decide) ?_
            exact m_iret C E (Or.inl rfl) dX10_not_125 h
        · have h := h.2 e
          refine m_iload_n C 2 dX10_not_107 rfl rfl ?_
          refine m_iload_n C 0 dX10_not_108 rfl rfl ?_
          refine m_icmp_ge C (tgt := 124) dX10_not_109 (by decide) (fun e => ?_) (fun e => ?_)
          · have h := h.1 e
            refine m_iconst C dX10_not_124 (r32_of rfl) ?_
            exact m_iret C E (Or.inl rfl) dX10_not_125 h
          · have h := h.2 e
            refine m_goto C (tgt := 120) dX10_not_112 (by decide) ?_
            refine m_iconst C dX10_not_120 (r32_of rfl) ?_
            refine m_goto C (tgt := 125) dX10_not_121 (by decide) ?_
            exact m_iret C E (Or.inl rfl) dX10_not_125 h
      · have h := h.1 e
        refine m_iconst C dX10_not_88 (r32_of rfl) ?_
        refine m_goto C (tgt := 93) dX10_not_89 (by decide) ?_
        refine m_istore_n C (L' := [(2, vI 1), (1, vI r3), (0, vR 51)]) dX10_not_93 rfl (by rw [hnL]; decide) rfl ?_
        refine m_aload_n C 2 dX10_not_94 rfl rfl ?_
        refine m_callVv C (as := []) (rest := []) ok_X10_nextToken ml_X10_181 so_51 rfl rfl rfl (Nat.le_of_ble_eq_true rfl) (fun _ => rfl) dX10_not_95 (Con.mono h (fun _ M12 _ _ h => ?_))
        refine m_aload_n C 2 dX10_not_98 rfl rfl ?_
        refine m_callVi C (as := []) (rest := []) ok_X10_added ml_X10_231 so_51 rfl rfl rfl (Nat.le_of_ble_eq_true rfl) (fun _ => rfl) dX10_not_99 (Con.mono h (fun r13 M14 _ _ h => ?_))
        refine m_istore_n C (L' := [(3, vI r13), (2, vI 1), (1, vI r3), (0, vR 51)]) dX10_not_102 rfl (by rw [hnL]; decide) rfl ?_
        refine m_iload_n C 1 dX10_not_103 rfl rfl ?_
        refine m_if_eq C (tgt := 115) dX10_not_104 (by decide) (fun e => ?_) (fun e => ?_)
        · have h := h.1 e
          refine m_iload_n C 2 dX10_not_115 rfl rfl ?_
          refine m_iload_n C 0 dX10_not_116 rfl rfl ?_
          refine m_icmp_ne C (tgt := 124) dX10_not_117 (by decide) (fun e => ?_) (fun e => ?_)
          · have h := h.2 e
            refine m_iconst C dX10_not_124 (r32_of rfl) ?_
            exact m_iret C E (Or.inl rfl) dX10_not_125 h
          · have h := h.1 e
            refine m_iconst C dX10_not_120 (r32_of rfl) ?_
            refine m_goto C (tgt := 125) dX10_not_121 (by decide) ?_
            exact m_iret C E (Or.inl rfl) dX10_not_125 h
        · have h := h.2 e
          refine m_iload_n C 2 dX10_not_107 rfl rfl ?_
          refine m_iload_n C 0 dX10_not_108 rfl rfl ?_
          refine m_icmp_ge C (tgt := 124) dX10_not_109 (by decide) (fun e => ?_) (fun e => ?_)
          · have h := h.1 e
            refine m_iconst C dX10_not_124 (r32_of rfl) ?_
            exact m_iret C E (Or.inl rfl) dX10_not_125 h
          · have h := h.2 e
            refine m_goto C (tgt := 120) dX10_not_112 (by decide) ?_
            refine m_iconst C dX10_not_120 (r32_of rfl) ?_
            refine m_goto C (tgt := 125) dX10_not_121 (by decide) ?_
            exact m_iret C E (Or.inl rfl) dX10_not_125 h
    · have h := h.1 e
      refine m_aload_n C 1 dX10_not_66 rfl rfl ?_
      refine m_bipush C dX10_not_67 (r32_of rfl) (by decide) ?_
      refine m_callVi C (as := [vI 61]) (rest := []) ok_X10_isSign ml_X10_206 so_51 rfl rfl rfl (Nat.le_of_ble_eq_true rfl) (fun _ => rfl) dX10_not_69 (Con.mono h (fun r15 M16 _ _ h => ?_))
      refine m_if_ne C (tgt := 77) dX10_not_72 (by decide) (fun e => ?_) (fun e => ?_)
      · have h := h.2 e
        refine m_aload_n C 1 dX10_not_77 rfl rfl ?_
        refine m_getL C (k := 26) cl_X10 (by decide) so_51 rfl fl_X10_158 dX10_not_78 ?_
        refine m_ldc2 C (v := 60) dX10_not_81 kc_X10_234 (r64_of rfl) ?_
        refine m_lcmp C dX10_not_84 ?_
        refine m_if_ne C (tgt := 92) dX10_not_85 (by decide) (fun e => ?_) (fun e => ?_)
        · have h := h.2 e
          refine m_iconst C dX10_not_92 (r32_of rfl) ?_
          refine m_istore_n C (L' := [(2, vI 0), (1, vI r3), (0, vR 51)]) dX10_not_93 rfl (by rw [hnL]; decide) rfl ?_
          refine m_aload_n C 2 dX10_not_94 rfl rfl ?_
          refine m_callVv C (as := []) (rest := []) ok_X10_nextToken ml_X10_181 so_51 rfl rfl rfl (Nat.le_of_ble_eq_true rfl) (fun _ => rfl) dX10_not_95 (Con.mono h (fun _ M18 _ _ h => ?_))
          refine m_aload_n C 2 dX10_not_98 rfl rfl ?_
          refine m_callVi C (as := []) (rest := []) ok_X10_added ml_X10_231 so_51 rfl rfl rfl (Nat.le_of_ble_eq_true rfl) (fun _ => rfl) dX10_not_99 (Con.mono h (fun r19 M20 _ _ h => ?_))
          refine m_istore_n C (L' := [(3, vI r19), (2, vI 0), (1, vI r3), (0, vR 51)]) dX10_not_102 rfl (by rw [hnL]; decide) rfl ?_
          refine m_iload_n C 1 dX10_not_103 rfl rfl ?_
          refine m_if_eq C (tgt := 115) dX10_not_104 (by decide) (fun e => ?_) (fun e => ?_)
          · have h := h.1 e
            refine m_iload_n C 2 dX10_not_115 rfl rfl ?_
            refine m_iload_n C 0 dX10_not_116 rfl rfl ?_
            refine m_icmp_ne C (tgt := 124) dX10_not_117 (by decide) (fun e => ?_) (fun e => ?_)
            · have h := h.2 e
              refine m_iconst C dX10_not_124 (r32_of rfl) ?_
              exact m_iret C E (Or.inl rfl) dX10_not_125 h
            · have h := h.1 e
              refine m_iconst C dX10_not_120 (r32_of rfl) ?_
              refine m_goto C (tgt := 125) dX10_not_121 (by decide) ?_
              exact m_iret C E (Or.inl rfl) dX10_not_125 h
          · have h := h.2 e
            refine m_iload_n C 2 dX10_not_107 rfl rfl ?_
            refine m_iload_n C 0 dX10_not_108 rfl rfl ?_
            refine m_icmp_ge C (tgt := 124) dX10_not_109 (by decide) (fun e => ?_) (fun e => ?_)
            · have h := h.1 e
              refine m_iconst C dX10_not_124 (r32_of rfl) ?_
              exact m_iret C E (Or.inl rfl) dX10_not_125 h
            · have h := h.2 e
              refine m_goto C (tgt := 120) dX10_not_112 (by decide) ?_
              refine m_iconst C dX10_not_120 (r32_of rfl) ?_
              refine m_goto C (tgt := 125) dX10_not_121 (by decide) ?_
              exact m_iret C E (Or.inl rfl) dX10_not_125 h
        · have h := h.1 e
          refine m_iconst C dX10_not_88 (r32_of rfl) ?_
          refine m_goto C (tgt := 93) dX10_not_89 (by decide) ?_
          refine m_istore_n C (L' := [(2, vI 1), (1, vI r3), (0, vR 51)]) dX10_not_93 rfl (by rw [hnL]; decide) rfl ?_
          refine m_aload_n C 2 dX10_not_94 rfl rfl ?_
          refine m_callVv C (as := []) (rest := []) ok_X10_nextToken ml_X10_181 so_51 rfl rfl rfl (Nat.le_of_ble_eq_true rfl) (fun _ => rfl) dX10_not_95 (Con.mono h (fun _ M22 _ _ h => ?_))
          refine m_aload_n C 2 dX10_not_98 rfl rfl ?_
          refine m_callVi C (as := []) (rest := []) ok_X10_added ml_X10_231 so_51 rfl rfl rfl (Nat.le_of_ble_eq_true rfl) (fun _ => rfl) dX10_not_99 (Con.mono h (fun r23 M24 _ _ h => ?_))
          refine m_istore_n C (L' := [(3, vI r23), (2, vI 1), (1, vI r3), (0, vR 51)]) dX10_not_102 rfl (by rw [hnL]; decide) rfl ?_
          refine m_iload_n C 1 dX10_not_103 rfl rfl ?_
          refine m_if_eq C (tgt := 115) dX10_not_104 (by decide) (fun e => ?_) (fun e => ?_)
          · have h := h.1 e
            refine m_iload_n C 2 dX10_not_115 rfl rfl ?_
            refine m_iload_n C 0 dX10_not_116 rfl rfl ?_
            refine m_icmp_ne C (tgt := 124) dX10_not_117 (by decide) (fun e => ?_) (fun e => ?_)
            · have h := h.2 e
              refine m_iconst C dX10_not_124 (r32_of rfl) ?_
              exact m_iret C E (Or.inl rfl) dX10_not_125 h
            · have h := h.1 e
              refine m_iconst C dX10_not_120 (r32_of rfl) ?_
              refine m_goto C (tgt := 125) dX10_not_121 (by decide) ?_
              exact m_iret C E (Or.inl rfl) dX10_not_125 h
          · have h := h.2 e
            refine m_iload_n C 2 dX10_not_107 rfl rfl ?_
            refine m_iload_n C 0 dX10_not_108 rfl rfl ?_
            refine m_icmp_ge C (tgt := 124) dX10_not_109 (by decide) (fun e => ?_) (fun e => ?_)
            · have h := h.1 e
              refine m_iconst C dX10_not_124 (r32_of rfl) ?_
              exact m_iret C E (Or.inl rfl) dX10_not_125 h
            · have h := h.2 e
              refine m_goto C (tgt := 120) dX10_not_112 (by decide) ?_
              refine m_iconst C dX10_not_120 (r32_of rfl) ?_
              refine m_goto C (tgt := 125) dX10_not_121 (by decide) ?_
              exact m_iret C E (Or.inl rfl) dX10_not_125 h
      · have h := h.1 e
        refine m_iload_n C 0 dX10_not_75 rfl rfl ?_
        exact m_iret C E (Or.inl rfl) dX10_not_76 h
  · have h := h.2 e
    refine m_aload_n C 0 dX10_not_18 rfl rfl ?_
    refine m_callVi C (as := []) (rest := []) ok_X10_opens ml_X10_209 so_51 rfl rfl rfl (Nat.le_of_ble_eq_true rfl) (fun _ => rfl) dX10_not_19 (Con.mono h (fun r25 M26 _ _ h => ?_))
    refine m_if_ne C (tgt := 27) dX10_not_22 (by decide) (fun e => ?_) (fun e => ?_)
    · have h := h.2 e
      refine m_aload_n C 0 dX10_not_27 rfl rfl ?_
      refine m_callVi C (as := []) (rest := []) ok_X10_not ml_X10_228 so_51 rfl rfl rfl (Nat.le_of_ble_eq_true rfl) (fun _ => rfl) dX10_not_28 (Con.mono h (fun r27 M28 _ _ h => ?_))
      refine m_istore_n C (L' := [(1, vI r27), (0, vR 51)]) dX10_not_31 rfl (by rw [hnL]; decide) rfl ?_
      refine m_aload_n C 1 dX10_not_32 rfl rfl ?_
      refine m_dupR C dX10_not_33 ?_
      refine m_getI C (k := 27) cl_X10 (by decide) so_51 rfl fl_X10_175 dX10_not_34 ?_
      refine m_iconst C dX10_not_37 (r32_of rfl) ?_
      refine m_isub C dX10_not_38 ?_
      refine m_putI C (k := 27) cl_X10 (by decide) so_51 rfl rfl rfl fl_X10_175 dX10_not_39 ?_
      generalize eM29 : up M28 51 27 (w32 ((M28 51 27) - 1)) = M29
      have h := h M29 eM29.symm
      refine m_iload_n C 0 dX10_not_42 rfl rfl ?_
      refine m_if_ne C (tgt := 50) dX10_not_43 (by decide) (fun e => ?_) (fun e => ?_)
      · have h := h.2 e
        refine m_iconst C dX10_not_50 (r32_of rfl) ?_
        exact m_iret C E (Or.inl rfl) dX10_not_51 h
      · have h := h.1 e
        refine m_iconst C dX10_not_46 (r32_of rfl) ?_
        refine m_goto C (tgt := 51) dX10_not_47 (by decide) ?_
        exact m_iret C E (Or.inl rfl) dX10_not_51 h
    · have h := h.1 e
      refine m_iconst C dX10_not_25 (r32_of rfl) ?_
      exact m_iret C E (Or.inl rfl) dX10_not_26 h
def B_X10_both_5 (n : Nat)  (x1 : Int) (M : Mem) (Q : Int → Mem → Prop) (K5 : Int → Mem → Prop) : Prop :=
  Con n md_X10_isWord [vR 51, vI 97, vI 110, vI 100, vI 0, vI 0, vI 0, vI 0, vI 0] M (fun r1 M2 =>
  ((r1 = 0 →
  Q x1 M2) ∧ (¬ r1 = 0 →
  Con n md_X10_nextToken [vR 51] M2 (fun _ M4 =>
    Con n md_X10_not [vR 51] M4 (fun r5 M6 =>
    ((x1 = 0 →
    K5 0 M6) ∧ (¬ x1 = 0 →
    ((r5 = 0 →
      K5 0 M6) ∧ (¬ r5 = 0 →
      K5 1 M6)))))))))
def B_X10_both (n : Nat)  (M : Mem) (Q : Int → Mem → Prop) (K5 : Int → Mem → Prop) : Prop :=
  Con n md_X10_not [vR 51] M (fun r7 M8 =>
  K5 r7 M8)
set_option maxHeartbeats 4000000 in
set_option maxRecDepth 20000 in
theorem g_X10_both {n : Nat}  {M : Mem} {Q : Int → Mem → Prop}  (h : ∀ (K5 : Int → Mem → Prop), (∀ (x1 : Int) (M : Mem), B_X10_both_5 n  x1 M Q K5 → K5 x1 M) → B_X10_both n  M Q K5) : Con (n + 1) md_X10_both [vR 51] M Q := by
  refine Con.ofF (n := n + 1) (Nat.succ_pos n) pl_X10_both (Nat.le_of_ble_eq_true rfl) (fun X C E hnL => ?_)
  have C : Cx X cX10_both RX10 n := C
  show WM X 0 [(0, vR 51)] [] M
  have hb5 : ∀ (x1 : Int) (M : Mem), B_X10_both_5 n  x1 M Q (fun (x1 : Int) (M : Mem) => WM X 5 [(0, vR 51), (1, vI x1)] [] M) → WM X 5 [(0, vR 51), (1, vI x1)] [] M := by
    intro x1 M h
    unfold B_X10_both_5 at h
    refine m_aload_n C 0 dX10_both_5 rfl rfl ?_
    refine m_bipush C dX10_both_6 (r32_of rfl) (by decide) ?_
    refine m_bipush C dX10_both_8 (r32_of rfl) (by decide) ?_
    refine m_bipush C dX10_both_10 (r32_of rfl) (by decide) ?_
    refine m_iconst C dX10_both_12 (r32_of rfl) ?_
    refine m_iconst C dX10_both_13 (r32_of rfl) ?_
    refine m_iconst C dX10_both_14 (r32_of rfl) ?_
    refine m_iconst C dX10_both_15 (r32_of rfl) ?_
    refine m_iconst C dX10_both_16 (r32_of rfl) ?_
    refine m_callVi C (as := [vI 97, vI 110, vI 100, vI 0, vI 0, vI 0, vI 0, vI 0]) (rest := []) ok_X10_isWord ml_X10_184 so_51 rfl rfl rfl (Nat.le_of_ble_eq_true rfl) (fun _ => rfl) dX10_both_17 (Con.mono h (fun r1 M2 _ _ h => ?_))
    refine m_if_eq C (tgt := 49) dX10_both_20 (by decide) (fun e => ?_) (fun e => ?_)
    · have h := h.1 e
      refine m_iload_n C 1 dX10_both_49 rfl rfl ?_
      exact m_iret C E (Or.inl rfl) dX10_both_50 h
    · have h := h.2 e
      refine m_aload_n C 0 dX10_both_23 rfl rfl ?_
      refine m_callVv C (as := []) (rest := []) ok_X10_nextToken ml_X10_181 so_51 rfl rfl rfl (Nat.le_of_ble_eq_true rfl) (fun _ => rfl) dX10_both_24 (Con.mono h (fun _ M4 _ _ h => ?_))
      refine m_aload_n C 0 dX10_both_27 rfl rfl ?_
      refine m_callVi C (as := []) (rest := []) ok_X10_not ml_X10_228 so_51 rfl rfl rfl (Nat.le_of_ble_eq_true rfl) (fun _ => rfl) dX10_both_28 (Con.mono h (fun r5 M6 _ _ h => ?_))
      refine m_istore_n C (L' := [(2, vI r5), (0, vR 51), (1, vI x1)]) dX10_both_31 rfl (by rw [hnL]; decide) rfl ?_
      refine m_iload_n C 2 dX10_both_32 rfl rfl ?_
      refine m_if_eq C (tgt := 44) dX10_both_33 (by decide) (fun e => ?_) (fun e => ?_)
      · have h := h.1 e
        refine m_iconst C dX10_both_44 (r32_of rfl) ?_
        refine m_istore_n C (L' := [(1, vI 0), (2, vI r5), (0, vR 51)]) dX10_both_45 rfl (by rw [hnL]; decide) rfl ?_
        refine m_goto C (tgt := 5) dX10_both_46 (by decide) ?_
        exact m_sub [2, 0] rfl h
      · have h := h.2 e
        refine m_iload_n C 0 dX10_both_36 rfl rfl ?_
        refine m_if_eq C (tgt := 44) dX10_both_37 (by decide) (fun e => ?_) (fun e => ?_)
        · have h := h.1 e
          refine m_iconst C dX10_both_44 (r32_of rfl) ?_
          refine m_istore_n C (L' := [(1, vI 0), (2, vI r5), (0, vR 51)]) dX10_both_45 rfl (by rw [hnL]; decide) rfl ?_
          refine m_goto C (tgt := 5) dX10_both_46 (by decide) ?_
          exact m_sub [2, 0] rfl h
        · have h := h.2 e
          refine m_iconst C dX10_both_40 (r32_of rfl) ?_
          refine m_goto C (tgt := 45) dX10_both_41 (by decide) ?_
          refine m_istore_n C (L' := [(1, vI 1), (2, vI r5), (0, vR 51)]) dX10_both_45 rfl (by rw [hnL]; decide) rfl ?_
          refine m_goto C (tgt := 5) dX10_both_46 (by decide) ?_
          exact m_sub [2, 0] rfl h
  have h := h (fun (x1 : Int) (M : Mem) => WM X 5 [(0, vR 51), (1, vI x1)] [] M) hb5
  unfold B_X10_both at h
  refine m_aload_n C 0 dX10_both_0 rfl rfl ?_
  refine m_callVi C (as := []) (rest := []) ok_X10_not ml_X10_228 so_51 rfl rfl rfl (Nat.le_of_ble_eq_true rfl) (fun _ => rfl) dX10_both_1 (Con.mono h (fun r7 M8 _ _ h => ?_))
  refine m_istore_n C (L' := [(1, vI r7), (0, vR 51)]) dX10_both_4 rfl (by rw [hnL]; decide) rfl ?_
  exact m_sub [1, 0] rfl h
def B_X10_either_5 (n : Nat)  (x1 : Int) (M : Mem) (Q : Int → Mem → Prop) (K5 : Int → Mem → Prop) : Prop :=
  Con n md_X10_isWord [vR 51, vI 111, vI 114, vI 0, vI 0, vI 0, vI 0, vI 0, vI 0] M (fun r1 M2 =>
  ((r1 = 0 →
  Q x1 M2) ∧ (¬ r1 = 0 →
  Con n md_X10_nextToken [vR 51] M2 (fun _ M4 =>
    Con n md_X10_both [vR 51] M4 (fun r5 M6 =>
    ((x1 = 0 →
    ((r5 = 0 →
      K5 0 M6) ∧ (¬ r5 = 0 →
      K5 1 M6))) ∧ (¬ x1 = 0 →
    K5 1 M6)))))))
def B_X10_either (n : Nat)  (M : Mem) (Q : Int → Mem → Prop) (K5 : Int → Mem → Prop) : Prop :=
  Con n md_X10_both [vR 51] M (fun r7 M8 =>
  K5 r7 M8)
set_option maxHeartbeats 4000000 in
set_option maxRecDepth 20000 in
theorem g_X10_either {n : Nat}  {M : Mem} {Q : Int → Mem → Prop}  (h : ∀ (K5 : Int → Mem → Prop), (∀ (x1 : Int) (M : Mem), B_X10_either_5 n  x1 M Q K5 → K5 x1 M) → B_X10_either n  M Q K5) : Con (n + 1) md_X10_either [vR 51] M Q := by
  refine Con.ofF (n := n + 1) (Nat.succ_pos n) pl_X10_either (Nat.le_of_ble_eq_true rfl) (fun X C E hnL => ?_)
  have C : Cx X cX10_either RX10 n := C
  show WM X 0 [(0, vR 51)] [] M
  have hb5 : ∀ (x1 : Int) (M : Mem), B_X10_either_5 n  x1 M Q (fun (x1 : Int) (M : Mem) => WM X 5 [(0, vR 51), (1, vI x1)] [] M) → WM X 5 [(0, vR 51), (1, vI x1)] [] M := by
    intro x1 M h
    unfold B_X10_either_5 at h
    refine m_aload_n C 0 dX10_either_5 rfl rfl ?_
    refine m_bipush C dX10_either_6 (r32_of rfl) (by decide) ?_
    refine m_bipush C dX10_either_8 (r32_of rfl) (by decide) ?_
    refine m_iconst C dX10_either_10 (r32_of rfl) ?_
    refine m_iconst C dX10_either_11 (r32_of rfl) ?_
    refine m_iconst C dX10_either_12 (r32_of rfl) ?_
    refine m_iconst C dX10_either_13 (r32_of rfl) ?_
    refine m_iconst C dX10_either_14 (r32_of rfl) ?_
    refine m_iconst C dX10_either_15 (r32_of rfl) ?_
    refine m_callVi C (as := [vI 111, vI 114, vI 0, vI 0, vI 0, vI 0, vI 0, vI 0]) (rest := []) ok_X10_isWord ml_X10_184 so_51 rfl rfl rfl (Nat.le_of_ble_eq_true rfl) (fun _ => rfl) dX10_either_16 (Con.mono h (fun r1 M2 _ _ h => ?_))
    refine m_if_eq C (tgt := 48) dX10_either_19 (by decide) (fun e => ?_) (fun e => ?_)
    · have h := h.1 e
      refine m_iload_n C 1 dX10_either_48 rfl rfl ?_
      exact m_iret C E (Or.inl rfl) dX10_either_49 h
    · have h := h.2 e
      refine m_aload_n C 0 dX10_either_22 rfl rfl ?_
      refine m_callVv C (as := []) (rest := []) ok_X10_nextToken ml_X10_181 so_51 rfl rfl rfl (Nat.le_of_ble_eq_true rfl) (fun _ => rfl) dX10_either_23 (Con.mono h (fun _ M4 _ _ h => ?_))
      refine m_aload_n C 0 dX10_either_26 rfl rfl ?_
      refine m_callVi C (as := []) (rest := []) ok_X10_both ml_X10_236 so_51 rfl rfl rfl (Nat.le_of_ble_eq_true rfl) (fun _ => rfl) dX10_either_27 (Con.mono h (fun r5 M6 _ _ h => ?_))
      refine m_istore_n C (L' := [(2, vI r5), (0, vR 51), (1, vI x1)]) dX10_either_30 rfl (by rw [hnL]; decide) rfl ?_
      refine m_iload_n C 2 dX10_either_31 rfl rfl ?_
      refine m_if_ne C (tgt := 39) dX10_either_32 (by decide) (fun e => ?_) (fun e => ?_)
      · have h := h.2 e
        refine m_iconst C dX10_either_39 (r32_of rfl) ?_
        refine m_goto C (tgt := 44) dX10_either_40 (by decide) ?_
        refine m_istore_n C (L' := [(1, vI 1), (2, vI r5), (0, vR 51)]) dX10_either_44 rfl (by rw [hnL]; decide) rfl ?_
        refine m_goto C (tgt := 5) dX10_either_45 (by decide) ?_
        exact m_sub [2, 0] rfl h
      · have h := h.1 e
        refine m_iload_n C 0 dX10_either_35 rfl rfl ?_
        refine m_if_eq C (tgt := 43) dX10_either_36 (by decide) (fun e => ?_) (fun e => ?_)
        · have h := h.1 e
          refine m_iconst C dX10_either_43 (r32_of rfl) ?_
          refine m_istore_n C (L' := [(1, vI 0), (2, vI r5), (0, vR 51)]) dX10_either_44 rfl (by rw [hnL]; decide) rfl ?_
          refine m_goto C (tgt := 5) dX10_either_45 (by decide) ?_
          exact m_sub [2, 0] rfl h
        · have h := h.2 e
          refine m_iconst C dX10_either_39 (r32_of rfl) ?_
          refine m_goto C (tgt := 44) dX10_either_40 (by decide) ?_
          refine m_istore_n C (L' := [(1, vI 1), (2, vI r5), (0, vR 51)]) dX10_either_44 rfl (by rw [hnL]; decide) rfl ?_
          refine m_goto C (tgt := 5) dX10_either_45 (by decide) ?_
          exact m_sub [2, 0] rfl h
  have h := h (fun (x1 : Int) (M : Mem) => WM X 5 [(0, vR 51), (1, vI x1)] [] M) hb5
  unfold B_X10_either at h
  refine m_aload_n C 0 dX10_either_0 rfl rfl ?_
  refine m_callVi C (as := []) (rest := []) ok_X10_both ml_X10_236 so_51 rfl rfl rfl (Nat.le_of_ble_eq_true rfl) (fun _ => rfl) dX10_either_1 (Con.mono h (fun r7 M8 _ _ h => ?_))
  refine m_istore_n C (L' := [(1, vI r7), (0, vR 51)]) dX10_either_4 rfl (by rw [hnL]; decide) rfl ?_
  exact m_sub [1, 0] rfl h
def B_X10_part (n : Nat) (a1 : Int) (M : Mem) (Q : Int → Mem → Prop)  : Prop :=
  ((a1 = 0 →
  Con n md_X10_fail [vR 51] M (fun _ M40 =>
    (((M40 51 28) = 0 →
    Con n md_X10_nextToken [vR 51] M40 (fun _ M60 =>
      (((M60 51 28) = 0 →
      Con n md_X10_either [vR 51] M60 (fun r61 M62 =>
        Con n md_X10_isSign [vR 51, vI 59] M62 (fun r63 M64 =>
        ((r63 = 0 →
        Con n md_X10_fail [vR 51] M64 (fun _ M68 =>
          (((M68 51 28) = 0 →
          Con n md_X10_nextToken [vR 51] M68 (fun _ M70 =>
            Q r61 M70)) ∧ (¬ (M68 51 28) = 0 →
          Q r61 M68)))) ∧ (¬ r63 = 0 →
        (((M64 51 28) = 0 →
          Con n md_X10_nextToken [vR 51] M64 (fun _ M66 =>
            Q r61 M66)) ∧ (¬ (M64 51 28) = 0 →
          Q r61 M64))))))) ∧ (¬ (M60 51 28) = 0 →
      Con n md_X10_isSign [vR 51, vI 59] M60 (fun r71 M72 =>
        ((r71 = 0 →
        Con n md_X10_fail [vR 51] M72 (fun _ M76 =>
          (((M76 51 28) = 0 →
          Con n md_X10_nextToken [vR 51] M76 (fun _ M78 =>
            Q 0 M78)) ∧ (¬ (M76 51 28) = 0 →
          Q 0 M76)))) ∧ (¬ r71 = 0 →
        (((M72 51 28) = 0 →
          Con n md_X10_nextToken [vR 51] M72 (fun _ M74 =>
            Q 0 M74)) ∧ (¬ (M72 51 28) = 0 →
          Q 0 M72))))))))) ∧ (¬ (M40 51 28) = 0 →
    (((M40 51 28) = 0 →
      Con n md_X10_either [vR 51] M40 (fun r41 M42 =>
        Con n md_X10_isSign [vR 51, vI 59] M42 (fun r43 M44 =>
        ((r43 = 0 →
        Con n md_X10_fail [vR 51] M44 (fun _ M48 =>
          (((M48 51 28) = 0 →
          Con n md_X10_nextToken [vR 51] M48 (fun _ M50 =>
            Q r41 M50)) ∧ (¬ (M48 51 28) = 0 →
          Q r41 M48)))) ∧ (¬ r43 = 0 →
        (((M44 51 28) = 0 →
          Con n md_X10_nextToken [vR 51] M44 (fun _ M46 =>
            Q r41 M46)) ∧ (¬ (M44 51 28) = 0 →
          Q r41 M44))))))) ∧ (¬ (M40 51 28) = 0 →
      Con n md_X10_isSign [vR 51, vI 59] M40 (fun r51 M52 =>
        ((r51 = 0 →
        Con n md_X10_fail [vR 51] M52 (fun _ M56 =>
          (((M56 51 28) = 0 →
          Con n md_X10_nextToken [vR 51] M56 (fun _ M58 =>
            Q 0 M58)) ∧ (¬ (M56 51 28) = 0 →
          Q 0 M56)))) ∧ (¬ r51 = 0 →
        (((M52 51 28) = 0 →
          Con n md_X10_nextToken [vR 51] M52 (fun _ M54 =>
            Q 0 M54)) ∧ (¬ (M52 51 28) = 0 →
          Q 0 M52))))))))))) ∧ (¬ a1 = 0 →
  (((M 51 28) = 0 →
    Con n md_X10_nextToken [vR 51] M (fun _ M20 =>
      (((M20 51 28) = 0 →
      Con n md_X10_either [vR 51] M20 (fun r21 M22 =>
        Con n md_X10_isSign [vR 51, vI 59] M22 (fun r23 M24 =>
        ((r23 = 0 →
        Con n md_X10_fail [vR 51] M24 (fun _ M28 =>
          (((M28 51 28) = 0 →
          Con n md_X10_nextToken [vR 51] M28 (fun _ M30 =>
            Q r21 M30)) ∧ (¬ (M28 51 28) = 0 →
          Q r21 M28)))) ∧ (¬ r23 = 0 →
        (((M24 51 28) = 0 →
          Con n md_X10_nextToken [vR 51] M24 (fun _ M26 =>
            Q r21 M26)) ∧ (¬ (M24 51 28) = 0 →
          Q r21 M24))))))) ∧ (¬ (M20 51 28) = 0 →
      Con n md_X10_isSign [vR 51, vI 59] M20 (fun r31 M32 =>
        ((r31 = 0 →
        Con n md_X10_fail [vR 51] M32 (fun _ M36 =>
          (((M36 51 28) = 0 →
          Con n md_X10_nextToken [vR 51] M36 (fun _ M38 =>
            Q 0 M38)) ∧ (¬ (M36 51 28) = 0 →
          Q 0 M36)))) ∧ (¬ r31 = 0 →
        (((M32 51 28) = 0 →
          Con n md_X10_nextToken [vR 51] M32 (fun _ M34 =>
            Q 0 M34)) ∧ (¬ (M32 51 28) = 0 →
          Q 0 M32))))))))) ∧ (¬ (M 51 28) = 0 →
    (((M 51 28) = 0 →
      Con n md_X10_either [vR 51] M (fun r1 M2 =>
        Con n md_X10_isSign [vR 51, vI 59] M2 (fun r3 M4 =>
        ((r3 = 0 →
        Con n md_X10_fail [vR 51] M4 (fun _ M8 =>
          (((M8 51 28) = 0 →
          Con n md_X10_nextToken [vR 51] M8 (fun _ M10 =>
            Q r1 M10)) ∧ (¬ (M8 51 28) = 0 →
          Q r1 M8)))) ∧ (¬ r3 = 0 →
        (((M4 51 28) = 0 →
          Con n md_X10_nextToken [vR 51] M4 (fun _ M6 =>
            Q r1 M6)) ∧ (¬ (M4 51 28) = 0 →
          Q r1 M4))))))) ∧ (¬ (M 51 28) = 0 →
      Con n md_X10_isSign [vR 51, vI 59] M (fun r11 M12 =>
        ((r11 = 0 →
        Con n md_X10_fail [vR 51] M12 (fun _ M16 =>
          (((M16 51 28) = 0 →
          Con n md_X10_nextToken [vR 51] M16 (fun _ M18 =>
            Q 0 M18)) ∧ (¬ (M16 51 28) = 0 →
          Q 0 M16)))) ∧ (¬ r11 = 0 →
        (((M12 51 28) = 0 →
          Con n md_X10_nextToken [vR 51] M12 (fun _ M14 =>
            Q 0 M14)) ∧ (¬ (M12 51 28) = 0 →
          Q 0 M12)))))))))))
set_option maxHeartbeats 4000000 in
set_option maxRecDepth 20000 in
theorem g_X10_part {n : Nat} {a1 : Int} {M : Mem} {Q : Int → Mem → Prop}  (h : B_X10_part n a1 M Q) : Con (n + 1) md_X10_part [vR 51, vI a1] M Q := by
  refine Con.ofF (n := n + 1) (Nat.succ_pos n) pl_X10_part (Nat.le_of_ble_eq_true rfl) (fun X C E hnL => ?_)
  have C : Cx X cX10_part RX10 n := C
  show WM X 0 [(0, vR 51), (1, vI a1)] [] M
  unfold B_X10_part at h
  refine m_iload_n C 1 dX10_part_0 rfl rfl ?_
  refine m_if_ne C (tgt := 8) dX10_part_1 (by decide) (fun e => ?_) (fun e => ?_)
  · have h := h.2 e
    refine m_aload_n C 0 dX10_part_8 rfl rfl ?_
    refine m_getZ C (k := 28) cl_X10 (by decide) so_51 rfl fl_X10_164 dX10_part_9 ?_
    refine m_if_ne C (tgt := 19) dX10_part_12 (by decide) (fun e => ?_) (fun e => ?_)
    · have h := h.2 e
      refine m_aload_n C 0 dX10_part_19 rfl rfl ?_
      refine m_getZ C (k := 28) cl_X10 (by decide) so_51 rfl fl_X10_164 dX10_part_20 ?_
      refine m_if_eq C (tgt := 30) dX10_part_23 (by decide) (fun e => ?_) (fun e => ?_)
      · have h := h.1 e
        refine m_aload_n C 0 dX10_part_30 rfl rfl ?_
        refine m_callVi C (as := []) (rest := []) ok_X10_either ml_X10_217 so_51 rfl rfl rfl (Nat.le_of_ble_eq_true rfl) (fun _ => rfl) dX10_part_31 (Con.mono h (fun r1 M2 _ _ h => ?_))
        refine m_istore_n C (L' := [(2, vI r1), (0, vR 51), (1, vI a1)]) dX10_part_34 rfl (by rw [hnL]; decide) rfl ?_
        refine m_aload_n C 1 dX10_part_35 rfl rfl ?_
        refine m_bipush C dX10_part_36 (r32_of rfl) (by decide) ?_
        refine m_callVi C (as := [vI 59]) (rest := []) ok_X10_isSign ml_X10_206 so_51 rfl rfl rfl (Nat.le_of_ble_eq_true rfl) (fun _ => rfl) dX10_part_38 (Con.mono h (fun r3 M4 _ _ h => ?_))
        refine m_if_ne C (tgt := 48) dX10_part_41 (by decide) (fun e => ?_) (fun e => ?_)
        · have h := h.2 e
          refine m_aload_n C 1 dX10_part_48 rfl rfl ?_
          refine m_getZ C (k := 28) cl_X10 (by decide) so_51 rfl fl_X10_164 dX10_part_49 ?_
          refine m_if_ne C (tgt := 59) dX10_part_52 (by decide) (fun e => ?_) (fun e => ?_)
          · have h := h.2 e
            refine m_iload_n C 0 dX10_part_59 rfl rfl ?_
            exact m_iret C E (Or.inl rfl) dX10_part_60 h
          · have h := h.1 e
            refine m_aload_n C 1 dX10_part_55 rfl rfl ?_
            refine m_callVv C (as := []) (rest := []) ok_X10_nextToken ml_X10_181 so_51 rfl rfl rfl (Nat.le_of_ble_eq_true rfl) (fun _ => rfl) dX10_part_56 (Con.mono h (fun _ M6 _ _ h => ?_))
            refine m_iload_n C 0 dX10_part_59 rfl rfl ?_
            exact m_iret C E (Or.inl rfl) dX10_part_60 h
        · have h := h.1 e
          refine m_aload_n C 1 dX10_part_44 rfl rfl ?_
          refine m_callVv C (as := []) (rest := []) ok_X10_fail ml_X10_178 so_51 rfl rfl rfl (Nat.le_of_ble_eq_true rfl) (fun _ => rfl) dX10_part_45 (Con.mono h (fun _ M8 _ _ h => ?_))
          refine m_aload_n C 1 dX10_part_48 rfl rfl ?_
          refine m_getZ C (k := 28) cl_X10 (by decide) so_51 rfl fl_X10_164 dX10_part_49 ?_
          refine m_if_ne C (tgt := 59) dX10_part_52 (by decide) (fun e => ?_) (fun e => ?_)
          · have h := h.2 e
            refine m_iload_n C 0 dX10_part_59 rfl rfl ?_
            exact m_iret C E (Or.inl rfl) dX10_part_60 h
          · have h := h.1 e
            refine m_aload_n C 1 dX10_part_55 rfl rfl ?_
            refine m_callVv C (as := []) (rest := []) ok_X10_nextToken ml_X10_181 so_51 rfl rfl rfl (Nat.le_of_ble_eq_true rfl) (fun _ => rfl) dX10_part_56 (Con.mono h (fun _ M10 _ _ h => ?_))
            refine m_iload_n C 0 dX10_part_59 rfl rfl ?_
            exact m_iret C E (Or.inl rfl) dX10_part_60 h
      · have h := h.2 e
        refine m_iconst C dX10_part_26 (r32_of rfl) ?_
        refine m_goto C (tgt := 34) dX10_part_27 (by decide) ?_
        refine m_istore_n C (L' := [(2, vI 0), (0, vR 51), (1, vI a1)]) dX10_part_34 rfl (by rw [hnL]; decide) rfl ?_
        refine m_aload_n C 1 dX10_part_35 rfl rfl ?_
        refine m_bipush C dX10_part_36 (r32_of rfl) (by decide) ?_
        refine m_callVi C (as := [vI 59]) (rest := []) ok_X10_isSign ml_X10_206 so_51 rfl rfl rfl (Nat.le_of_ble_eq_true rfl) (fun _ => rfl) dX10_part_38 (Con.mono h (fun r11 M12 _ _ h => ?_))
        refine m_if_ne C (tgt := 48) dX10_part_41 (by decide) (fun e => ?_) (fun e => ?_)
        · have h := h.2 e
          refine m_aload_n C 1 dX10_part_48 rfl rfl ?_
          refine m_getZ C (k := 28) cl_X10 (by decide) so_51 rfl fl_X10_164 dX10_part_49 ?_
          refine m_if_ne C (tgt := 59) dX10_part_52 (by decide) (fun e => ?_) (fun e => ?_)
          · have h := h.2 e
            refine m_iload_n C 0 dX10_part_59 rfl rfl ?_
            exact m_iret C E (Or.inl rfl) dX10_part_60 h
          · have h := h.1 e
            refine m_aload_n C 1 dX10_part_55 rfl rfl ?_
            refine m_callVv C (as := []) (rest := []) ok_X10_nextToken ml_X10_181 so_51 rfl rfl rfl (Nat.le_of_ble_eq_true rfl) (fun _ => rfl) dX10_part_56 (Con.mono h (fun _ M14 _ _ h => ?_))
            refine m_iload_n C 0 dX10_part_59 rfl rfl ?_
            exact m_iret C E (Or.inl rfl) dX10_part_60 h
        · have h := h.1 e
          refine m_aload_n C 1 dX10_part_44 rfl rfl ?_
          refine m_callVv C (as := []) (rest := []) ok_X10_fail ml_X10_178 so_51 rfl rfl rfl (Nat.le_of_ble_eq_true rfl) (fun _ => rfl) dX10_part_45 (Con.mono h (fun _ M16 _ _ h => ?_))
          refine m_aload_n C 1 dX10_part_48 rfl rfl ?_
          refine m_getZ C (k := 28) cl_X10 (by decide) so_51 rfl fl_X10_164 dX10_part_49 ?_
          refine m_if_ne C (tgt := 59) dX10_part_52 (by decide) (fun e => ?_) (fun e => ?_)
          · have h := h.2 e
            refine m_iload_n C 0 dX10_part_59 rfl rfl ?_
            exact m_iret C E (Or.inl rfl) dX10_part_60 h
          · have h := h.1 e
            refine m_aload_n C 1 dX10_part_55 rfl rfl ?_
            refine m_callVv C (as := []) (rest := []) ok_X10_nextToken ml_X10_181 so_51 rfl rfl rfl (Nat.le_of_ble_eq_true rfl) (fun _ => rfl) dX10_part_56 (Con.mono h (fun _ M18 _ _ h => ?_))
            refine m_iload_n C 0 dX10_part_59 rfl rfl ?_
            exact m_iret C E (Or.inl rfl) dX10_part_60 h
    · have h := h.1 e
      refine m_aload_n C 0 dX10_part_15 rfl rfl ?_
      refine m_callVv C (as := []) (rest := []) ok_X10_nextToken ml_X10_181 so_51 rfl rfl rfl (Nat.le_of_ble_eq_true rfl) (fun _ => rfl) dX10_part_16 (Con.mono h (fun _ M20 _ _ h => ?_))
      refine m_aload_n C 0 dX10_part_19 rfl rfl ?_
      refine m_getZ C (k := 28) cl_X10 (by decide) so_51 rfl fl_X10_164 dX10_part_20 ?_
      refine m_if_eq C (tgt := 30) dX10_part_23 (by decide) (fun e => ?_) (fun e => ?_)
      · have h := h.1 e
        refine m_aload_n C 0 dX10_part_30 rfl rfl ?_
        refine m_callVi C (as := []) (rest := []) ok_X10_either ml_X10_217 so_51 rfl rfl rfl (Nat.le_of_ble_eq_true rfl) (fun _ => rfl) dX10_part_31 (Con.mono h (fun r21 M22 _ _ h => ?_))
        refine m_istore_n C (L' := [(2, vI r21), (0, vR 51), (1, vI a1)]) dX10_part_34 rfl (by rw [hnL]; decide) rfl ?_
        refine m_aload_n C 1 dX10_part_35 rfl rfl ?_
        refine m_bipush C dX10_part_36 (r32_of rfl) (by decide) ?_
        refine m_callVi C (as := [vI 59]) (rest := []) ok_X10_isSign ml_X10_206 so_51 rfl rfl rfl (Nat.le_of_ble_eq_true rfl) (fun _ => rfl) dX10_part_38 (Con.mono h (fun r23 M24 _ _ h => ?_))
        refine m_if_ne C (tgt := 48) dX10_part_41 (by decide) (fun e => ?_) (fun e => ?_)
        · have h := h.2 e
          refine m_aload_n C 1 dX10_part_48 rfl rfl ?_
          refine m_getZ C (k := 28) cl_X10 (by decide) so_51 rfl fl_X10_164 dX10_part_49 ?_
          refine m_if_ne C (tgt := 59) dX10_part_52 (by decide) (fun e => ?_) (fun e => ?_)
          · have h := h.2 e
            refine m_iload_n C 0 dX10_part_59 rfl rfl ?_
            exact m_iret C E (Or.inl rfl) dX10_part_60 h
          · have h := h.1 e
            refine m_aload_n C 1 dX10_part_55 rfl rfl ?_
            refine m_callVv C (as := []) (rest := []) ok_X10_nextToken ml_X10_181 so_51 rfl rfl rfl (Nat.le_of_ble_eq_true rfl) (fun _ => rfl) dX10_part_56 (Con.mono h (fun _ M26 _ _ h => ?_))
            refine m_iload_n C 0 dX10_part_59 rfl rfl ?_
            exact m_iret C E (Or.inl rfl) dX10_part_60 h
        · have h := h.1 e
          refine m_aload_n C 1 dX10_part_44 rfl rfl ?_
          refine m_callVv C (as := []) (rest := []) ok_X10_fail ml_X10_178 so_51 rfl rfl rfl (Nat.le_of_ble_eq_true rfl) (fun _ => rfl) dX10_part_45 (Con.mono h (fun _ M28 _ _ h => ?_))
          refine m_aload_n C 1 dX10_part_48 rfl rfl ?_
          refine m_getZ C (k := 28) cl_X10 (by decide) so_51 rfl fl_X10_164 dX10_part_49 ?_
          refine m_if_ne C (tgt := 59) dX10_part_52 (by decide) (fun e => ?_) (fun e => ?_)
          · have h := h.2 e
            refine m_iload_n C 0 dX10_part_59 rfl rfl ?_
            exact m_iret C E (Or.inl rfl) dX10_part_60 h
          · have h := h.1 e
            refine m_aload_n C 1 dX10_part_55 rfl rfl ?_
            refine m_callVv C (as := []) (rest := []) ok_X10_nextToken ml_X10_181 so_51 rfl rfl rfl (Nat.le_of_ble_eq_true rfl) (fun _ => rfl) dX10_part_56 (Con.mono h (fun _ M30 _ _ h => ?_))
            refine m_iload_n C 0 dX10_part_59 rfl rfl ?_
            exact m_iret C E (Or.inl rfl) dX10_part_60 h
      · have h := h.2 e
        refine m_iconst C dX10_part_26 (r32_of rfl) ?_
        refine m_goto C (tgt := 34) dX10_part_27 (by decide) ?_
        refine m_istore_n C (L' := [(2, vI 0), (0, vR 51), (1, vI a1)]) dX10_part_34 rfl (by rw [hnL]; decide) rfl ?_
        refine m_aload_n C 1 dX10_part_35 rfl rfl ?_
        refine m_bipush C dX10_part_36 (r32_of rfl) (by decide) ?_
        refine m_callVi C (as := [vI 59]) (rest := []) ok_X10_isSign ml_X10_206 so_51 rfl rfl rfl (Nat.le_of_ble_eq_true rfl) (fun _ => rfl) dX10_part_38 (Con.mono h (fun r31 M32 _ _ h => ?_))
        refine m_if_ne C (tgt := 48) dX10_part_41 (by decide) (fun e => ?_) (fun e => ?_)
        · have h := h.2 e
          refine m_aload_n C 1 dX10_part_48 rfl rfl ?_
          refine m_getZ C (k := 28) cl_X10 (by decide) so_51 rfl fl_X10_164 dX10_part_49 ?_
          refine m_if_ne C (tgt := 59) dX10_part_52 (by decide) (fun e => ?_) (fun e => ?_)
          · have h := h.2 e
            refine m_iload_n C 0 dX10_part_59 rfl rfl ?_
            exact m_iret C E (Or.inl rfl) dX10_part_60 h
          · have h := h.1 e
            refine m_aload_n C 1 dX10_part_55 rfl rfl ?_
            refine m_callVv C (as := []) (rest := []) ok_X10_nextToken ml_X10_181 so_51 rfl rfl rfl (Nat.le_of_ble_eq_true rfl) (fun _ => rfl) dX10_part_56 (Con.mono h (fun _ M34 _ _ h => ?_))
            refine m_iload_n C 0 dX10_part_59 rfl rfl ?_
            exact m_iret C E (Or.inl rfl) dX10_part_60 h
        · have h := h.1 e
          refine m_aload_n C 1 dX10_part_44 rfl rfl ?_
          refine m_callVv C (as := []) (rest := []) ok_X10_fail ml_X10_178 so_51 rfl rfl rfl (Nat.le_of_ble_eq_true rfl) (fun _ => rfl) dX10_part_45 (Con.mono h (fun _ M36 _ _ h => ?_))
          refine m_aload_n C 1 dX10_part_48 rfl rfl ?_
          refine m_getZ C (k := 28) cl_X10 (by decide) so_51 rfl fl_X10_164 dX10_part_49 ?_
          refine m_if_ne C (tgt := 59) dX10_part_52 (by decide) (fun e => ?_) (fun e => ?_)
          · have h := h.2 e
            refine m_iload_n C 0 dX10_part_59 rfl rfl ?_
            exact m_iret C E (Or.inl rfl) dX10_part_60 h
          · have h := h.1 e
            refine m_aload_n C 1 dX10_part_55 rfl rfl ?_
            refine m_callVv C (as := []) (rest := []) ok_X10_nextToken ml_X10_181 so_51 rfl rfl rfl (Nat.le_of_ble_eq_true rfl) (fun _ => rfl) dX10_part_56 (Con.mono h (fun _ M38 _ _ h => ?_))
            refine m_iload_n C 0 dX10_part_59 rfl rfl ?_
            exact m_iret C E (Or.inl rfl) dX10_part_60 h
  · have h := h.1 e
    refine m_aload_n C 0 dX10_part_4 rfl rfl ?_
    refine m_callVv C (as := []) (rest := []) ok_X10_fail ml_X10_178 so_51 rfl rfl rfl (Nat.le_of_ble_eq_true rfl) (fun _ => rfl) dX10_part_5 (Con.mono h (fun _ M40 _ _ h => ?_))
    refine m_aload_n C 0 dX10_part_8 rfl rfl ?_
    refine m_getZ C (k := 28) cl_X10 (by decide) so_51 rfl fl_X10_164 dX10_part_9 ?_
    refine m_if_ne C (tgt := 19) dX10_part_12 (by decide) (fun e => ?_) (fun e => ?_)
    · have h := h.2 e
      refine m_aload_n C 0 dX10_part_19 rfl rfl ?_
      refine m_getZ C (k := 28) cl_X10 (by decide) so_51 rfl fl_X10_164 dX10_part_20 ?_
      refine m_if_eq C (tgt := 30) dX10_part_23 (by decide) (fun e => ?_) (fun e => ?_)
      · have h := h.1 e
        refine m_aload_n C 0 dX10_part_30 rfl rfl ?_
        refine m_callVi C (as := []) (rest := []) ok_X10_either ml_X10_217 so_51 rfl rfl rfl (Nat.le_of_ble_eq_true rfl) (fun _ => rfl) dX10_part_31 (Con.mono h (fun r41 M42 _ _ h => ?_))
        refine m_istore_n C (L' := [(2, vI r41), (0, vR 51), (1, vI a1)]) dX10_part_34 rfl (by rw [hnL]; decide) rfl ?_
        refine m_aload_n C 1 dX10_part_35 rfl rfl ?_
        refine m_bipush C dX10_part_36 (r32_of rfl) (by decide) ?_
        refine m_callVi C (as := [vI 59]) (rest := []) ok_X10_isSign ml_X10_206 so_51 rfl rfl rfl (Nat.le_of_ble_eq_true rfl) (fun _ => rfl) dX10_part_38 (Con.mono h (fun r43 M44 _ _ h => ?_))
        refine m_if_ne C (tgt := 48) dX10_part_41 (by decide) (fun e => ?_) (fun e => ?_)
        · have h := h.2 e
          refine m_aload_n C 1 dX10_part_48 rfl rfl ?_
          refine m_getZ C (k := 28) cl_X10 (by decide) so_51 rfl fl_X10_164 dX10_part_49 ?_
          refine m_if_ne C (tgt := 59) dX10_part_52 (by decide) (fun e => ?_) (fun e => ?_)
          · have h := h.2 e
            refine m_iload_n C 0 dX10_part_59 rfl rfl ?_
            exact m_iret C E (Or.inl rfl) dX10_part_60 h
          · have h := h.1 e
            refine m_aload_n C 1 dX10_part_55 rfl rfl ?_
            refine m_callVv C (as := []) (rest := []) ok_X10_nextToken ml_X10_181 so_51 rfl rfl rfl (Nat.le_of_ble_eq_true rfl) (fun _ => rfl) dX10_part_56 (Con.mono h (fun _ M46 _ _ h => ?_))
            refine m_iload_n C 0 dX10_part_59 rfl rfl ?_
            exact m_iret C E (Or.inl rfl) dX10_part_60 h
        · have h := h.1 e
          refine m_aload_n C 1 dX10_part_44 rfl rfl ?_
          refine m_callVv C (as := []) (rest := []) ok_X10_fail ml_X10_178 so_51 rfl rfl rfl (Nat.le_of_ble_eq_true rfl) (fun _ => rfl) dX10_part_45 (Con.mono h (fun _ M48 _ _ h => ?_))
          refine m_aload_n C 1 dX10_part_48 rfl rfl ?_
          refine m_getZ C (k := 28) cl_X10 (by decide) so_51 rfl fl_X10_164 dX10_part_49 ?_
          refine m_if_ne C (tgt := 59) dX10_part_52 (by decide) (fun e => ?_) (fun e => ?_)
          · have h := h.2 e
            refine m_iload_n C 0 dX10_part_59 rfl rfl ?_
            exact m_iret C E (Or.inl rfl) dX10_part_60 h
          · have h := h.1 e
            refine m_aload_n C 1 dX10_part_55 rfl rfl ?_
            refine m_callVv C (as := []) (rest := []) ok_X10_nextToken ml_X10_181 so_51 rfl rfl rfl (Nat.le_of_ble_eq_true rfl) (fun _ => rfl) dX10_part_56 (Con.mono h (fun _ M50 _ _ h => ?_))
            refine m_iload_n C 0 dX10_part_59 rfl rfl ?_
            exact m_iret C E (Or.inl rfl) dX10_part_60 h
      · have h := h.2 e
        refine m_iconst C dX10_part_26 (r32_of rfl) ?_
        refine m_goto C (tgt := 34) dX10_part_27 (by decide) ?_
        refine m_istore_n C (L' := [(2, vI 0), (0, vR 51), (1, vI a1)]) dX10_part_34 rfl (by rw [hnL]; decide) rfl ?_
        refine m_aload_n C 1 dX10_part_35 rfl rfl ?_
        refine m_bipush C dX10_part_36 (r32_of rfl) (by decide) ?_
        refine m_callVi C (as := [vI 59]) (rest := []) ok_X10_isSign ml_X10_206 so_51 rfl rfl rfl (Nat.le_of_ble_eq_true rfl) (fun _ => rfl) dX10_part_38 (Con.mono h (fun r51 M52 _ _ h => ?_))
        refine m_if_ne C (tgt := 48) dX10_part_41 (by decide) (fun e => ?_) (fun e => ?_)
        · have h := h.2 e
          refine m_aload_n C 1 dX10_part_48 rfl rfl ?_
          refine m_getZ C (k := 28) cl_X10 (by decide) so_51 rfl fl_X10_164 dX10_part_49 ?_
          refine m_if_ne C (tgt := 59) dX10_part_52 (by decide) (fun e => ?_) (fun e => ?_)
          · have h := h.2 e
            refine m_iload_n C 0 dX10_part_59 rfl rfl ?_
            exact m_iret C E (Or.inl rfl) dX10_part_60 h
          · have h := h.1 e
            refine m_aload_n C 1 dX10_part_55 rfl rfl ?_
            refine m_callVv C (as := []) (rest := []) ok_X10_nextToken ml_X10_181 so_51 rfl rfl rfl (Nat.le_of_ble_eq_true rfl) (fun _ => rfl) dX10_part_56 (Con.mono h (fun _ M54 _ _ h => ?_))
            refine m_iload_n C 0 dX10_part_59 rfl rfl ?_
            exact m_iret C E (Or.inl rfl) dX10_part_60 h
        · have h := h.1 e
          refine m_aload_n C 1 dX10_part_44 rfl rfl ?_
          refine m_callVv C (as := []) (rest := []) ok_X10_fail ml_X10_178 so_51 rfl rfl rfl (Nat.le_of_ble_eq_true rfl) (fun _ => rfl) dX10_part_45 (Con.mono h (fun _ M56 _ _ h => ?_))
          refine m_aload_n C 1 dX10_part_48 rfl rfl ?_
          refine m_getZ C (k := 28) cl_X10 (by decide) so_51 rfl fl_X10_164 dX10_part_49 ?_
          refine m_if_ne C (tgt := 59) dX10_part_52 (by decide) (fun e => ?_) (fun e => ?_)
          · have h := h.2 e
            refine m_iload_n C 0 dX10_part_59 rfl rfl ?_
            exact m_iret C E (Or.inl rfl) dX10_part_60 h
          · have h := h.1 e
            refine m_aload_n C 1 dX10_part_55 rfl rfl ?_
            refine m_callVv C (as := []) (rest := []) ok_X10_nextToken ml_X10_181 so_51 rfl rfl rfl (Nat.le_of_ble_eq_true rfl) (fun _ => rfl) dX10_part_56 (Con.mono h (fun _ M58 _ _ h => ?_))
            refine m_iload_n C 0 dX10_part_59 rfl rfl ?_
            exact m_iret C E (Or.inl rfl) dX10_part_60 h
    · have h := h.1 e
      refine m_aload_n C 0 dX10_part_15 rfl rfl ?_
      refine m_callVv C (as := []) (rest := []) ok_X10_nextToken ml_X10_181 so_51 rfl rfl rfl (Nat.le_of_ble_eq_true rfl) (fun _ => rfl) dX10_part_16 (Con.mono h (fun _ M60 _ _ h => ?_))
      refine m_aload_n C 0 dX10_part_19 rfl rfl ?_
      refine m_getZ C (k := 28) cl_X10 (by decide) so_51 rfl fl_X10_164 dX10_part_20 ?_
      refine m_if_eq C (tgt := 30) dX10_part_23 (by decide) (fun e => ?_) (fun e => ?_)
      · have h := h.1 e
        refine m_aload_n C 0 dX10_part_30 rfl rfl ?_
        refine m_callVi C (as := []) (rest := []) ok_X10_either ml_X10_217 so_51 rfl rfl rfl (Nat.le_of_ble_eq_true rfl) (fun _ => rfl) dX10_part_31 (Con.mono h (fun r61 M62 _ _ h => ?_))
        refine m_istore_n C (L' := [(2, vI r61), (0, vR 51), (1, vI a1)]) dX10_part_34 rfl (by rw [hnL]; decide) rfl ?_
        refine m_aload_n C 1 dX10_part_35 rfl rfl ?_
        refine m_bipush C dX10_part_36 (r32_of rfl) (by decide) ?_
        refine m_callVi C (as := [vI 59]) (rest := []) ok_X10_isSign ml_X10_206 so_51 rfl rfl rfl (Nat.le_of_ble_eq_true rfl) (fun _ => rfl) dX10_part_38 (Con.mono h (fun r63 M64 _ _ h => ?_))
        refine m_if_ne C (tgt := 48) dX10_part_41 (by decide) (fun e => ?_) (fun e => ?_)
        · have h := h.2 e
          refine m_aload_n C 1 dX10_part_48 rfl rfl ?_
          refine m_getZ C (k := 28) cl_X10 (by decide) so_51 rfl fl_X10_164 dX10_part_49 ?_
          refine m_if_ne C (tgt := 59) dX10_part_52 (by decide) (fun e => ?_) (fun e => ?_)
          · have h := h.2 e
            refine m_iload_n C 0 dX10_part_59 rfl rfl ?_
            exact m_iret C E (Or.inl rfl) dX10_part_60 h
          · have h := h.1 e
            refine m_aload_n C 1 dX10_part_55 rfl rfl ?_
            refine m_callVv C (as := []) (rest := []) ok_X10_nextToken ml_X10_181 so_51 rfl rfl rfl (Nat.le_of_ble_eq_true rfl) (fun _ => rfl) dX10_part_56 (Con.mono h (fun _ M66 _ _ h => ?_))
            refine m_iload_n C 0 dX10_part_59 rfl rfl ?_
            exact m_iret C E (Or.inl rfl) dX10_part_60 h
        · have h := h.1 e
          refine m_aload_n C 1 dX10_part_44 rfl rfl ?_
          refine m_callVv C (as := []) (rest := []) ok_X10_fail ml_X10_178 so_51 rfl rfl rfl (Nat.le_of_ble_eq_true rfl) (fun _ => rfl) dX10_part_45 (Con.mono h (fun _ M68 _ _ h => ?_))
          refine m_aload_n C 1 dX10_part_48 rfl rfl ?_
          refine m_getZ C (k := 28) cl_X10 (by decide) so_51 rfl fl_X10_164 dX10_part_49 ?_
          refine m_if_ne C (tgt := 59) dX10_part_52 (by decide) (fun e => ?_) (fun e => ?_)
          · have h := h.2 e
            refine m_iload_n C 0 dX10_part_59 rfl rfl ?_
            exact m_iret C E (Or.inl rfl) dX10_part_60 h
          · have h := h.1 e
            refine m_aload_n C 1 dX10_part_55 rfl rfl ?_
            refine m_callVv C (as := []) (rest := []) ok_X10_nextToken ml_X10_181 so_51 rfl rfl rfl (Nat.le_of_ble_eq_true rfl) (fun _ => rfl) dX10_part_56 (Con.mono h (fun _ M70 _ _ h => ?_))
            refine m_iload_n C 0 dX10_part_59 rfl rfl ?_
            exact m_iret C E (Or.inl rfl) dX10_part_60 h
      · have h := h.2 e
        refine m_iconst C dX10_part_26 (r32_of rfl) ?_
        refine m_goto C (tgt := 34) dX10_part_27 (by decide) ?_
        refine m_istore_n C (L' := [(2, vI 0), (0, vR 51), (1, vI a1)]) dX10_part_34 rfl (by rw [hnL]; decide) rfl ?_
        refine m_aload_n C 1 dX10_part_35 rfl rfl ?_
        refine m_bipush C dX10_part_36 (r32_of rfl) (by decide) ?_
        refine m_callVi C (as := [vI 59]) (rest := []) ok_X10_isSign ml_X10_206 so_51 rfl rfl rfl (Nat.le_of_ble_eq_true rfl) (fun _ => rfl) dX10_part_38 (Con.mono h (fun r71 M72 _ _ h => ?_))
        refine m_if_ne C (tgt := 48) dX10_part_41 (by decide) (fun e => ?_) (fun e => ?_)
        · have h := h.2 e
          refine m_aload_n C 1 dX10_part_48 rfl rfl ?_
          refine m_getZ C (k := 28) cl_X10 (by decide) so_51 rfl fl_X10_164 dX10_part_49 ?_
          refine m_if_ne C (tgt := 59) dX10_part_52 (by decide) (fun e => ?_) (fun e => ?_)
          · have h := h.2 e
            refine m_iload_n C 0 dX10_part_59 rfl rfl ?_
            exact m_iret C E (Or.inl rfl) dX10_part_60 h
          · have h := h.1 e
            refine m_aload_n C 1 dX10_part_55 rfl rfl ?_
            refine m_callVv C (as := []) (rest := []) ok_X10_nextToken ml_X10_181 so_51 rfl rfl rfl (Nat.le_of_ble_eq_true rfl) (fun _ => rfl) dX10_part_56 (Con.mono h (fun _ M74 _ _ h => ?_))
            refine m_iload_n C 0 dX10_part_59 rfl rfl ?_
            exact m_iret C E (Or.inl rfl) dX10_part_60 h
        · have h := h.1 e
          refine m_aload_n C 1 dX10_part_44 rfl rfl ?_
          refine m_callVv C (as := []) (rest := []) ok_X10_fail ml_X10_178 so_51 rfl rfl rfl (Nat.le_of_ble_eq_true rfl) (fun _ => rfl) dX10_part_45 (Con.mono h (fun _ M76 _ _ h => ?_))
          refine m_aload_n C 1 dX10_part_48 rfl rfl ?_
          refine m_getZ C (k := 28) cl_X10 (by decide) so_51 rfl fl_X10_164 dX10_part_49 ?_
          refine m_if_ne C (tgt := 59) dX10_part_52 (by decide) (fun e => ?_) (fun e => ?_)
          · have h := h.2 e
            refine m_iload_n C 0 dX10_part_59 rfl rfl ?_
            exact m_iret C E (Or.inl rfl) dX10_part_60 h
          · have h := h.1 e
            refine m_aload_n C 1 dX10_part_55 rfl rfl ?_
            refine m_callVv C (as := []) (rest := []) ok_X10_nextToken ml_X10_181 so_51 rfl rfl rfl (Nat.le_of_ble_eq_true rfl) (fun _ => rfl) dX10_part_56 (Con.mono h (fun _ M78 _ _ h => ?_))
            refine m_iload_n C 0 dX10_part_59 rfl rfl ?_
            exact m_iret C E (Or.inl rfl) dX10_part_60 h
def B_X10_read (n : Nat) (a1 : Int) (a2 : Int) (M : Mem) (Q : Int → Mem → Prop)  : Prop :=
  (∀ M1 : Mem, M1 = up M 51 21 (w32 (160 * a1)) →
  ((0 ≤ a1 ∧ a1 < 6) ∧ (∀ M2 : Mem, M2 = up M1 51 22 (M1 53 (Int.toNat a1)) →
  (∀ M3 : Mem, M3 = up M2 51 23 0 →
  (∀ M4 : Mem, M4 = up M3 51 27 0 →
  (∀ M5 : Mem, M5 = up M4 51 28 0 →
  Con n md_X10_nextToken [vR 51] M5 (fun _ M7 =>
  Con n md_X10_isWord [vR 51, vI 116, vI 117, vI 114, vI 110, vI 115, vI 0, vI 0, vI 0] M7 (fun r8 M9 =>
  Con n md_X10_part [vR 51, vI r8] M9 (fun r10 M11 =>
  (((M11 51 28) = 0 →
  Con n md_X10_isWord [vR 51, vI 99, vI 111, vI 115, vI 116, vI 115, vI 0, vI 0, vI 0] M11 (fun r12 M13 =>
    Con n md_X10_part [vR 51, vI r12] M13 (fun r14 M15 =>
    (((M15 51 28) = 0 →
    Con n md_X10_isWord [vR 51, vI 108, vI 97, vI 115, vI 116, vI 115, vI 0, vI 0, vI 0] M15 (fun r16 M17 =>
      Con n md_X10_part [vR 51, vI r16] M17 (fun r18 M19 =>
      (((M19 51 28) = 0 →
      (((M19 51 24) = 0 →
        ((a2 = 0 →
          Q r10 M19) ∧ (¬ a2 = 0 →
          ((a2 = 1 →
            Q r14 M19) ∧ (¬ a2 = 1 →
            Q r18 M19))))) ∧ (¬ (M19 51 24) = 0 →
        Con n md_X10_fail [vR 51] M19 (fun _ M21 =>
          ((a2 = 0 →
          Q r10 M21) ∧ (¬ a2 = 0 →
          ((a2 = 1 →
            Q r14 M21) ∧ (¬ a2 = 1 →
            Q r18 M21)))))))) ∧ (¬ (M19 51 28) = 0 →
      ((a2 = 0 →
        Q r10 M19) ∧ (¬ a2 = 0 →
        ((a2 = 1 →
          Q r14 M19) ∧ (¬ a2 = 1 →
          Q r18 M19))))))))) ∧ (¬ (M15 51 28) = 0 →
    (((M15 51 28) = 0 →
      (((M15 51 24) = 0 →
        ((a2 = 0 →
          Q r10 M15) ∧ (¬ a2 = 0 →
          ((a2 = 1 →
            Q r14 M15) ∧ (¬ a2 = 1 →
            Q 0 M15))))) ∧ (¬ (M15 51 24) = 0 →
        Con n md_X10_fail [vR 51] M15 (fun _ M23 =>
          ((a2 = 0 →
          Q r10 M23) ∧ (¬ a2 = 0 →
          ((a2 = 1 →
            Q r14 M23) ∧ (¬ a2 = 1 →
            Q 0 M23)))))))) ∧ (¬ (M15 51 28) = 0 →
      ((a2 = 0 →
        Q r10 M15) ∧ (¬ a2 = 0 →
        ((a2 = 1 →
          Q r14 M15) ∧ (¬ a2 = 1 →
          Q 0 M15))))))))))) ∧ (¬ (M11 51 28) = 0 →
  (((M11 51 28) = 0 →
    Con n md_X10_isWord [vR 51, vI 108, vI 97, vI 115, vI 116, vI 115, vI 0, vI 0, vI 0] M11 (fun r24 M25 =>
      Con n md_X10_part [vR 51, vI r24] M25 (fun r26 M27 =>
      (((M27 51 28) = 0 →
      (((M27 51 24) = 0 →
        ((a2 = 0 →
          Q r10 M27) ∧ (¬ a2 = 0 →
          ((a2 = 1 →
            Q 0 M27) ∧ (¬ a2 = 1 →
            Q r26 M27))))) ∧ (¬ (M27 51 24) = 0 →
        Con n md_X10_fail [vR 51] M27 (fun _ M29 =>
          ((a2 = 0 →
          Q r10 M29) ∧ (¬ a2 = 0 →
          ((a2 = 1 →
            Q 0 M29) ∧ (¬ a2 = 1 →
            Q r26 M29)))))))) ∧ (¬ (M27 51 28) = 0 →
      ((a2 = 0 →
        Q r10 M27) ∧ (¬ a2 = 0 →
        ((a2 = 1 →
          Q 0 M27) ∧ (¬ a2 = 1 →
          Q r26 M27))))))))) ∧ (¬ (M11 51 28) = 0 →
    (((M11 51 28) = 0 →
      (((M11 51 24) = 0 →
        ((a2 = 0 →
          Q r10 M11) ∧ (¬ a2 = 0 →
          ((a2 = 1 →
            Q 0 M11) ∧ (¬ a2 = 1 →
            Q 0 M11))))) ∧ (¬ (M11 51 24) = 0 →
        Con n md_X10_fail [vR 51] M11 (fun _ M31 =>
          ((a2 = 0 →
          Q r10 M31) ∧ (¬ a2 = 0 →
          ((a2 = 1 →
            Q 0 M31) ∧ (¬ a2 = 1 →
            Q 0 M31)))))))) ∧ (¬ (M11 51 28) = 0 →
      ((a2 = 0 →
        Q r10 M11) ∧ (¬ a2 = 0 →
        ((a2 = 1 →
          Q 0 M11) ∧ (¬ a2 = 1 →
          Q 0 M11)))))))))))))))))))
set_option maxHeartbeats 4000000 in
set_option maxRecDepth 20000 in
theorem g_X10_read {n : Nat} {a1 : Int} {a2 : Int} {M : Mem} {Q : Int → Mem → Prop}  (h : B_X10_read n a1 a2 M Q) : Con (n + 1) md_X10_read [vR 51, vI a1, vI a2] M Q := by
  refine Con.ofF (n := n + 1) (Nat.succ_pos n) pl_X10_read (Nat.le_of_ble_eq_true rfl) (fun X C E hnL => ?_)
  have C : Cx X cX10_read RX10 n := C
  show WM X 0 [(0, vR 51), (1, vI a1), (2, vI a2)] [] M
  unfold B_X10_read at h
  refine m_aload_n C 0 dX10_read_0 rfl rfl ?_
  refine m_sipush C dX10_read_1 (r32_of rfl) (by decide) ?_
  refine m_iload_n C 1 dX10_read_4 rfl rfl ?_
  refine m_imul C dX10_read_5 ?_
  refine m_putI C (k := 21) cl_X10 (by decide) so_51 rfl rfl rfl fl_X10_135 dX10_read_6 ?_
  generalize eM1 : up M 51 21 (w32 (160 * a1)) = M1
  have h := h M1 eM1.symm
  refine m_aload_n C 0 dX10_read_9 rfl rfl ?_
  refine m_aload_n C 0 dX10_read_10 rfl rfl ?_
  refine m_getR C (k := 2) cl_X10 (by decide) so_51 rfl fl_X10_17 dX10_read_11 ?_
  refine m_iload_n C 1 dX10_read_14 rfl rfl ?_
  refine m_iald C (N := 6) sa_53 h.1 dX10_read_15 ?_
  have h := h.2
  refine m_putI C (k := 22) cl_X10 (by decide) so_51 rfl rfl rfl fl_X10_132 dX10_read_16 ?_
  generalize eM2 : up M1 51 22 (M1 53 (Int.toNat a1)) = M2
  have h := h M2 eM2.symm
  refine m_aload_n C 0 dX10_read_19 rfl rfl ?_
  refine m_iconst C dX10_read_20 (r32_of rfl) ?_
  refine m_putI C (k := 23) cl_X10 (by decide) so_51 rfl rfl rfl fl_X10_138 dX10_read_21 ?_
  generalize eM3 : up M2 51 23 0 = M3
  have h := h M3 eM3.symm
  refine m_aload_n C 0 dX10_read_24 rfl rfl ?_
  refine m_iconst C dX10_read_25 (r32_of rfl) ?_
  refine m_putI C (k := 27) cl_X10 (by decide) so_51 rfl rfl rfl fl_X10_175 dX10_read_26 ?_
  generalize eM4 : up M3 51 27 0 = M4
  have h := h M4 eM4.symm
  refine m_aload_n C 0 dX10_read_29 rfl rfl ?_
  refine m_iconst C dX10_read_30 (r32_of rfl) ?_
  refine m_putZ C (k := 28) cl_X10 (by decide) so_51 rfl rfl rfl (Or.inl rfl) fl_X10_164 dX10_read_31 ?_
  generalize eM5 : up M4 51 28 0 = M5
  have h := h M5 eM5.symm
  refine m_aload_n C 0 dX10_read_34 rfl rfl ?_
  refine m_callVv C (as := []) (rest := []) ok_X10_nextToken ml_X10_181 so_51 rfl rfl rfl (Nat.le_of_ble_eq_true rfl) (fun _ => rfl) dX10_read_35 (Con.mono h (fun _ M7 _ _ h => ?_))
  refine m_aload_n C 0 dX10_read_38 rfl rfl ?_
  refine m_aload_n C 0 dX10_read_39 rfl rfl ?_
  refine m_bipush C dX10_read_40 (r32_of rfl) (by decide) ?_
  refine m_bipush C dX10_read_42 (r32_of rfl) (by decide) ?_
  refine m_bipush C dX10_read_44 (r32_of rfl) (by decide) ?_
  refine m_bipush C dX10_read_46 (r32_of rfl) (by decide) ?_
  refine m_bipush C dX10_read_48 (r32_of rfl) (by decide) ?_
  refine m_iconst C dX10_read_50 (r32_of rfl) ?_
  refine m_iconst C dX10_read_51 (r32_of rfl) ?_
  refine m_iconst C dX10_read_52 (r32_of rfl) ?_
  refine m_callVi C (as := [vI 116, vI 117, vI 114, vI 110, vI 115, vI 0, vI 0, vI 0]) (rest := [vR 51]) ok_X10_isWord ml_X10_184 so_51 rfl rfl rfl (Nat.le_of_ble_eq_true rfl) (fun _ => rfl) dX10_read_53 (Con.mono h (fun r8 M9 _ _ h => ?_))
  refine m_callVi C (as := [vI r8]) (rest := []) ok_X10_part ml_X10_239 so_51 rfl rfl rfl (Nat.le_of_ble_eq_true rfl) (fun _ => rfl) dX10_read_56 (Con.mono h (fun r10 M11 _ _ h => ?_))
  refine m_istore_n C (L' := [(3, vI r10), (0, vR 51), (1, vI a1), (2, vI a2)]) dX10_read_59 rfl (by rw [hnL]; decide) rfl ?_
  refine m_aload_n C 1 dX10_read_60 rfl rfl ?_
  refine m_getZ C (k := 28) cl_X10 (by decide) so_51 rfl fl_X10_164 dX10_read_61 ?_
  refine m_if_eq C (tgt := 71) dX10_read_64 (by decide) (fun e => ?_) (fun e => ?_)
  · have h := h.1 e
    refine m_aload_n C 1 dX10_read_71 rfl rfl ?_
    refine m_aload_n C 1 dX10_read_72 rfl rfl ?_
    refine m_bipush C dX10_read_73 (r32_of rfl) (by decide) ?_
    refine m_bipush C dX10_read_75 (r32_of rfl) (by decide) ?_
    refine m_bipush C dX10_read_77 (r32_of rfl) (by decide) ?_
    refine m_bipush C dX10_read_79 (r32_of rfl) (by decide) ?_
    refine m_bipush C dX10_read_81 (r32_of rfl) (by decide) ?_
    refine m_iconst C dX10_read_83 (r32_of rfl) ?_
    refine m_iconst C dX10_read_84 (r32_of rfl) ?_
    refine m_iconst C dX10_read_85 (r32_of rfl) ?_
    refine m_callVi C (as := [vI 99, vI 111, vI 115, vI 116, vI 115, vI 0, vI 0, vI 0]) (rest := [vR 51]) ok_X10_isWord ml_X10_184 so_51 rfl rfl rfl (Nat.le_of_ble_eq_true rfl) (fun _ => rfl) dX10_read_86 (Con.mono h (fun r12 M13 _ _ h => ?_))
    refine m_callVi C (as := [vI r12]) (rest := []) ok_X10_part ml_X10_239 so_51 rfl rfl rfl (Nat.le_of_ble_eq_true rfl) (fun _ => rfl) dX10_read_89 (Con.mono h (fun r14 M15 _ _ h => ?_))
    refine m_istore C (L' := [(4, vI r14), (3, vI r10), (0, vR 51), (1, vI a1), (2, vI a2)]) dX10_read_92 (by rw [hnL]; decide) rfl ?_
    refine m_aload_n C 2 dX10_read_94 rfl rfl ?_
    refine m_getZ C (k := 28) cl_X10 (by decide) so_51 rfl fl_X10_164 dX10_read_95 ?_
    refine m_if_eq C (tgt := 105) dX10_read_98 (by decide) (fun e => ?_) (fun e => ?_)
    · have h := h.1 e
      refine m_aload_n C 2 dX10_read_105 rfl rfl ?_
      refine m_aload_n C 2 dX10_read_106 rfl rfl ?_
      refine m_bipush C dX10_read_107 (r32_of rfl) (by decide) ?_
      refine m_bipush C dX10_read_109 (r32_of rfl) (by decide) ?_
      refine m_bipush C dX10_read_111 (r32_of rfl) (by decide) ?_
      refine m_bipush C dX10_read_113 (r32_of rfl) (by decide) ?_
      refine m_bipush C dX10_read_115 (r32_of rfl) (by decide) ?_
      refine m_iconst C dX10_read_117 (r32_of rfl) ?_
      refine m_iconst C dX10_read_118 (r32_of rfl) ?_
      refine m_iconst C dX10_read_119 (r32_of rfl) ?_
      refine m_callVi C (as := [vI 108, vI 97, vI 115, vI 116, vI 115, vI 0, vI 0, vI 0]) (rest := [vR 51]) ok_X10_isWord ml_X10_184 so_51 rfl rfl rfl (Nat.le_of_ble_eq_true rfl) (fun _ => rfl) dX10_read_120 (Con.mono h (fun r16 M17 _ _ h => ?_))
      refine m_callVi C (as := [vI r16]) (rest := []) ok_X10_part ml_X10_239 so_51 rfl rfl rfl (Nat.le_of_ble_eq_true rfl) (fun _ => rfl) dX10_read_123 (Con.mono h (fun r18 M19 _ _ h => ?_))
      refine m_istore C (L' := [(5, vI r18), (4, vI r14), (3, vI r10), (0, vR 51), (1, vI a1), (2, vI a2)]) dX10_read_126 (by rw [hnL]; decide) rfl ?_
      refine m_aload_n C 3 dX10_read_128 rfl rfl ?_
      refine m_getZ C (k := 28) cl_X10 (by decide) so_51 rfl fl_X10_164 dX10_read_129 ?_
      refine m_if_ne C (tgt := 146) dX10_read_132 (by decide) (fun e => ?_) (fun e => ?_)
      · have h := h.2 e
        refine m_iload_n C 5 dX10_read_146 rfl rfl ?_
        refine m_if_ne C (tgt := 154) dX10_read_147 (by decide) (fun e => ?_) (fun e => ?_)
        · have h := h.2 e
          refine m_iload_n C 5 dX10_read_154 rfl rfl ?_
          refine m_iconst C dX10_read_155 (r32_of rfl) ?_
          refine m_icmp_ne C (tgt := 164) dX10_read_156 (by decide) (fun e => ?_) (fun e => ?_)
          · have h := h.2 e
            refine m_iload C 0 dX10_read_164 rfl ?_
            exact m_iret C E (Or.inl rfl) dX10_read_166 h
          · have h := h.1 e
            refine m_iload C 1 dX10_read_159 rfl ?_
            refine m_goto C (tgt := 166) dX10_read_161 (by decide) ?_
            exact m_iret C E (Or.inl rfl) dX10_read_166 h
        · have h := h.1 e
          refine m_iload_n C 2 dX10_read_150 rfl rfl ?_
          refine m_goto C (tgt := 166) dX10_read_151 (by decide) ?_
          exact m_iret C E (Or.inl rfl) dX10_read_166 h
      · have h := h.1 e
        refine m_aload_n C 3 dX10_read_135 rfl rfl ?_
        refine m_getI C (k := 24) cl_X10 (by decide) so_51 rfl fl_X10_147 dX10_read_136 ?_
        refine m_if_eq C (tgt := 146) dX10_read_139 (by decide) (fun e => ?_) (fun e => ?_)
        · have h := h.1 e
          refine m_iload_n C 5 dX10_read_146 rfl rfl ?_
          refine m_if_ne C (tgt := 154) dX10_read_147 (by decide) (fun e => ?_) (fun e => ?_)
          · have h := h.2 e
            refine m_iload_n C 5 dX10_read_154 rfl rfl ?_
            refine m_iconst C dX10_read_155 (r32_of rfl) ?_
            refine m_icmp_ne C (tgt := 164) dX10_read_156 (by decide) (fun e => ?_) (fun e => ?_)
            · have h := h.2 e
              refine m_iload C 0 dX10_read_164 rfl ?_
              exact m_iret C E (Or.inl rfl) dX10_read_166 h
            · have h := h.1 e
              refine m_iload C 1 dX10_read_159 rfl ?_
              refine m_goto C (tgt := 166) dX10_read_161 (by decide) ?_
              exact m_iret C E (Or.inl rfl) dX10_read_166 h
          · have h := h.1 e
            refine m_iload_n C 2 dX10_read_150 rfl rfl ?_
            refine m_goto C (tgt := 166) dX10_read_151 (by decide) ?_
            exact m_iret C E (Or.inl rfl) dX10_read_166 h
        · have h := h.2 e
          refine m_aload_n C 3 dX10_read_142 rfl rfl ?_
          refine m_callVv C (as := []) (rest := []) ok_X10_fail ml_X10_178 so_51 rfl rfl rfl (Nat.le_of_ble_eq_true rfl) (fun _ => rfl) dX10_read_143 (Con.mono h (fun _ M21 _ _ h => ?_))
          refine m_iload_n C 5 dX10_read_146 rfl rfl ?_
          refine m_if_ne C (tgt := 154) dX10_read_147 (by decide) (fun e => ?_) (fun e => ?_)
          · have h := h.2 e
            refine m_iload_n C 5 dX10_read_154 rfl rfl ?_
            refine m_iconst C dX10_read_155 (r32_of rfl) ?_
            refine m_icmp_ne C (tgt := 164) dX10_read_156 (by decide) (fun e => ?_) (fun e => ?_)
            · have h := h.2 e
              refine m_iload C 0 dX10_read_164 rfl ?_
              exact m_iret C E (Or.inl rfl) dX10_read_166 h
            · have h := h.1 e
              refine m_iload C 1 dX10_read_159 rfl ?_
              refine m_goto C (tgt := 166) dX10_read_161 (by decide) ?_
              exact m_iret C E (Or.inl rfl) dX10_read_166 h
          · have h := h.1 e
            refine m_iload_n C 2 dX10_read_150 rfl rfl ?_
            refine m_goto C (tgt := 166) dX10_read_151 (by decide) ?_
            exact m_iret C E (Or.inl rfl) dX10_read_166 h
    · have h := h.2 e
      refine m_iconst C dX10_read_101 (r32_of rfl) ?_
      refine m_goto C (tgt := 126) dX10_read_102 (by decide) ?_
      refine m_istore C (L' := [(5, vI 0), (4, vI r14), (3, vI r10), (0, vR 51), (1, vI a1), (2, vI a2)]) dX10_read_126 (by rw [hnL]; decide) rfl ?_
      refine m_aload_n C 3 dX10_read_128 rfl rfl ?_
      refine m_getZ C (k := 28) cl_X10 (by decide) so_51 rfl fl_X10_164 dX10_read_129 ?_
      refine m_if_ne C (tgt := 146) dX10_read_132 (by decide) (fun e => ?_) (fun e => ?_)
      · have h := h.2 e
        refine m_iload_n C 5 dX10_read_146 rfl rfl ?_
        refine m_if_ne C (tgt := 154) dX10_read_147 (by decide) (fun e => ?_) (fun e => ?_)
        · have h := h.2 e
          refine m_iload_n C 5 dX10_read_154 rfl rfl ?_
          refine m_iconst C dX10_read_155 (r32_of rfl) ?_
          refine m_icmp_ne C (tgt := 164) dX10_read_156 (by decide) (fun e => ?_) (fun e => ?_)
          · have h := h.2 e
            refine m_iload C 0 dX10_read_164 rfl ?_
            exact m_iret C E (Or.inl rfl) dX10_read_166 h
          · have h := h.1 e
            refine m_iload C 1 dX10_read_159 rfl ?_
            refine m_goto C (tgt := 166) dX10_read_161 (by decide) ?_
            exact m_iret C E (Or.inl rfl) dX10_read_166 h
        · have h := h.1 e
          refine m_iload_n C 2 dX10_read_150 rfl rfl ?_
          refine m_goto C (tgt := 166) dX10_read_151 (by decide) ?_
          exact m_iret C E (Or.inl rfl) dX10_read_166 h
      · have h := h.1 e
        refine m_aload_n C 3 dX10_read_135 rfl rfl ?_
        refine m_getI C (k := 24) cl_X10 (by decide) so_51 rfl fl_X10_147 dX10_read_136 ?_
        refine m_if_eq C (tgt := 146) dX10_read_139 (by decide) (fun e => ?_) (fun e => ?_)
        · have h := h.1 e
          refine m_iload_n C 5 dX10_read_146 rfl rfl ?_
          refine m_if_ne C (tgt := 154) dX10_read_147 (by decide) (fun e => ?_) (fun e => ?_)
          · have h := h.2 e
            refine m_iload_n C 5 dX10_read_154 rfl rfl ?_
            refine m_iconst C dX10_read_155 (r32_of rfl) ?_
            refine m_icmp_ne C (tgt := 164) dX10_read_156 (by decide) (fun e => ?_) (fun e => ?_)
            · have h := h.2 e
              refine m_iload C 0 dX10_read_164 rfl ?_
              exact m_iret C E (Or.inl rfl) dX10_read_166 h
            · have h := h.1 e
              refine m_iload C 1 dX10_read_159 rfl ?_
              refine m_goto C (tgt := 166) dX10_read_161 (by decide) ?_
              exact m_iret C E (Or.inl rfl) dX10_read_166 h
          · have h := h.1 e
            refine m_iload_n C 2 dX10_read_150 rfl rfl ?_
            refine m_goto C (tgt := 166) dX10_read_151 (by decide) ?_
            exact m_iret C E (Or.inl rfl) dX10_read_166 h
        · have h := h.2 e
          refine m_aload_n C 3 dX10_read_142 rfl rfl ?_
          refine m_callVv C (as := []) (rest := []) ok_X10_fail ml_X10_178 so_51 rfl rfl rfl (Nat.le_of_ble_eq_true rfl) (fun _ => rfl) dX10_read_143 (Con.mono h (fun _ M23 _ _ h => ?_))
          refine m_iload_n C 5 dX10_read_146 rfl rfl ?_
          refine m_if_ne C (tgt := 154) dX10_read_147 (by decide) (fun e => ?_) (fun e => ?_)
          · have h := h.2 e
            refine m_iload_n C 5 dX10_read_154 rfl rfl ?_
            refine m_iconst C dX10_read_155 (r32_of rfl) ?_
            refine m_icmp_ne C (tgt := 164) dX10_read_156 (by decide) (fun e => ?_) (fun e => ?_)
            · have h := h.2 e
              refine m_iload C 0 dX10_read_164 rfl ?_
              exact m_iret C E (Or.inl rfl) dX10_read_166 h
            · have h := h.1 e
              refine m_iload C 1 dX10_read_159 rfl ?_
              refine m_goto C (tgt := 166) dX10_read_161 (by decide) ?_
              exact m_iret C E (Or.inl rfl) dX10_read_166 h
          · have h := h.1 e
            refine m_iload_n C 2 dX10_read_150 rfl rfl ?_
            refine m_goto C (tgt := 166) dX10_read_151 (by decide) ?_
            exact m_iret C E (Or.inl rfl) dX10_read_166 h
  · have h := h.2 e
    refine m_iconst C dX10_read_67 (r32_of rfl) ?_
    refine m_goto C (tgt := 92) dX10_read_68 (by decide) ?_
    refine m_istore C (L' := [(4, vI 0), (3, vI r10), (0, vR 51), (1, vI a1), (2, vI a2)]) dX10_read_92 (by rw [hnL]; decide) rfl ?_
    refine m_aload_n C 2 dX10_read_94 rfl rfl ?_
    refine m_getZ C (k := 28) cl_X10 (by decide) so_51 rfl fl_X10_164 dX10_read_95 ?_
    refine m_if_eq C (tgt := 105) dX10_read_98 (by decide) (fun e => ?_) (fun e => ?_)
    · have h := h.1 e
      refine m_aload_n C 2 dX10_read_105 rfl rfl ?_
      refine m_aload_n C 2 dX10_read_106 rfl rfl ?_
      refine m_bipush C dX10_read_107 (r32_of rfl) (by decide) ?_
      refine m_bipush C dX10_read_109 (r32_of rfl) (by decide) ?_
      refine m_bipush C dX10_read_111 (r32_of rfl) (by decide) ?_
      refine m_bipush C dX10_read_113 (r32_of rfl) (by decide) ?_
      refine m_bipush C dX10_read_115 (r32_of rfl) (by decide) ?_
      refine m_iconst C dX10_read_117 (r32_of rfl) ?_
      refine m_iconst C dX10_read_118 (r32_of rfl) ?_
      refine m_iconst C dX10_read_119 (r32_of rfl) ?_
      refine m_callVi C (as := [vI 108, vI 97, vI 115, vI 116, vI 115, vI 0, vI 0, vI 0]) (rest := [vR 51]) ok_X10_isWord ml_X10_184 so_51 rfl rfl rfl (Nat.le_of_ble_eq_true rfl) (fun _ => rfl) dX10_read_120 (Con.mono h (fun r24 M25 _ _ h => ?_))
      refine m_callVi C (as := [vI r24]) (rest := []) ok_X10_part ml_X10_239 so_51 rfl rfl rfl (Nat.le_of_ble_eq_true rfl) (fun _ => rfl) dX10_read_123 (Con.mono h (fun r26 M27 _ _ h => ?_))
      refine m_istore C (L' := [(5, vI r26), (4, vI 0), (3, vI r10), (0, vR 51), (1, vI a1), (2, vI a2)]) dX10_read_126 (by rw [hnL]; decide) rfl ?_
      refine m_aload_n C 3 dX10_read_128 rfl rfl ?_
      refine m_getZ C (k := 28) cl_X10 (by decide) so_51 rfl fl_X10_164 dX10_read_129 ?_
      refine m_if_ne C (tgt := 146) dX10_read_132 (by decide) (fun e => ?_) (fun e => ?_)
      · have h := h.2 e
        refine m_iload_n C 5 dX10_read_146 rfl rfl ?_
        refine m_if_ne C (tgt := 154) dX10_read_147 (by decide) (fun e => ?_) (fun e => ?_)
        · have h := h.2 e
          refine m_iload_n C 5 dX10_read_154 rfl rfl ?_
          refine m_iconst C dX10_read_155 (r32_of rfl) ?_
          refine m_icmp_ne C (tgt := 164) dX10_read_156 (by decide) (fun e => ?_) (fun e => ?_)
          · have h := h.2 e
            refine m_iload C 0 dX10_read_164 rfl ?_
            exact m_iret C E (Or.inl rfl) dX10_read_166 h
          · have h := h.1 e
            refine m_iload C 1 dX10_read_159 rfl ?_
            refine m_goto C (tgt := 166) dX10_read_161 (by decide) ?_
            exact m_iret C E (Or.inl rfl) dX10_read_166 h
        · have h := h.1 e
          refine m_iload_n C 2 dX10_read_150 rfl rfl ?_
          refine m_goto C (tgt := 166) dX10_read_151 (by decide) ?_
          exact m_iret C E (Or.inl rfl) dX10_read_166 h
      · have h := h.1 e
        refine m_aload_n C 3 dX10_read_135 rfl rfl ?_
        refine m_getI C (k := 24) cl_X10 (by decide) so_51 rfl fl_X10_147 dX10_read_136 ?_
        refine m_if_eq C (tgt := 146) dX10_read_139 (by decide) (fun e => ?_) (fun e => ?_)
        · have h := h.1 e
          refine m_iload_n C 5 dX10_read_146 rfl rfl ?_
          refine m_if_ne C (tgt := 154) dX10_read_147 (by decide) (fun e => ?_) (fun e => ?_)
          · have h := h.2 e
            refine m_iload_n C 5 dX10_read_154 rfl rfl ?_
            refine m_iconst C dX10_read_155 (r32_of rfl) ?_
            refine m_icmp_ne C (tgt := 164) dX10_read_156 (by decide) (fun e => ?_) (fun e => ?_)
            · have h := h.2 e
              refine m_iload C 0 dX10_read_164 rfl ?_
              exact m_iret C E (Or.inl rfl) dX10_read_166 h
            · have h := h.1 e
              refine m_iload C 1 dX10_read_159 rfl ?_
              refine m_goto C (tgt := 166) dX10_read_161 (by decide) ?_
              exact m_iret C E (Or.inl rfl) dX10_read_166 h
          · have h := h.1 e
            refine m_iload_n C 2 dX10_read_150 rfl rfl ?_
            refine m_goto C (tgt := 166) dX10_read_151 (by decide) ?_
            exact m_iret C E (Or.inl rfl) dX10_read_166 h
        · have h := h.2 e
          refine m_aload_n C 3 dX10_read_142 rfl rfl ?_
          refine m_callVv C (as := []) (rest := []) ok_X10_fail ml_X10_178 so_51 rfl rfl rfl (Nat.le_of_ble_eq_true rfl) (fun _ => rfl) dX10_read_143 (Con.mono h (fun _ M29 _ _ h => ?_))
          refine m_iload_n C 5 dX10_read_146 rfl rfl ?_
          refine m_if_ne C (tgt := 154) dX10_read_147 (by decide) (fun e => ?_) (fun e => ?_)
          · have h := h.2 e
            refine m_iload_n C 5 dX10_read_154 rfl rfl ?_
            refine m_iconst C dX10_read_155 (r32_of rfl) ?_
            refine m_icmp_ne C (tgt := 164) dX10_read_156 (by decide) (fun e => ?_) (fun e => ?_)
            · have h := h.2 e
              refine m_iload C 0 dX10_read_164 rfl ?_
              exact m_iret C E (Or.inl rfl) dX10_read_166 h
            · have h := h.1 e
              refine m_iload C 1 dX10_read_159 rfl ?_
              refine m_goto C (tgt := 166) dX10_read_161 (by decide) ?_
              exact m_iret C E (Or.inl rfl) dX10_read_166 h
          · have h := h.1 e
            refine m_iload_n C 2 dX10_read_150 rfl rfl ?_
            refine m_goto C (tgt := 166) dX10_read_151 (by decide) ?_
            exact m_iret C E (Or.inl rfl) dX10_read_166 h
    · have h := h.2 e
      refine m_iconst C dX10_read_101 (r32_of rfl) ?_
      refine m_goto C (tgt := 126) dX10_read_102 (by decide) ?_
      refine m_istore C (L' := [(5, vI 0), (4, vI 0), (3, vI r10), (0, vR 51), (1, vI a1), (2, vI a2)]) dX10_read_126 (by rw [hnL]; decide) rfl ?_
      refine m_aload_n C 3 dX10_read_128 rfl rfl ?_
      refine m_getZ C (k := 28) cl_X10 (by decide) so_51 rfl fl_X10_164 dX10_read_129 ?_
      refine m_if_ne C (tgt := 146) dX10_read_132 (by decide) (fun e => ?_) (fun e => ?_)
      · have h := h.2 e
        refine m_iload_n C 5 dX10_read_146 rfl rfl ?_
        refine m_if_ne C (tgt := 154) dX10_read_147 (by decide) (fun e => ?_) (fun e => ?_)
        · have h := h.2 e
          refine m_iload_n C 5 dX10_read_154 rfl rfl ?_
          refine m_iconst C dX10_read_155 (r32_of rfl) ?_
          refine m_icmp_ne C (tgt := 164) dX10_read_156 (by decide) (fun e => ?_) (fun e => ?_)
          · have h := h.2 e
            refine m_iload C 0 dX10_read_164 rfl ?_
            exact m_iret C E (Or.inl rfl) dX10_read_166 h
          · have h := h.1 e
            refine m_iload C 1 dX10_read_159 rfl ?_
            refine m_goto C (tgt := 166) dX10_read_161 (by decide) ?_
            exact m_iret C E (Or.inl rfl) dX10_read_166 h
        · have h := h.1 e
          refine m_iload_n C 2 dX10_read_150 rfl rfl ?_
          refine m_goto C (tgt := 166) dX10_read_151 (by decide) ?_
          exact m_iret C E (Or.inl rfl) dX10_read_166 h
      · have h := h.1 e
        refine m_aload_n C 3 dX10_read_135 rfl rfl ?_
        refine m_getI C (k := 24) cl_X10 (by decide) so_51 rfl fl_X10_147 dX10_read_136 ?_
        refine m_if_eq C (tgt := 146) dX10_read_139 (by decide) (fun e => ?_) (fun e => ?_)
        · have h := h.1 e
          refine m_iload_n C 5 dX10_read_146 rfl rfl ?_
          refine m_if_ne C (tgt := 154) dX10_read_147 (by decide) (fun e => ?_) (fun e => ?_)
          · have h := h.2 e
            refine m_iload_n C 5 dX10_read_154 rfl rfl ?_
            refine m_iconst C dX10_read_155 (r32_of rfl) ?_
            refine m_icmp_ne C (tgt := 164) dX10_read_156 (by decide) (fun e => ?_) (fun e => ?_)
            · have h := h.2 e
              refine m_iload C 0 dX10_read_164 rfl ?_
              exact m_iret C E (Or.inl rfl) dX10_read_166 h
            · have h := h.1 e
              refine m_iload C 1 dX10_read_159 rfl ?_
              refine m_goto C (tgt := 166) dX10_read_161 (by decide) ?_
              exact m_iret C E (Or.inl rfl) dX10_read_166 h
          · have h := h.1 e
            refine m_iload_n C 2 dX10_read_150 rfl rfl ?_
            refine m_goto C (tgt := 166) dX10_read_151 (by decide) ?_
            exact m_iret C E (Or.inl rfl) dX10_read_166 h
        · have h := h.2 e
          refine m_aload_n C 3 dX10_read_142 rfl rfl ?_
          refine m_callVv C (as := []) (rest := []) ok_X10_fail ml_X10_178 so_51 rfl rfl rfl (Nat.le_of_ble_eq_true rfl) (fun _ => rfl) dX10_read_143 (Con.mono h (fun _ M31 _ _ h => ?_))
          refine m_iload_n C 5 dX10_read_146 rfl rfl ?_
          refine m_if_ne C (tgt := 154) dX10_read_147 (by decide) (fun e => ?_) (fun e => ?_)
          · have h := h.2 e
            refine m_iload_n C 5 dX10_read_154 rfl rfl ?_
            refine m_iconst C dX10_read_155 (r32_of rfl) ?_
            refine m_icmp_ne C (tgt := 164) dX10_read_156 (by decide) (fun e => ?_) (fun e => ?_)
            · have h := h.2 e
              refine m_iload C 0 dX10_read_164 rfl ?_
              exact m_iret C E (Or.inl rfl) dX10_read_166 h
            · have h := h.1 e
              refine m_iload C 1 dX10_read_159 rfl ?_
              refine m_goto C (tgt := 166) dX10_read_161 (by decide) ?_
              exact m_iret C E (Or.inl rfl) dX10_read_166 h
          · have h := h.1 e
            refine m_iload_n C 2 dX10_read_150 rfl rfl ?_
            refine m_goto C (tgt := 166) dX10_read_151 (by decide) ?_
            exact m_iret C E (Or.inl rfl) dX10_read_166 h
def B_X10_text_14 (n : Nat)  (x1 : Int) (M : Mem) (Q : Int → Mem → Prop) (K14 : Int → Mem → Prop) : Prop :=
  (((M 51 6) ≤ x1 →
  ((0 ≤ (M 51 3) ∧ (M 51 3) < 6) ∧ (∀ M1 : Mem, M1 = up M 53 (Int.toNat (M 51 3)) (M 51 6) →
    (∀ M2 : Mem, M2 = up M1 51 6 0 →
    Con n md_X10_read [vR 51, vI (M2 51 3), vI 0] M2 (fun r3 M4 =>
    (((M4 51 28) = 0 →
    (∀ M5 : Mem, M5 = up M4 51 3 (w32 ((M4 51 3) + 1)) →
      Q (w32 ((M5 51 3) - 1)) M5)) ∧ (¬ (M4 51 28) = 0 →
    Q (w32 ((-100) - (M4 51 29))) M4))))))) ∧ (¬ (M 51 6) ≤ x1 →
  ((0 ≤ x1 ∧ x1 < 160) ∧ ((0 ≤ (w32 ((w32 (160 * (M 51 3))) + x1)) ∧ (w32 ((w32 (160 * (M 51 3))) + x1)) < 960) ∧ (∀ M6 : Mem, M6 = up M 52 (Int.toNat (w32 ((w32 (160 * (M 51 3))) + x1))) (M 54 (Int.toNat x1)) →
    K14 (w32 (x1 + 1)) M6)))))
def B_X10_text (n : Nat)  (M : Mem) (Q : Int → Mem → Prop) (K14 : Int → Mem → Prop) : Prop :=
  (((M 51 3) = 6 →
  Q (-4) M) ∧ (¬ (M 51 3) = 6 →
  K14 0 M))
set_option maxHeartbeats 4000000 in
set_option maxRecDepth 20000 in
theorem g_X10_text {n : Nat}  {M : Mem} {Q : Int → Mem → Prop}  (h : ∀ (K14 : Int → Mem → Prop), (∀ (x1 : Int) (M : Mem), B_X10_text_14 n  x1 M Q K14 → K14 x1 M) → B_X10_text n  M Q K14) : Con (n + 1) md_X10_text [vR 51] M Q := by
  refine Con.ofF (n := n + 1) (Nat.succ_pos n) pl_X10_text (Nat.le_of_ble_eq_true rfl) (fun X C E hnL => ?_)
  have C : Cx X cX10_text RX10 n := C
  show WM X 0 [(0, vR 51)] [] M
  have hb14 : ∀ (x1 : Int) (M : Mem), B_X10_text_14 n  x1 M Q (fun (x1 : Int) (M : Mem) => WM X 14 [(0, vR 51), (1, vI x1)] [] M) → WM X 14 [(0, vR 51), (1, vI x1)] [] M := by
    intro x1 M h
    unfold B_X10_text_14 at h
    refine m_iload_n C 1 dX10_text_14 rfl rfl ?_
    refine m_aload_n C 0 dX10_text_15 rfl rfl ?_
    refine m_getI C (k := 6) cl_X10 (by decide) so_51 rfl fl_X10_129 dX10_text_16 ?_
    refine m_icmp_ge C (tgt := 49) dX10_text_19 (by decide) (fun e => ?_) (fun e => ?_)
    · have h := h.1 e
      refine m_aload_n C 0 dX10_text_49 rfl rfl ?_
      refine m_getR C (k := 2) cl_X10 (by decide) so_51 rfl fl_X10_17 dX10_text_50 ?_
      refine m_aload_n C 0 dX10_text_53 rfl rfl ?_
      refine m_getI C (k := 3) cl_X10 (by decide) so_51 rfl fl_X10_73 dX10_text_54 ?_
      refine m_aload_n C 0 dX10_text_57 rfl rfl ?_
      refine m_getI C (k := 6) cl_X10 (by decide) so_51 rfl fl_X10_129 dX10_text_58 ?_
      refine m_iast C (N := 6) sa_53 h.1 dX10_text_61 ?_
      have h := h.2
      generalize eM1 : up M 53 (Int.toNat (M 51 3)) (M 51 6) = M1
      have h := h M1 eM1.symm
      refine m_aload_n C 0 dX10_text_62 rfl rfl ?_
      refine m_iconst C dX10_text_63 (r32_of rfl) ?_
      refine m_putI C (k := 6) cl_X10 (by decide) so_51 rfl rfl rfl fl_X10_129 dX10_text_64 ?_
      generalize eM2 : up M1 51 6 0 = M2
      have h := h M2 eM2.symm
      refine m_aload_n C 0 dX10_text_67 rfl rfl ?_
      refine m_aload_n C 0 dX10_text_68 rfl rfl ?_
      refine m_getI C (k := 3) cl_X10 (by decide) so_51 rfl fl_X10_73 dX10_text_69 ?_
      refine m_iconst C dX10_text_72 (r32_of rfl) ?_
      refine m_callVi C (as := [vI (M2 51 3), vI 0]) (rest := []) ok_X10_read ml_X10_243 so_51 rfl rfl rfl (Nat.le_of_ble_eq_true rfl) (fun _ => rfl) dX10_text_73 (Con.mono h (fun r3 M4 _ _ h => ?_))
      refine m_istore_n C (L' := [(1, vI r3), (0, vR 51)]) dX10_text_76 rfl (by rw [hnL]; decide) rfl ?_
      refine m_aload_n C 1 dX10_text_77 rfl rfl ?_
      refine m_getZ C (k := 28) cl_X10 (by decide) so_51 rfl fl_X10_164 dX10_text_78 ?_
      refine m_if_eq C (tgt := 92) dX10_text_81 (by decide) (fun e => ?_) (fun e => ?_)
      · have h := h.1 e
        refine m_aload_n C 1 dX10_text_92 rfl rfl ?_
        refine m_dupR C dX10_text_93 ?_
        refine m_getI C (k := 3) cl_X10 (by decide) so_51 rfl fl_X10_73 dX10_text_94 ?_
        refine m_iconst C dX10_text_97 (r32_of rfl) ?_
        refine m_iadd C dX10_text_98 ?_
        refine m_putI C (k := 3) cl_X10 (by decide) so_51 rfl rfl rfl fl_X10_73 dX10_text_99 ?_
        generalize eM5 : up M4 51 3 (w32 ((M4 51 3) + 1)) = M5
        have h := h M5 eM5.symm
        refine m_aload_n C 1 dX10_text_102 rfl rfl ?_
        refine m_getI C (k := 3) cl_X10 (by decide) so_51 rfl fl_X10_73 dX10_text_103 ?_
        refine m_iconst C dX10_text_106 (r32_of rfl) ?_
        refine m_isub C dX10_text_107 ?_
        exact m_iret C E (Or.inl rfl) dX10_text_108 h
      · have h := h.2 e
        refine m_bipush C dX10_text_84 (r32_of rfl) (by decide) ?_
        refine m_aload_n C 1 dX10_text_86 rfl rfl ?_
        refine m_getI C (k := 29) cl_X10 (by decide) so_51 rfl fl_X10_168 dX10_text_87 ?_
        refine m_isub C dX10_text_90 ?_
        exact m_iret C E (Or.inl rfl) dX10_text_91 h
    · have h := h.2 e
      refine m_aload_n C 0 dX10_text_22 rfl rfl ?_
      refine m_getR C (k := 1) cl_X10 (by decide) so_51 rfl fl_X10_13 dX10_text_23 ?_
      refine m_sipush C dX10_text_26 (r32_of rfl) (by decide) ?_
      refine m_aload_n C 0 dX10_text_29 rfl rfl ?_
      refine m_getI C (k := 3) cl_X10 (by decide) so_51 rfl fl_X10_73 dX10_text_30 ?_
      refine m_imul C dX10_text_33 ?_
      refine m_iload_n C 1 dX10_text_34 rfl rfl ?_
      refine m_iadd C dX10_text_35 ?_
      refine m_aload_n C 0 dX10_text_36 rfl rfl ?_
      refine m_getR C (k := 5) cl_X10 (by decide) so_51 rfl fl_X10_20 dX10_text_37 ?_
      refine m_iload_n C 1 dX10_text_40 rfl rfl ?_
      refine m_iald C (N := 160) sa_54 h.1 dX10_text_41 ?_
      have h := h.2
      refine m_iast C (N := 960) sa_52 h.1 dX10_text_42 ?_
      have h := h.2
      generalize eM6 : up M 52 (Int.toNat (w32 ((w32 (160 * (M 51 3))) + x1))) (M 54 (Int.toNat x1)) = M6
      have h := h M6 eM6.symm
      refine m_iinc C (L' := [(1, vI (w32 (x1 + 1))), (0, vR 51)]) 1 dX10_text_43 rfl (by rw [hnL]; decide) rfl ?_
      refine m_goto C (tgt := 14) dX10_text_46 (by decide) ?_
      exact m_sub [1, 0] rfl h
  have h := h (fun (x1 : Int) (M : Mem) => WM X 14 [(0, vR 51), (1, vI x1)] [] M) hb14
  unfold B_X10_text at h
  refine m_aload_n C 0 dX10_text_0 rfl rfl ?_
  refine m_getI C (k := 3) cl_X10 (by decide) so_51 rfl fl_X10_73 dX10_text_1 ?_
  refine m_bipush C dX10_text_4 (r32_of rfl) (by decide) ?_
  refine m_icmp_ne C (tgt := 12) dX10_text_6 (by decide) (fun e => ?_) (fun e => ?_)
  · have h := h.2 e
    refine m_iconst C dX10_text_12 (r32_of rfl) ?_
    refine m_istore_n C (L' := [(1, vI 0), (0, vR 51)]) dX10_text_13 rfl (by rw [hnL]; decide) rfl ?_
    exact m_sub [1, 0] rfl h
  · have h := h.1 e
    refine m_bipush C dX10_text_9 (r32_of rfl) (by decide) ?_
    exact m_iret C E (Or.inl rfl) dX10_text_11 h
def B_X10_force (n : Nat) (a1 : Int) (M : Mem) (Q : Int → Mem → Prop)  : Prop :=
  Con n md_X10_in [vL a1, vL 0, vL (w32 ((M 51 3) - 1))] M (fun r1 M2 =>
  ((r1 = 0 →
  Q (-2) M2) ∧ (¬ r1 = 0 →
  (∀ M3 : Mem, M3 = up M2 51 4 a1 →
    Q (M2 51 4) M3))))
set_option maxHeartbeats 4000000 in
set_option maxRecDepth 20000 in
theorem g_X10_force {n : Nat} {a1 : Int} {M : Mem} {Q : Int → Mem → Prop}  (h : B_X10_force n a1 M Q) : Con (n + 1) md_X10_force [vR 51, vI a1] M Q := by
  refine Con.ofF (n := n + 1) (Nat.succ_pos n) pl_X10_force (Nat.le_of_ble_eq_true rfl) (fun X C E hnL => ?_)
  have C : Cx X cX10_force RX10 n := C
  show WM X 0 [(0, vR 51), (1, vI a1)] [] M
  unfold B_X10_force at h
  refine m_iload_n C 1 dX10_force_0 rfl rfl ?_
  refine m_i2l C dX10_force_1 ?_
  refine m_lconst C (x := 0) dX10_force_2 (by decide) (r64_of rfl) ?_
  refine m_aload_n C 0 dX10_force_3 rfl rfl ?_
  refine m_getI C (k := 3) cl_X10 (by decide) so_51 rfl fl_X10_73 dX10_force_4 ?_
  refine m_iconst C dX10_force_7 (r32_of rfl) ?_
  refine m_isub C dX10_force_8 ?_
  refine m_i2l C dX10_force_9 ?_
  refine m_callSi C (as := [vL a1, vL 0, vL (w32 ((M 51 3) - 1))]) (rest := []) ok_X10_in ml_X10_79 rfl rfl (Nat.le_of_ble_eq_true rfl) (fun _ => rfl) dX10_force_10 (Con.mono h (fun r1 M2 _ _ h => ?_))
  refine m_if_ne C (tgt := 19) dX10_force_13 (by decide) (fun e => ?_) (fun e => ?_)
  · have h := h.2 e
    refine m_aload_n C 0 dX10_force_19 rfl rfl ?_
    refine m_getI C (k := 4) cl_X10 (by decide) so_51 rfl fl_X10_104 dX10_force_20 ?_
    refine m_istore_n C (L' := [(2, vI (M2 51 4)), (0, vR 51), (1, vI a1)]) dX10_force_23 rfl (by rw [hnL]; decide) rfl ?_
    refine m_aload_n C 1 dX10_force_24 rfl rfl ?_
    refine m_iload_n C 2 dX10_force_25 rfl rfl ?_
    refine m_putI C (k := 4) cl_X10 (by decide) so_51 rfl rfl rfl fl_X10_104 dX10_force_26 ?_
    generalize eM3 : up M2 51 4 a1 = M3
    have h := h M3 eM3.symm
    refine m_iload_n C 0 dX10_force_29 rfl rfl ?_
    exact m_iret C E (Or.inl rfl) dX10_force_30 h
  · have h := h.1 e
    refine m_bipush C dX10_force_16 (r32_of rfl) (by decide) ?_
    exact m_iret C E (Or.inl rfl) dX10_force_18 h
def B_X10_roomNow_7 (n : Nat)  (x1 : Int) (x2 : Int) (M : Mem) (Q : Int → Mem → Prop) (K7 : Int → Int → Mem → Prop) : Prop :=
  (((M 51 14) ≤ x2 →
  Q x1 M) ∧ (¬ (M 51 14) ≤ x2 →
  ((0 ≤ x2 ∧ x2 < 40) ∧ Con n md_X10_thickOf [vR 51, vI (M 57 (Int.toNat x2))] M (fun r1 M2 =>
    K7 (w32 (x1 - r1)) (w32 (x2 + 1)) M2))))
def B_X10_roomNow (n : Nat)  (M : Mem) (Q : Int → Mem → Prop) (K7 : Int → Int → Mem → Prop) : Prop :=
  K7 (M 51 7) 0 M
set_option maxHeartbeats 4000000 in
set_option maxRecDepth 20000 in
theorem g_X10_roomNow {n : Nat}  {M : Mem} {Q : Int → Mem → Prop}  (h : ∀ (K7 : Int → Int → Mem → Prop), (∀ (x1 : Int) (x2 : Int) (M : Mem), B_X10_roomNow_7 n  x1 x2 M Q K7 → K7 x1 x2 M) → B_X10_roomNow n  M Q K7) : Con (n + 1) md_X10_roomNow [vR 51] M Q := by
  refine Con.ofF (n := n + 1) (Nat.succ_pos n) pl_X10_roomNow (Nat.le_of_ble_eq_true rfl) (fun X C E hnL => ?_)
  have C : Cx X cX10_roomNow RX10 n := C
  show WM X 0 [(0, vR 51)] [] M
  have hb7 : ∀ (x1 : Int) (x2 : Int) (M : Mem), B_X10_roomNow_7 n  x1 x2 M Q (fun (x1 : Int) (x2 : Int) (M : Mem) => WM X 7 [(0, vR 51), (1, vI x1), (2, vI x2)] [] M) → WM X 7 [(0, vR 51), (1, vI x1), (2, vI x2)] [] M := by
    intro x1 x2 M h
    unfold B_X10_roomNow_7 at h
    refine m_iload_n C 2 dX10_roomNow_7 rfl rfl ?_
    refine m_aload_n C 0 dX10_roomNow_8 rfl rfl ?_
    refine m_getI C (k := 14) cl_X10 (by decide) so_51 rfl fl_X10_246 dX10_roomNow_9 ?_
    refine m_icmp_ge C (tgt := 34) dX10_roomNow_12 (by decide) (fun e => ?_) (fun e => ?_)
    · have h := h.1 e
      refine m_iload_n C 1 dX10_roomNow_34 rfl rfl ?_
      exact m_iret C E (Or.inl rfl) dX10_roomNow_35 h
    · have h := h.2 e
      refine m_iload_n C 1 dX10_roomNow_15 rfl rfl ?_
      refine m_aload_n C 0 dX10_roomNow_16 rfl rfl ?_
      refine m_aload_n C 0 dX10_roomNow_17 rfl rfl ?_
      refine m_getR C (k := 12) cl_X10 (by decide) so_51 rfl fl_X10_32 dX10_roomNow_18 ?_
      refine m_iload_n C 2 dX10_roomNow_21 rfl rfl ?_
      refine m_iald C (N := 40) sa_57 h.1 dX10_roomNow_22 ?_
      have h := h.2
      refine m_callVi C (as := [vI (M 57 (Int.toNat x2))]) (rest := [vI x1]) ok_X10_thickOf ml_X10_111 so_51 rfl rfl rfl (Nat.le_of_ble_eq_true rfl) (fun _ => rfl) dX10_roomNow_23 (Con.mono h (fun r1 M2 _ _ h => ?_))
      refine m_isub C dX10_roomNow_26 ?_
      refine m_istore_n C (L' := [(1, vI (w32 (x1 - r1))), (0, vR 51), (2, vI x2)]) dX10_roomNow_27 rfl (by rw [hnL]; decide) rfl ?_
      refine m_iinc C (L' := [(2, vI (w32 (x2 + 1))), (1, vI (w32 (x1 - r1))), (0, vR 51)]) 2 dX10_roomNow_28 rfl (by rw [hnL]; decide) rfl ?_
      refine m_goto C (tgt := 7) dX10_roomNow_31 (by decide) ?_
      exact m_sub [2, 1, 0] rfl h
  have h := h (fun (x1 : Int) (x2 : Int) (M : Mem) => WM X 7 [(0, vR 51), (1, vI x1), (2, vI x2)] [] M) hb7
  unfold B_X10_roomNow at h
  refine m_aload_n C 0 dX10_roomNow_0 rfl rfl ?_
  refine m_getI C (k := 7) cl_X10 (by decide) so_51 rfl fl_X10_23 dX10_roomNow_1 ?_
  refine m_istore_n C (L' := [(1, vI (M 51 7)), (0, vR 51)]) dX10_roomNow_4 rfl (by rw [hnL]; decide) rfl ?_
  refine m_iconst C dX10_roomNow_5 (r32_of rfl) ?_
  refine m_istore_n C (L' := [(2, vI 0), (1, vI (M 51 7)), (0, vR 51)]) dX10_roomNow_6 rfl (by rw [hnL]; decide) rfl ?_
  exact m_sub [2, 1, 0] rfl h
def B_X10_lastAngle (n : Nat)  (M : Mem) (Q : Int → Mem → Prop)  : Prop :=
  (((M 51 14) = 0 →
  Q (M 51 8) M) ∧ (¬ (M 51 14) = 0 →
  ((0 ≤ (w32 ((M 51 14) - 1)) ∧ (w32 ((M 51 14) - 1)) < 40) ∧ Q (M 58 (Int.toNat (w32 ((M 51 14) - 1)))) M)))
set_option maxHeartbeats 4000000 in
set_option maxRecDepth 20000 in
theorem g_X10_lastAngle {n : Nat}  {M : Mem} {Q : Int → Mem → Prop}  (h : B_X10_lastAngle n  M Q) : Con (n + 1) md_X10_lastAngle [vR 51] M Q := by
  refine Con.ofF (n := n + 1) (Nat.succ_pos n) pl_X10_lastAngle (Nat.le_of_ble_eq_true rfl) (fun X C E hnL => ?_)
  have C : Cx X cX10_lastAngle RX10 n := C
  show WM X 0 [(0, vR 51)] [] M
  unfold B_X10_lastAngle at h
  refine m_aload_n C 0 dX10_lastAngle_0 rfl rfl ?_
  refine m_getI C (k := 14) cl_X10 (by decide) so_51 rfl fl_X10_246 dX10_lastAngle_1 ?_
  refine m_if_ne C (tgt := 14) dX10_lastAngle_4 (by decide) (fun e => ?_) (fun e => ?_)
  · have h := h.2 e
    refine m_aload_n C 0 dX10_lastAngle_14 rfl rfl ?_
    refine m_getR C (k := 13) cl_X10 (by decide) so_51 rfl fl_X10_35 dX10_lastAngle_15 ?_
    refine m_aload_n C 0 dX10_lastAngle_18 rfl rfl ?_
    refine m_getI C (k := 14) cl_X10 (by decide) so_51 rfl fl_X10_246 dX10_lastAngle_19 ?_
    refine m_iconst C dX10_lastAngle_22 (r32_of rfl) ?_
    refine m_isub C dX10_lastAngle_23 ?_
    refine m_iald C (N := 40) sa_58 h.1 dX10_lastAngle_24 ?_
    have h := h.2
    exact m_iret C E (Or.inl rfl) dX10_lastAngle_25 h
  · have h := h.1 e
    refine m_aload_n C 0 dX10_lastAngle_7 rfl rfl ?_
    refine m_getI C (k := 8) cl_X10 (by decide) so_51 rfl fl_X10_101 dX10_lastAngle_8 ?_
    refine m_goto C (tgt := 25) dX10_lastAngle_11 (by decide) ?_
    exact m_iret C E (Or.inl rfl) dX10_lastAngle_25 h
def B_X10_looks (n : Nat) (a1 : Int) (M : Mem) (Q : Int → Mem → Prop)  : Prop :=
  (∀ M1 : Mem, M1 = up M 51 15 (M 51 14) →
  ((0 ≤ (w32 ((w32 (3 * a1)) + 1)) ∧ (w32 ((w32 (3 * a1)) + 1)) < 18) ∧ (∀ M2 : Mem, M2 = up M1 51 16 (M1 56 (Int.toNat (w32 ((w32 (3 * a1)) + 1)))) →
  ((0 ≤ (w32 (3 * a1)) ∧ (w32 (3 * a1)) < 18) ∧ (∀ M3 : Mem, M3 = up M2 51 17 (M2 56 (Int.toNat (w32 (3 * a1)))) →
  Con n md_X10_lastAngle [vR 51] M3 (fun r4 M5 =>
  (∀ M6 : Mem, M6 = up M5 51 18 r4 →
  ((0 ≤ (w32 ((w32 (3 * a1)) + 2)) ∧ (w32 ((w32 (3 * a1)) + 2)) < 18) ∧ (∀ M7 : Mem, M7 = up M6 51 19 (M6 56 (Int.toNat (w32 ((w32 (3 * a1)) + 2)))) →
  Con n md_X10_roomNow [vR 51] M7 (fun r8 M9 =>
  (∀ M10 : Mem, M10 = up M9 51 20 r8 →
  Q 0 M10)))))))))))
set_option maxHeartbeats 4000000 in
set_option maxRecDepth 20000 in
theorem g_X10_looks {n : Nat} {a1 : Int} {M : Mem} {Q : Int → Mem → Prop}  (h : B_X10_looks n a1 M Q) : Con (n + 1) md_X10_looks [vR 51, vI a1] M Q := by
  refine Con.ofF (n := n + 1) (Nat.succ_pos n) pl_X10_looks (Nat.le_of_ble_eq_true rfl) (fun X C E hnL => ?_)
  have C : Cx X cX10_looks RX10 n := C
  show WM X 0 [(0, vR 51), (1, vI a1)] [] M
  unfold B_X10_looks at h
  refine m_aload_n C 0 dX10_looks_0 rfl rfl ?_
  refine m_aload_n C 0 dX10_looks_1 rfl rfl ?_
  refine m_getI C (k := 14) cl_X10 (by decide) so_51 rfl fl_X10_246 dX10_looks_2 ?_
  refine m_putI C (k := 15) cl_X10 (by decide) so_51 rfl rfl rfl fl_X10_188 dX10_looks_5 ?_
  generalize eM1 : up M 51 15 (M 51 14) = M1
  have h := h M1 eM1.symm
  refine m_aload_n C 0 dX10_looks_8 rfl rfl ?_
  refine m_aload_n C 0 dX10_looks_9 rfl rfl ?_
  refine m_getR C (k := 10) cl_X10 (by decide) so_51 rfl fl_X10_29 dX10_looks_10 ?_
  refine m_iconst C dX10_looks_13 (r32_of rfl) ?_
  refine m_iload_n C 1 dX10_looks_14 rfl rfl ?_
  refine m_imul C dX10_looks_15 ?_
  refine m_iconst C dX10_looks_16 (r32_of rfl) ?_
  refine m_iadd C dX10_looks_17 ?_
  refine m_iald C (N := 18) sa_56 h.1 dX10_looks_18 ?_
  have h := h.2
  refine m_putI C (k := 16) cl_X10 (by decide) so_51 rfl rfl rfl fl_X10_191 dX10_looks_19 ?_
  generalize eM2 : up M1 51 16 (M1 56 (Int.toNat (w32 ((w32 (3 * a1)) + 1)))) = M2
  have h := h M2 eM2.symm
  refine m_aload_n C 0 dX10_looks_22 rfl rfl ?_
  refine m_aload_n C 0 dX10_looks_23 rfl rfl ?_
  refine m_getR C (k := 10) cl_X10 (by decide) so_51 rfl fl_X10_29 dX10_looks_24 ?_
  refine m_iconst C dX10_looks_27 (r32_of rfl) ?_
  refine m_iload_n C 1 dX10_looks_28 rfl rfl ?_
  refine m_imul C dX10_looks_29 ?_
  refine m_iald C (N := 18) sa_56 h.1 dX10_looks_30 ?_
  have h := h.2
  refine m_putI C (k := 17) cl_X10 (by decide) so_51 rfl rfl rfl fl_X10_194 dX10_looks_31 ?_
  generalize eM3 : up M2 51 17 (M2 56 (Int.toNat (w32 (3 * a1)))) = M3
  have h := h M3 eM3.symm
  refine m_aload_n C 0 dX10_looks_34 rfl rfl ?_
  refine m_aload_n C 0 dX10_looks_35 rfl rfl ?_
  refine m_callVi C (as := []) (rest := [vR 51]) ok_X10_lastAngle ml_X10_249 so_51 rfl rfl rfl (Nat.le_of_ble_eq_true rfl) (fun _ => rfl) dX10_looks_36 (Con.mono h (fun r4 M5 _ _ h => ?_))
  refine m_putI C (k := 18) cl_X10 (by decide) so_51 rfl rfl rfl fl_X10_197 dX10_looks_39 ?_
  generalize eM6 : up M5 51 18 r4 = M6
  have h := h M6 eM6.symm
  refine m_aload_n C 0 dX10_looks_42 rfl rfl ?_
  refine m_aload_n C 0 dX10_looks_43 rfl rfl ?_
  refine m_getR C (k := 10) cl_X10 (by decide) so_51 rfl fl_X10_29 dX10_looks_44 ?_
  refine m_iconst C dX10_looks_47 (r32_of rfl) ?_
  refine m_iload_n C 1 dX10_looks_48 rfl rfl ?_
  refine m_imul C dX10_looks_49 ?_
  refine m_iconst C dX10_looks_50 (r32_of rfl) ?_
  refine m_iadd C dX10_looks_51 ?_
  refine m_iald C (N := 18) sa_56 h.1 dX10_looks_52 ?_
  have h := h.2
  refine m_putI C (k := 19) cl_X10 (by decide) so_51 rfl rfl rfl fl_X10_200 dX10_looks_53 ?_
  generalize eM7 : up M6 51 19 (M6 56 (Int.toNat (w32 ((w32 (3 * a1)) + 2)))) = M7
  have h := h M7 eM7.symm
  refine m_aload_n C 0 dX10_looks_56 rfl rfl ?_
  refine m_aload_n C 0 dX10_looks_57 rfl rfl ?_
  refine m_callVi C (as := []) (rest := [vR 51]) ok_X10_roomNow ml_X10_252 so_51 rfl rfl rfl (Nat.le_of_ble_eq_true rfl) (fun _ => rfl) dX10_looks_58 (Con.mono h (fun r8 M9 _ _ h => ?_))
  refine m_putI C (k := 20) cl_X10 (by decide) so_51 rfl rfl rfl fl_X10_203 dX10_looks_61 ?_
  generalize eM10 : up M9 51 20 r8 = M10
  have h := h M10 eM10.symm
  exact m_vret C E dX10_looks_64 h
def B_X10_turnsOf (n : Nat) (a1 : Int) (M : Mem) (Q : Int → Mem → Prop)  : Prop :=
  ((0 ≤ a1 ∧ a1 < 6) ∧ Con n md_X10_read [vR 51, vI (M 51 4), vI 0] M (fun r1 M2 =>
  Con n md_X10_within [vI r1, vI (-16), vI 16] M2 (fun r3 M4 =>
  (((M 55 (Int.toNat a1)) = 1 →
  Q (w32 (r3 + 1)) M4) ∧ (¬ (M 55 (Int.toNat a1)) = 1 →
  (((M 55 (Int.toNat a1)) = 3 →
    Q (w32 (r3 + 1)) M4) ∧ (¬ (M 55 (Int.toNat a1)) = 3 →
    (((M 55 (Int.toNat a1)) = 4 →
      Q (w32 (2 * r3)) M4) ∧ (¬ (M 55 (Int.toNat a1)) = 4 →
      (((M 55 (Int.toNat a1)) = 5 →
        Q (w32 (-r3)) M4) ∧ (¬ (M 55 (Int.toNat a1)) = 5 →
        Q r3 M4)))))))))))
set_option maxHeartbeats 4000000 in
set_option maxRecDepth 20000 in
theorem g_X10_turnsOf {n : Nat} {a1 : Int} {M : Mem} {Q : Int → Mem → Prop}  (h : B_X10_turnsOf n a1 M Q) : Con (n + 1) md_X10_turnsOf [vR 51, vI a1] M Q := by
  refine Con.ofF (n := n + 1) (Nat.succ_pos n) pl_X10_turnsOf (Nat.le_of_ble_eq_true rfl) (fun X C E hnL => ?_)
  have C : Cx X cX10_turnsOf RX10 n := C
  show WM X 0 [(0, vR 51), (1, vI a1)] [] M
  unfold B_X10_turnsOf at h
  refine m_aload_n C 0 dX10_turnsOf_0 rfl rfl ?_
  refine m_getR C (k := 9) cl_X10 (by decide) so_51 rfl fl_X10_26 dX10_turnsOf_1 ?_
  refine m_iload_n C 1 dX10_turnsOf_4 rfl rfl ?_
  refine m_iald C (N := 6) sa_55 h.1 dX10_turnsOf_5 ?_
  have h := h.2
  refine m_istore_n C (L' := [(2, vI (M 55 (Int.toNat a1))), (0, vR 51), (1, vI a1)]) dX10_turnsOf_6 rfl (by rw [hnL]; decide) rfl ?_
  refine m_aload_n C 1 dX10_turnsOf_7 rfl rfl ?_
  refine m_aload_n C 1 dX10_turnsOf_8 rfl rfl ?_
  refine m_getI C (k := 4) cl_X10 (by decide) so_51 rfl fl_X10_104 dX10_turnsOf_9 ?_
  refine m_iconst C dX10_turnsOf_12 (r32_of rfl) ?_
  refine m_callVi C (as := [vI (M 51 4), vI 0]) (rest := []) ok_X10_read ml_X10_243 so_51 rfl rfl rfl (Nat.le_of_ble_eq_true rfl) (fun _ => rfl) dX10_turnsOf_13 (Con.mono h (fun r1 M2 _ _ h => ?_))
  refine m_bipush C dX10_turnsOf_16 (r32_of rfl) (by decide) ?_
  refine m_bipush C dX10_turnsOf_18 (r32_of rfl) (by decide) ?_
  refine m_callSi C (as := [vI r1, vI (-16), vI 16]) (rest := []) ok_X10_within ml_X10_255 rfl rfl (Nat.le_of_ble_eq_true rfl) (fun _ => rfl) dX10_turnsOf_20 (Con.mono h (fun r3 M4 _ _ h => ?_))
  refine m_istore_n C (L' := [(3, vI r3), (2, vI (M 55 (Int.toNat a1))), (0, vR 51), (1, vI a1)]) dX10_turnsOf_23 rfl (by rw [hnL]; decide) rfl ?_
  refine m_iload_n C 1 dX10_turnsOf_24 rfl rfl ?_
  refine m_iconst C dX10_turnsOf_25 (r32_of rfl) ?_
  refine m_icmp_eq C (tgt := 34) dX10_turnsOf_26 (by decide) (fun e => ?_) (fun e => ?_)
  · have h := h.1 e
    refine m_iload_n C 0 dX10_turnsOf_34 rfl rfl ?_
    refine m_iconst C dX10_turnsOf_35 (r32_of rfl) ?_
    refine m_iadd C dX10_turnsOf_36 ?_
    refine m_goto C (tgt := 62) dX10_turnsOf_37 (by decide) ?_
    exact m_iret C E (Or.inl rfl) dX10_turnsOf_62 h
  · have h := h.2 e
    refine m_iload_n C 1 dX10_turnsOf_29 rfl rfl ?_
    refine m_iconst C dX10_turnsOf_30 (r32_of rfl) ?_
    refine m_icmp_ne C (tgt := 40) dX10_turnsOf_31 (by decide) (fun e => ?_) (fun e => ?_)
    · have h := h.2 e
      refine m_iload_n C 1 dX10_turnsOf_40 rfl rfl ?_
      refine m_iconst C dX10_turnsOf_41 (r32_of rfl) ?_
      refine m_icmp_ne C (tgt := 51) dX10_turnsOf_42 (by decide) (fun e => ?_) (fun e => ?_)
      · have h := h.2 e
        refine m_iload_n C 1 dX10_turnsOf_51 rfl rfl ?_
        refine m_iconst C dX10_turnsOf_52 (r32_of rfl) ?_
        refine m_icmp_ne C (tgt := 61) dX10_turnsOf_53 (by decide) (fun e => ?_) (fun e => ?_)
        · have h := h.2 e
          refine m_iload_n C 0 dX10_turnsOf_61 rfl rfl ?_
          exact m_iret C E (Or.inl rfl) dX10_turnsOf_62 h
        · have h := h.1 e
          refine m_iload_n C 0 dX10_turnsOf_56 rfl rfl ?_
          refine m_ineg C dX10_turnsOf_57 ?_
          refine m_goto C (tgt := 62) dX10_turnsOf_58 (by decide) ?_
          exact m_iret C E (Or.inl rfl) dX10_turnsOf_62 h
      · have h := h.1 e
        refine m_iconst C dX10_turnsOf_45 (r32_of rfl) ?_
        refine m_iload_n C 0 dX10_turnsOf_46 rfl rfl ?_
        refine m_imul C dX10_turnsOf_47 ?_
        refine m_goto C (tgt := 62) dX10_turnsOf_48 (by decide) ?_
        exact m_iret C E (Or.inl rfl) dX10_turnsOf_62 h
    · have h := h.1 e
      refine m_iload_n C 0 dX10_turnsOf_34 rfl rfl ?_
      refine m_iconst C dX10_turnsOf_35 (r32_of rfl) ?_
      refine m_iadd C dX10_turnsOf_36 ?_
      refine m_goto C (tgt := 62) dX10_turnsOf_37 (by decide) ?_
      exact m_iret C E (Or.inl rfl) dX10_turnsOf_62 h
def B_X10_costsOf (n : Nat) (a1 : Int) (M : Mem) (Q : Int → Mem → Prop)  : Prop :=
  ((0 ≤ a1 ∧ a1 < 6) ∧ Con n md_X10_read [vR 51, vI (M 51 4), vI 1] M (fun r1 M2 =>
  Con n md_X10_within [vI r1, vI 0, vI 999] M2 (fun r3 M4 =>
  (((M 55 (Int.toNat a1)) = 1 →
  ((0 ≤ (w32 (2 * r3)) →
    Q (w32 (2 * r3)) M4) ∧ (¬ 0 ≤ (w32 (2 * r3)) →
    Q 0 M4))) ∧ (¬ (M 55 (Int.toNat a1)) = 1 →
  (((M 55 (Int.toNat a1)) = 3 →
    ((0 ≤ (w32 (3 * a1)) ∧ (w32 (3 * a1)) < 18) ∧ ((0 ≤ (w32 ((w32 (2 * r3)) - (M4 56 (Int.toNat (w32 (3 * a1)))))) →
      Q (w32 ((w32 (2 * r3)) - (M4 56 (Int.toNat (w32 (3 * a1)))))) M4) ∧ (¬ 0 ≤ (w32 ((w32 (2 * r3)) - (M4 56 (Int.toNat (w32 (3 * a1)))))) →
      Q 0 M4)))) ∧ (¬ (M 55 (Int.toNat a1)) = 3 →
    (((M 55 (Int.toNat a1)) = 2 →
      ((0 ≤ (w32 (Int.tdiv r3 2)) →
        Q (w32 (Int.tdiv r3 2)) M4) ∧ (¬ 0 ≤ (w32 (Int.tdiv r3 2)) →
        Q 0 M4))) ∧ (¬ (M 55 (Int.toNat a1)) = 2 →
      (((M 55 (Int.toNat a1)) = 4 →
        ((0 ≤ (w32 (Int.tdiv r3 2)) →
          Q (w32 (Int.tdiv r3 2)) M4) ∧ (¬ 0 ≤ (w32 (Int.tdiv r3 2)) →
          Q 0 M4))) ∧ (¬ (M 55 (Int.toNat a1)) = 4 →
        ((0 ≤ r3 →
          Q r3 M4) ∧ (¬ 0 ≤ r3 →
          Q 0 M4)))))))))))))
set_option maxHeartbeats 4000000 in
set_option maxRecDepth 20000 in
theorem g_X10_costsOf {n : Nat} {a1 : Int} {M : Mem} {Q : Int → Mem → Prop}  (h : B_X10_costsOf n a1 M Q) : Con (n + 1) md_X10_costsOf [vR 51, vI a1] M Q := by
  refine Con.ofF (n := n + 1) (Nat.succ_pos n) pl_X10_costsOf (Nat.le_of_ble_eq_true rfl) (fun X C E hnL => ?_)
  have C : Cx X cX10_costsOf RX10 n := C
  show WM X 0 [(0, vR 51), (1, vI a1)] [] M
  unfold B_X10_costsOf at h
  refine m_aload_n C 0 dX10_costsOf_0 rfl rfl ?_
  refine m_getR C (k := 9) cl_X10 (by decide) so_51 rfl fl_X10_26 dX10_costsOf_1 ?_
  refine m_iload_n C 1 dX10_costsOf_4 rfl rfl ?_
  refine m_iald C (N := 6) sa_55 h.1 dX10_costsOf_5 ?_
  have h := h.2
  refine m_istore_n C (L' := [(2, vI (M 55 (Int.toNat a1))), (0, vR 51), (1, vI a1)]) dX10_costsOf_6 rfl (by rw [hnL]; decide) rfl ?_
  refine m_aload_n C 1 dX10_costsOf_7 rfl rfl ?_
  refine m_aload_n C 1 dX10_costsOf_8 rfl rfl ?_
  refine m_getI C (k := 4) cl_X10 (by decide) so_51 rfl fl_X10_104 dX10_costsOf_9 ?_
  refine m_iconst C dX10_costsOf_12 (r32_of rfl) ?_
  refine m_callVi C (as := [vI (M 51 4), vI 1]) (rest := []) ok_X10_read ml_X10_243 so_51 rfl rfl rfl (Nat.le_of_ble_eq_true rfl) (fun _ => rfl) dX10_costsOf_13 (Con.mono h (fun r1 M2 _ _ h => ?_))
  refine m_iconst C dX10_costsOf_16 (r32_of rfl) ?_
  refine m_sipush C dX10_costsOf_17 (r32_of rfl) (by decide) ?_
  refine m_callSi C (as := [vI r1, vI 0, vI 999]) (rest := []) ok_X10_within ml_X10_255 rfl rfl (Nat.le_of_ble_eq_true rfl) (fun _ => rfl) dX10_costsOf_20 (Con.mono h (fun r3 M4 _ _ h => ?_))
  refine m_istore_n C (L' := [(3, vI r3), (2, vI (M 55 (Int.toNat a1))), (0, vR 51), (1, vI a1)]) dX10_costsOf_23 rfl (by rw [hnL]; decide) rfl ?_
  refine m_iload_n C 1 dX10_costsOf_24 rfl rfl ?_
  refine m_iconst C dX10_costsOf_25 (r32_of rfl) ?_
  refine m_icmp_ne C (tgt := 35) dX10_costsOf_26 (by decide) (fun e => ?_) (fun e => ?_)
  · have h := h.2 e
    refine m_iload_n C 1 dX10_costsOf_35 rfl rfl ?_
    refine m_iconst C dX10_costsOf_36 (r32_of rfl) ?_
    refine m_icmp_ne C (tgt := 55) dX10_costsOf_37 (by decide) (fun e => ?_) (fun e => ?_)
    · have h := h.2 e
      refine m_iload_n C 1 dX10_costsOf_55 rfl rfl ?_
      refine m_iconst C dX10_costsOf_56 (r32_of rfl) ?_
      refine m_icmp_eq C (tgt := 65) dX10_costsOf_57 (by decide) (fun e => ?_) (fun e => ?_)
      · have h := h.1 e
        refine m_iload_n C 0 dX10_costsOf_65 rfl rfl ?_
        refine m_iconst C dX10_costsOf_66 (r32_of rfl) ?_
        refine m_idiv C dX10_costsOf_67 (by decide) ?_
        refine m_goto C (tgt := 72) dX10_costsOf_68 (by decide) ?_
        refine m_istore C (L' := [(4, vI (w32 (Int.tdiv r3 2))), (3, vI r3), (2, vI (M 55 (Int.toNat a1))), (0, vR 51), (1, vI a1)]) dX10_costsOf_72 (by rw [hnL]; decide) rfl ?_
        refine m_iload C 0 dX10_costsOf_74 rfl ?_
        refine m_if_ge C (tgt := 83) dX10_costsOf_76 (by decide) (fun e => ?_) (fun e => ?_)
        · have h := h.1 e
          refine m_iload C 0 dX10_costsOf_83 rfl ?_
          exact m_iret C E (Or.inl rfl) dX10_costsOf_85 h
        · have h := h.2 e
          refine m_iconst C dX10_costsOf_79 (r32_of rfl) ?_
          refine m_goto C (tgt := 85) dX10_costsOf_80 (by decide) ?_
          exact m_iret C E (Or.inl rfl) dX10_costsOf_85 h
      · have h := h.2 e
        refine m_iload_n C 1 dX10_costsOf_60 rfl rfl ?_
        refine m_iconst C dX10_costsOf_61 (r32_of rfl) ?_
        refine m_icmp_ne C (tgt := 71) dX10_costsOf_62 (by decide) (fun e => ?_) (fun e => ?_)
        · have h := h.2 e
          refine m_iload_n C 0 dX10_costsOf_71 rfl rfl ?_
          refine m_istore C (L' := [(4, vI r3), (3, vI r3), (2, vI (M 55 (Int.toNat a1))), (0, vR 51), (1, vI a1)]) dX10_costsOf_72 (by rw [hnL]; decide) rfl ?_
          refine m_iload C 0 dX10_costsOf_74 rfl ?_
          refine m_if_ge C (tgt := 83) dX10_costsOf_76 (by decide) (fun e => ?_) (fun e => ?_)
          · have h := h.1 e
            refine m_iload C 0 dX10_costsOf_83 rfl ?_
            exact m_iret C E (Or.inl rfl) dX10_costsOf_85 h
          · have h := h.2 e
            refine m_iconst C dX10_costsOf_79 (r32_of rfl) ?_
            refine m_goto C (tgt := 85) dX10_costsOf_80 (by decide) ?_
            exact m_iret C E (Or.inl rfl) dX10_costsOf_85 h
        · have h := h.1 e
          refine m_iload_n C 0 dX10_costsOf_65 rfl rfl ?_
          refine m_iconst C dX10_costsOf_66 (r32_of rfl) ?_
          refine m_idiv C dX10_costsOf_67 (by decide) ?_
          refine m_goto C (tgt := 72) dX10_costsOf_68 (by decide) ?_
          refine m_istore C (L' := [(4, vI (w32 (Int.tdiv r3 2))), (3, vI r3), (2, vI (M 55 (Int.toNat a1))), (0, vR 51), (1, vI a1)]) dX10_costsOf_72 (by rw [hnL]; decide) rfl ?_
          refine m_iload C 0 dX10_costsOf_74 rfl ?_
          refine m_if_ge C (tgt := 83) dX10_costsOf_76 (by decide) (fun e => ?_) (fun e => ?_)
          · have h := h.1 e
            refine m_iload C 0 dX10_costsOf_83 rfl ?_
            exact m_iret C E (Or.inl rfl) dX10_costsOf_85 h
          · have h := h.2 e
            refine m_iconst C dX10_costsOf_79 (r32_of rfl) ?_
            refine m_goto C (tgt := 85) dX10_costsOf_80 (by decide) ?_
            exact m_iret C E (Or.inl rfl) dX10_costsOf_85 h
    · have h := h.1 e
      refine m_iconst C dX10_costsOf_40 (r32_of rfl) ?_
      refine m_iload_n C 0 dX10_costsOf_41 rfl rfl ?_
      refine m_imul C dX10_costsOf_42 ?_
      refine m_aload_n C 2 dX10_costsOf_43 rfl rfl ?_
      refine m_getR C (k := 10) cl_X10 (by decide) so_51 rfl fl_X10_29 dX10_costsOf_44 ?_
      refine m_iconst C dX10_costsOf_47 (r32_of rfl) ?_
      refine m_iload_n C 3 dX10_costsOf_48 rfl rfl ?_
      refine m_imul C dX10_costsOf_49 ?_
      refine m_iald C (N := 18) sa_56 h.1 dX10_costsOf_50 ?_
      have h := h.2
      refine m_isub C dX10_costsOf_51 ?_
      refine m_goto C (tgt := 72) dX10_costsOf_52 (by decide) ?_
      refine m_istore C (L' := [(4, vI (w32 ((w32 (2 * r3)) - (M4 56 (Int.toNat (w32 (3 * a1))))))), (3, vI r3), (2, vI (M 55 (Int.toNat a1))), (0, vR 51), (1, vI a1)]) dX10_costsOf_72 (by rw [hnL]; decide) rfl ?_
      refine m_iload C 0 dX10_costsOf_74 rfl ?_
      refine m_if_ge C (tgt := 83) dX10_costsOf_76 (by decide) (fun e => ?_) (fun e => ?_)
      · have h := h.1 e
        refine m_iload C 0 dX10_costsOf_83 rfl ?_
        exact m_iret C E (Or.inl rfl) dX10_costsOf_85 h
      · have h := h.2 e
        refine m_iconst C dX10_costsOf_79 (r32_of rfl) ?_
        refine m_goto C (tgt := 85) dX10_costsOf_80 (by decide) ?_
        exact m_iret C E (Or.inl rfl) dX10_costsOf_85 h
  · have h := h.1 e
    refine m_iconst C dX10_costsOf_29 (r32_of rfl) ?_
    refine m_iload_n C 0 dX10_costsOf_30 rfl rfl ?_
    refine m_imul C dX10_costsOf_31 ?_
    refine m_goto C (tgt := 72) dX10_costsOf_32 (by decide) ?_
    refine m_istore C (L' := [(4, vI (w32 (2 * r3))), (3, vI r3), (2, vI (M 55 (Int.toNat a1))), (0, vR 51), (1, vI a1)]) dX10_costsOf_72 (by rw [hnL]; decide) rfl ?_
    refine m_iload C 0 dX10_costsOf_74 rfl ?_
    refine m_if_ge C (tgt := 83) dX10_costsOf_76 (by decide) (fun e => ?_) (fun e => ?_)
    · have h := h.1 e
      refine m_iload C 0 dX10_costsOf_83 rfl ?_
      exact m_iret C E (Or.inl rfl) dX10_costsOf_85 h
    · have h := h.2 e
      refine m_iconst C dX10_costsOf_79 (r32_of rfl) ?_
      refine m_goto C (tgt := 85) dX10_costsOf_80 (by decide) ?_
      exact m_iret C E (Or.inl rfl) dX10_costsOf_85 h
def B_X10_lastsOf (n : Nat) (a1 : Int) (M : Mem) (Q : Int → Mem → Prop)  : Prop :=
  ((0 ≤ a1 ∧ a1 < 6) ∧ Con n md_X10_read [vR 51, vI (M 51 4), vI 2] M (fun r1 M2 =>
  Con n md_X10_within [vI r1, vI 0, vI 30] M2 (fun r3 M4 =>
  (((M 55 (Int.toNat a1)) = 2 →
  Q (w32 (2 * r3)) M4) ∧ (¬ (M 55 (Int.toNat a1)) = 2 →
  (((M 55 (Int.toNat a1)) = 4 →
    ((0 ≤ (w32 (3 * a1)) ∧ (w32 (3 * a1)) < 18) ∧ Q (w32 ((w32 (2 * r3)) + (M4 56 (Int.toNat (w32 (3 * a1)))))) M4)) ∧ (¬ (M 55 (Int.toNat a1)) = 4 →
    (((M 55 (Int.toNat a1)) = 3 →
      Q (w32 (r3 + 1)) M4) ∧ (¬ (M 55 (Int.toNat a1)) = 3 →
      (((M 55 (Int.toNat a1)) = 5 →
        Q 1 M4) ∧ (¬ (M 55 (Int.toNat a1)) = 5 →
        Q r3 M4)))))))))))
set_option maxHeartbeats 4000000 in
set_option maxRecDepth 20000 in
theorem g_X10_lastsOf {n : Nat} {a1 : Int} {M : Mem} {Q : Int → Mem → Prop}  (h : B_X10_lastsOf n a1 M Q) : Con (n + 1) md_X10_lastsOf [vR 51, vI a1] M Q := by
  refine Con.ofF (n := n + 1) (Nat.succ_pos n) pl_X10_lastsOf (Nat.le_of_ble_eq_true rfl) (fun X C E hnL => ?_)
  have C : Cx X cX10_lastsOf RX10 n := C
  show WM X 0 [(0, vR 51), (1, vI a1)] [] M
  unfold B_X10_lastsOf at h
  refine m_aload_n C 0 dX10_lastsOf_0 rfl rfl ?_
  refine m_getR C (k := 9) cl_X10 (by decide) so_51 rfl fl_X10_26 dX10_lastsOf_1 ?_
  refine m_iload_n C 1 dX10_lastsOf_4 rfl rfl ?_
  refine m_iald C (N := 6) sa_55 h.1 dX10_lastsOf_5 ?_
  have h := h.2
  refine m_istore_n C (L' := [(2, vI (M 55 (Int.toNat a1))), (0, vR 51), (1, vI a1)]) dX10_lastsOf_6 rfl (by rw [hnL]; decide) rfl ?_
  refine m_aload_n C 1 dX10_lastsOf_7 rfl rfl ?_
  refine m_aload_n C 1 dX10_lastsOf_8 rfl rfl ?_
  refine m_getI C (k := 4) cl_X10 (by decide) so_51 rfl fl_X10_104 dX10_lastsOf_9 ?_
  refine m_iconst C dX10_lastsOf_12 (r32_of rfl) ?_
  refine m_callVi C (as := [vI (M 51 4), vI 2]) (rest := []) ok_X10_read ml_X10_243 so_51 rfl rfl rfl (Nat.le_of_ble_eq_true rfl) (fun _ => rfl) dX10_lastsOf_13 (Con.mono h (fun r1 M2 _ _ h => ?_))
  refine m_iconst C dX10_lastsOf_16 (r32_of rfl) ?_
  refine m_bipush C dX10_lastsOf_17 (r32_of rfl) (by decide) ?_
  refine m_callSi C (as := [vI r1, vI 0, vI 30]) (rest := []) ok_X10_within ml_X10_255 rfl rfl (Nat.le_of_ble_eq_true rfl) (fun _ => rfl) dX10_lastsOf_19 (Con.mono h (fun r3 M4 _ _ h => ?_))
  refine m_istore_n C (L' := [(3, vI r3), (2, vI (M 55 (Int.toNat a1))), (0, vR 51), (1, vI a1)]) dX10_lastsOf_22 rfl (by rw [hnL]; decide) rfl ?_
  refine m_iload_n C 1 dX10_lastsOf_23 rfl rfl ?_
  refine m_iconst C dX10_lastsOf_24 (r32_of rfl) ?_
  refine m_icmp_ne C (tgt := 34) dX10_lastsOf_25 (by decide) (fun e => ?_) (fun e => ?_)
  · have h := h.2 e
    refine m_iload_n C 1 dX10_lastsOf_34 rfl rfl ?_
    refine m_iconst C dX10_lastsOf_35 (r32_of rfl) ?_
    refine m_icmp_ne C (tgt := 54) dX10_lastsOf_36 (by decide) (fun e => ?_) (fun e => ?_)
    · have h := h.2 e
      refine m_iload_n C 1 dX10_lastsOf_54 rfl rfl ?_
      refine m_iconst C dX10_lastsOf_55 (r32_of rfl) ?_
      refine m_icmp_ne C (tgt := 65) dX10_lastsOf_56 (by decide) (fun e => ?_) (fun e => ?_)
      · have h := h.2 e
        refine m_iload_n C 1 dX10_lastsOf_65 rfl rfl ?_
        refine m_iconst C dX10_lastsOf_66 (r32_of rfl) ?_
        refine m_icmp_ne C (tgt := 74) dX10_lastsOf_67 (by decide) (fun e => ?_) (fun e => ?_)
        · have h := h.2 e
          refine m_iload_n C 0 dX10_lastsOf_74 rfl rfl ?_
          exact m_iret C E (Or.inl rfl) dX10_lastsOf_75 h
        · have h := h.1 e
          refine m_iconst C dX10_lastsOf_70 (r32_of rfl) ?_
          refine m_goto C (tgt := 75) dX10_lastsOf_71 (by decide) ?_
          exact m_iret C E (Or.inl rfl) dX10_lastsOf_75 h
      · have h := h.1 e
        refine m_iload_n C 0 dX10_lastsOf_59 rfl rfl ?_
        refine m_iconst C dX10_lastsOf_60 (r32_of rfl) ?_
        refine m_iadd C dX10_lastsOf_61 ?_
        refine m_goto C (tgt := 75) dX10_lastsOf_62 (by decide) ?_
        exact m_iret C E (Or.inl rfl) dX10_lastsOf_75 h
    · have h := h.1 e
      refine m_iconst C dX10_lastsOf_39 (r32_of rfl) ?_
      refine m_iload_n C 0 dX10_lastsOf_40 rfl rfl ?_
      refine m_imul C dX10_lastsOf_41 ?_
      refine m_aload_n C 2 dX10_lastsOf_42 rfl rfl ?_
      refine m_getR C (k := 10) cl_X10 (by decide) so_51 rfl fl_X10_29 dX10_lastsOf_43 ?_
      refine m_iconst C dX10_lastsOf_46 (r32_of rfl) ?_
      refine m_iload_n C 3 dX10_lastsOf_47 rfl rfl ?_
      refine m_imul C dX10_lastsOf_48 ?_
      refine m_iald C (N := 18) sa_56 h.1 dX10_lastsOf_49 ?_
      have h := h.2
      refine m_iadd C dX10_lastsOf_50 ?_
      refine m_goto C (tgt := 75) dX10_lastsOf_51 (by decide) ?_
      exact m_iret C E (Or.inl rfl) dX10_lastsOf_75 h
  · have h := h.1 e
    refine m_iconst C dX10_lastsOf_28 (r32_of rfl) ?_
    refine m_iload_n C 0 dX10_lastsOf_29 rfl rfl ?_
    refine m_imul C dX10_lastsOf_30 ?_
    refine m_goto C (tgt := 75) dX10_lastsOf_31 (by decide) ?_
    exact m_iret C E (Or.inl rfl) dX10_lastsOf_75 h
def B_X10_round (n : Nat) (a1 : Int) (M : Mem) (Q : Int → Mem → Prop)  : Prop :=
  ((0 ≤ (Int.tmod a1 16) →
  Q (Int.tmod a1 16) M) ∧ (¬ 0 ≤ (Int.tmod a1 16) →
  Q (w32 ((Int.tmod a1 16) + 16)) M))
set_option maxHeartbeats 4000000 in
set_option maxRecDepth 20000 in
theorem g_X10_round {n : Nat} {a1 : Int} {M : Mem} {Q : Int → Mem → Prop}  (h : B_X10_round n a1 M Q) : Con (n + 1) md_X10_round [vI a1] M Q := by
  refine Con.ofF (n := n + 1) (Nat.succ_pos n) pl_X10_round (Nat.le_of_ble_eq_true rfl) (fun X C E hnL => ?_)
  have C : Cx X cX10_round RX10 n := C
  show WM X 0 [(0, vI a1)] [] M
  unfold B_X10_round at h
  refine m_iload_n C 0 dX10_round_0 rfl rfl ?_
  refine m_bipush C dX10_round_1 (r32_of rfl) (by decide) ?_
  refine m_irem C dX10_round_3 (by decide) ?_
  refine m_istore_n C (L' := [(1, vI (Int.tmod a1 16)), (0, vI a1)]) dX10_round_4 rfl (by rw [hnL]; decide) rfl ?_
  refine m_iload_n C 0 dX10_round_5 rfl rfl ?_
  refine m_if_ge C (tgt := 16) dX10_round_6 (by decide) (fun e => ?_) (fun e => ?_)
  · have h := h.1 e
    refine m_iload_n C 0 dX10_round_16 rfl rfl ?_
    exact m_iret C E (Or.inl rfl) dX10_round_17 h
  · have h := h.2 e
    refine m_iload_n C 0 dX10_round_9 rfl rfl ?_
    refine m_bipush C dX10_round_10 (r32_of rfl) (by decide) ?_
    refine m_iadd C dX10_round_12 ?_
    refine m_goto C (tgt := 17) dX10_round_13 (by decide) ?_
    exact m_iret C E (Or.inl rfl) dX10_round_17 h
def B_X10_isRoom (n : Nat) (a1 : Int) (M : Mem) (Q : Int → Mem → Prop)  : Prop :=
  ((40 ≤ (M 51 14) →
  Q 0 M) ∧ (¬ 40 ≤ (M 51 14) →
  Con n md_X10_thickOf [vR 51, vI a1] M (fun r1 M2 =>
    Con n md_X10_roomNow [vR 51] M2 (fun r3 M4 =>
    ((r3 < r1 →
    Q 0 M4) ∧ (¬ r3 < r1 →
    Q 1 M4))))))
set_option maxHeartbeats 4000000 in
set_option maxRecDepth 20000 in
theorem g_X10_isRoom {n : Nat} {a1 : Int} {M : Mem} {Q : Int → Mem → Prop}  (h : B_X10_isRoom n a1 M Q) : Con (n + 1) md_X10_isRoom [vR 51, vI a1] M Q := by
  refine Con.ofF (n := n + 1) (Nat.succ_pos n) pl_X10_isRoom (Nat.le_of_ble_eq_true rfl) (fun X C E hnL => ?_)
  have C : Cx X cX10_isRoom RX10 n := C
  show WM X 0 [(0, vR 51), (1, vI a1)] [] M
  unfold B_X10_isRoom at h
  refine m_aload_n C 0 dX10_isRoom_0 rfl rfl ?_
  refine m_getI C (k := 14) cl_X10 (by decide) so_51 rfl fl_X10_246 dX10_isRoom_1 ?_
  refine m_bipush C dX10_isRoom_4 (r32_of rfl) (by decide) ?_
  refine m_icmp_ge C (tgt := 25) dX10_isRoom_6 (by decide) (fun e => ?_) (fun e => ?_)
  · have h := h.1 e
    refine m_iconst C dX10_isRoom_25 (r32_of rfl) ?_
    exact m_iret C E (Or.inr ⟨rfl, Or.inl rfl⟩) dX10_isRoom_26 h
  · have h := h.2 e
    refine m_aload_n C 0 dX10_isRoom_9 rfl rfl ?_
    refine m_iload_n C 1 dX10_isRoom_10 rfl rfl ?_
    refine m_callVi C (as := [vI a1]) (rest := []) ok_X10_thickOf ml_X10_111 so_51 rfl rfl rfl (Nat.le_of_ble_eq_true rfl) (fun _ => rfl) dX10_isRoom_11 (Con.mono h (fun r1 M2 _ _ h => ?_))
    refine m_aload_n C 0 dX10_isRoom_14 rfl rfl ?_
    refine m_callVi C (as := []) (rest := [vI r1]) ok_X10_roomNow ml_X10_252 so_51 rfl rfl rfl (Nat.le_of_ble_eq_true rfl) (fun _ => rfl) dX10_isRoom_15 (Con.mono h (fun r3 M4 _ _ h => ?_))
    refine m_icmp_gt C (tgt := 25) dX10_isRoom_18 (by decide) (fun e => ?_) (fun e => ?_)
    · have h := h.1 e
      refine m_iconst C dX10_isRoom_25 (r32_of rfl) ?_
      exact m_iret C E (Or.inr ⟨rfl, Or.inl rfl⟩) dX10_isRoom_26 h
    · have h := h.2 e
      refine m_iconst C dX10_isRoom_21 (r32_of rfl) ?_
      refine m_goto C (tgt := 26) dX10_isRoom_22 (by decide) ?_
      exact m_iret C E (Or.inr ⟨rfl, Or.inr rfl⟩) dX10_isRoom_26 h
def B_X10_canLay (n : Nat) (a1 : Int) (M : Mem) (Q : Int → Mem → Prop)  : Prop :=
  ((0 ≤ (w32 ((w32 (3 * a1)) + 2)) ∧ (w32 ((w32 (3 * a1)) + 2)) < 18) ∧ (((M 56 (Int.toNat (w32 ((w32 (3 * a1)) + 2)))) ≤ 0 →
  Q 0 M) ∧ (¬ (M 56 (Int.toNat (w32 ((w32 (3 * a1)) + 2)))) ≤ 0 →
  Con n md_X10_isRoom [vR 51, vI a1] M (fun r1 M2 =>
    ((r1 = 0 →
    Q 0 M2) ∧ (¬ r1 = 0 →
    Q 1 M2))))))
set_option maxHeartbeats 4000000 in
set_option maxRecDepth 20000 in
theorem g_X10_canLay {n : Nat} {a1 : Int} {M : Mem} {Q : Int → Mem → Prop}  (h : B_X10_canLay n a1 M Q) : Con (n + 1) md_X10_canLay [vR 51, vI a1] M Q := by
  refine Con.ofF (n := n + 1) (Nat.succ_pos n) pl_X10_canLay (Nat.le_of_ble_eq_true rfl) (fun X C E hnL => ?_)
  have C : Cx X cX10_canLay RX10 n := C
  show WM X 0 [(0, vR 51), (1, vI a1)] [] M
  unfold B_X10_canLay at h
  refine m_aload_n C 0 dX10_canLay_0 rfl rfl ?_
  refine m_getR C (k := 10) cl_X10 (by decide) so_51 rfl fl_X10_29 dX10_canLay_1 ?_
  refine m_iconst C dX10_canLay_4 (r32_of rfl) ?_
  refine m_iload_n C 1 dX10_canLay_5 rfl rfl ?_
  refine m_imul C dX10_canLay_6 ?_
  refine m_iconst C dX10_canLay_7 (r32_of rfl) ?_
  refine m_iadd C dX10_canLay_8 ?_
  refine m_iald C (N := 18) sa_56 h.1 dX10_canLay_9 ?_
  have h := h.2
  refine m_if_le C (tgt := 25) dX10_canLay_10 (by decide) (fun e => ?_) (fun e => ?_)
  · have h := h.1 e
    refine m_iconst C dX10_canLay_25 (r32_of rfl) ?_
    exact m_iret C E (Or.inr ⟨rfl, Or.inl rfl⟩) dX10_canLay_26 h
  · have h := h.2 e
    refine m_aload_n C 0 dX10_canLay_13 rfl rfl ?_
    refine m_iload_n C 1 dX10_canLay_14 rfl rfl ?_
    refine m_callVi C (as := [vI a1]) (rest := []) ok_X10_isRoom ml_X10_259 so_51 rfl rfl rfl (Nat.le_of_ble_eq_true rfl) (fun _ => rfl) dX10_canLay_15 (Con.mono h (fun r1 M2 _ _ h => ?_))
    refine m_if_eq C (tgt := 25) dX10_canLay_18 (by decide) (fun e => ?_) (fun e => ?_)
    · have h := h.1 e
      refine m_iconst C dX10_canLay_25 (r32_of rfl) ?_
      exact m_iret C E (Or.inr ⟨rfl, Or.inl rfl⟩) dX10_canLay_26 h
    · have h := h.2 e
      refine m_iconst C dX10_canLay_21 (r32_of rfl) ?_
      refine m_goto C (tgt := 26) dX10_canLay_22 (by decide) ?_
      exact m_iret C E (Or.inr ⟨rfl, Or.inr rfl⟩) dX10_canLay_26 h
def B_X10_puts (n : Nat) (a1 : Int) (M : Mem) (Q : Int → Mem → Prop)  : Prop :=
  Con n md_X10_looks [vR 51, vI a1] M (fun _ M2 =>
  Con n md_X10_lastAngle [vR 51] M2 (fun r3 M4 =>
  Con n md_X10_turnsOf [vR 51, vI a1] M4 (fun r5 M6 =>
  Con n md_X10_round [vI (w32 (r3 + r5))] M6 (fun r7 M8 =>
  ((0 ≤ (M8 51 14) ∧ (M8 51 14) < 40) ∧ (∀ M9 : Mem, M9 = up M8 57 (Int.toNat (M8 51 14)) a1 →
  ((0 ≤ (M9 51 14) ∧ (M9 51 14) < 40) ∧ (∀ M10 : Mem, M10 = up M9 58 (Int.toNat (M9 51 14)) r7 →
  (∀ M11 : Mem, M11 = up M10 51 14 (w32 ((M10 51 14) + 1)) →
  ((0 ≤ (w32 ((w32 (3 * a1)) + 2)) ∧ (w32 ((w32 (3 * a1)) + 2)) < 18) ∧ ((0 ≤ (w32 ((w32 (3 * a1)) + 2)) ∧ (w32 ((w32 (3 * a1)) + 2)) < 18) ∧ (∀ M12 : Mem, M12 = up M11 56 (Int.toNat (w32 ((w32 (3 * a1)) + 2))) (w32 ((M11 56 (Int.toNat (w32 ((w32 (3 * a1)) + 2)))) - 1)) →
  Q 0 M12))))))))))))
set_option maxHeartbeats 4000000 in
set_option maxRecDepth 20000 in
theorem g_X10_puts {n : Nat} {a1 : Int} {M : Mem} {Q : Int → Mem → Prop}  (h : B_X10_puts n a1 M Q) : Con (n + 1) md_X10_puts [vR 51, vI a1] M Q := by
  refine Con.ofF (n := n + 1) (Nat.succ_pos n) pl_X10_puts (Nat.le_of_ble_eq_true rfl) (fun X C E hnL => ?_)
  have C : Cx X cX10_puts RX10 n := C
  show WM X 0 [(0, vR 51), (1, vI a1)] [] M
  unfold B_X10_puts at h
  refine m_aload_n C 0 dX10_puts_0 rfl rfl ?_
  refine m_iload_n C 1 dX10_puts_1 rfl rfl ?_
  refine m_callVv C (as := [vI a1]) (rest := []) ok_X10_looks ml_X10_114 so_51 rfl rfl rfl (Nat.le_of_ble_eq_true rfl) (fun _ => rfl) dX10_puts_2 (Con.mono h (fun _ M2 _ _ h => ?_))
  refine m_aload_n C 0 dX10_puts_5 rfl rfl ?_
  refine m_callVi C (as := []) (rest := []) ok_X10_lastAngle ml_X10_249 so_51 rfl rfl rfl (Nat.le_of_ble_eq_true rfl) (fun _ => rfl) dX10_puts_6 (Con.mono h (fun r3 M4 _ _ h => ?_))
  refine m_aload_n C 0 dX10_puts_9 rfl rfl ?_
  refine m_iload_n C 1 dX10_puts_10 rfl rfl ?_
  refine m_callVi C (as := [vI a1]) (rest := [vI r3]) ok_X10_turnsOf ml_X10_118 so_51 rfl rfl rfl (Nat.le_of_ble_eq_true rfl) (fun _ => rfl) dX10_puts_11 (Con.mono h (fun r5 M6 _ _ h => ?_))
  refine m_iadd C dX10_puts_14 ?_
  refine m_callSi C (as := [vI (w32 (r3 + r5))]) (rest := []) ok_X10_round ml_X10_262 rfl rfl (Nat.le_of_ble_eq_true rfl) (fun _ => rfl) dX10_puts_15 (Con.mono h (fun r7 M8 _ _ h => ?_))
  refine m_istore_n C (L' := [(2, vI r7), (0, vR 51), (1, vI a1)]) dX10_puts_18 rfl (by rw [hnL]; decide) rfl ?_
  refine m_aload_n C 1 dX10_puts_19 rfl rfl ?_
  refine m_getR C (k := 12) cl_X10 (by decide) so_51 rfl fl_X10_32 dX10_puts_20 ?_
  refine m_aload_n C 1 dX10_puts_23 rfl rfl ?_
  refine m_getI C (k := 14) cl_X10 (by decide) so_51 rfl fl_X10_246 dX10_puts_24 ?_
  refine m_iload_n C 2 dX10_puts_27 rfl rfl ?_
  refine m_iast C (N := 40) sa_57 h.1 dX10_puts_28 ?_
  have h := h.2
  generalize eM9 : up M8 57 (Int.toNat (M8 51 14)) a1 = M9
  have h := h M9 eM9.symm
  refine m_aload_n C 1 dX10_puts_29 rfl rfl ?_
  refine m_getR C (k := 13) cl_X10 (by decide) so_51 rfl fl_X10_35 dX10_puts_30 ?_
  refine m_aload_n C 1 dX10_puts_33 rfl rfl ?_
  refine m_getI C (k := 14) cl_X10 (by decide) so_51 rfl fl_X10_246 dX10_puts_34 ?_
  refine m_iload_n C 0 dX10_puts_37 rfl rfl ?_
  refine m_iast C (N := 40) sa_58 h.1 dX10_puts_38 ?_
  have h := h.2
  generalize eM10 : up M9 58 (Int.toNat (M9 51 14)) r7 = M10
  have h := h M10 eM10.symm
  refine m_aload_n C 1 dX10_puts_39 rfl rfl ?_
  refine m_dupR C dX10_puts_40 ?_
  refine m_getI C (k := 14) cl_X10 (by decide) so_51 rfl fl_X10_246 dX10_puts_41 ?_
  refine m_iconst C dX10_puts_44 (r32_of rfl) ?_
  refine m_iadd C dX10_puts_45 ?_
  refine m_putI C (k := 14) cl_X10 (by decide) so_51 rfl rfl rfl fl_X10_246 dX10_puts_46 ?_
  generalize eM11 : up M10 51 14 (w32 ((M10 51 14) + 1)) = M11
  have h := h M11 eM11.symm
  refine m_aload_n C 1 dX10_puts_49 rfl rfl ?_
  refine m_getR C (k := 10) cl_X10 (by decide) so_51 rfl fl_X10_29 dX10_puts_50 ?_
  refine m_iconst C dX10_puts_53 (r32_of rfl) ?_
  refine m_iload_n C 2 dX10_puts_54 rfl rfl ?_
  refine m_imul C dX10_puts_55 ?_
  refine m_iconst C dX10_puts_56 (r32_of rfl) ?_
  refine m_iadd C dX10_puts_57 ?_
  refine m_dup2 C dX10_puts_58 ?_
  refine m_iald C (N := 18) sa_56 h.1 dX10_puts_59 ?_
  have h := h.2
  refine m_iconst C dX10_puts_60 (r32_of rfl) ?_
  refine m_isub C dX10_puts_61 ?_
  refine m_iast C (N := 18) sa_56 h.1 dX10_puts_62 ?_
  have h := h.2
  generalize eM12 : up M11 56 (Int.toNat (w32 ((w32 (3 * a1)) + 2))) (w32 ((M11 56 (Int.toNat (w32 ((w32 (3 * a1)) + 2)))) - 1)) = M12
  have h := h M12 eM12.symm
  exact m_vret C E dX10_puts_63 h
def B_X10_takesOff (n : Nat)  (M : Mem) (Q : Int → Mem → Prop)  : Prop :=
  (∀ M1 : Mem, M1 = up M 51 14 (w32 ((M 51 14) - 1)) →
  ((0 ≤ (M1 51 14) ∧ (M1 51 14) < 40) ∧ ((0 ≤ (w32 ((w32 (3 * (M1 57 (Int.toNat (M1 51 14))))) + 2)) ∧ (w32 ((w32 (3 * (M1 57 (Int.toNat (M1 51 14))))) + 2)) < 18) ∧ ((0 ≤ (w32 ((w32 (3 * (M1 57 (Int.toNat (M1 51 14))))) + 2)) ∧ (w32 ((w32 (3 * (M1 57 (Int.toNat (M1 51 14))))) + 2)) < 18) ∧ (∀ M2 : Mem, M2 = up M1 56 (Int.toNat (w32 ((w32 (3 * (M1 57 (Int.toNat (M1 51 14))))) + 2))) (w32 ((M1 56 (Int.toNat (w32 ((w32 (3 * (M1 57 (Int.toNat (M1 51 14))))) + 2)))) + 1)) →
  Q 0 M2)))))
set_option maxHeartbeats 4000000 in
set_option maxRecDepth 20000 in
theorem g_X10_takesOff {n : Nat}  {M : Mem} {Q : Int → Mem → Prop}  (h : B_X10_takesOff n  M Q) : Con (n + 1) md_X10_takesOff [vR 51] M Q := by
  refine Con.ofF (n := n + 1) (Nat.succ_pos n) pl_X10_takesOff (Nat.le_of_ble_eq_true rfl) (fun X C E hnL => ?_)
  have C : Cx X cX10_takesOff RX10 n := C
  show WM X 0 [(0, vR 51)] [] M
  unfold B_X10_takesOff at h
  refine m_aload_n C 0 dX10_takesOff_0 rfl rfl ?_
  refine m_dupR C dX10_takesOff_1 ?_
  refine m_getI C (k := 14) cl_X10 (by decide) so_51 rfl fl_X10_246 dX10_takesOff_2 ?_
  refine m_iconst C dX10_takesOff_5 (r32_of rfl) ?_
  refine m_isub C dX10_takesOff_6 ?_
  refine m_putI C (k := 14) cl_X10 (by decide) so_51 rfl rfl rfl fl_X10_246 dX10_takesOff_7 ?_
  generalize eM1 : up M 51 14 (w32 ((M 51 14) - 1)) = M1
  have h := h M1 eM1.symm
  refine m_aload_n C 0 dX10_takesOff_10 rfl rfl ?_
  refine m_getR C (k := 10) cl_X10 (by decide) so_51 rfl fl_X10_29 dX10_takesOff_11 ?_
  refine m_iconst C dX10_takesOff_14 (r32_of rfl) ?_
  refine m_aload_n C 0 dX10_takesOff_15 rfl rfl ?_
  refine m_getR C (k := 12) cl_X10 (by decide) so_51 rfl fl_X10_32 dX10_takesOff_16 ?_
  refine m_aload_n C 0 dX10_takesOff_19 rfl rfl ?_
  refine m_getI C (k := 14) cl_X10 (by decide) so_51 rfl fl_X10_246 dX10_takesOff_20 ?_
  refine m_iald C (N := 40) sa_57 h.1 dX10_takesOff_23 ?_
  have h := h.2
  refine m_imul C dX10_takesOff_24 ?_
  refine m_iconst C dX10_takesOff_25 (r32_of rfl) ?_
  refine m_iadd C dX10_takesOff_26 ?_
  refine m_dup2 C dX10_takesOff_27 ?_
  refine m_iald C (N := 18) sa_56 h.1 dX10_takesOff_28 ?_
  have h := h.2
  refine m_iconst C dX10_takesOff_29 (r32_of rfl) ?_
  refine m_iadd C dX10_takesOff_30 ?_
  refine m_iast C (N := 18) sa_56 h.1 dX10_takesOff_31 ?_
  have h := h.2
  generalize eM2 : up M1 56 (Int.toNat (w32 ((w32 (3 * (M1 57 (Int.toNat (M1 51 14))))) + 2))) (w32 ((M1 56 (Int.toNat (w32 ((w32 (3 * (M1 57 (Int.toNat (M1 51 14))))) + 2)))) + 1)) = M2
  have h := h M2 eM2.symm
  exact m_vret C E dX10_takesOff_32 h
def B_X10_lay (n : Nat) (a1 : Int) (M : Mem) (Q : Int → Mem → Prop)  : Prop :=
  Con n md_X10_isFlower [vR 51, vI a1] M (fun r1 M2 =>
  ((r1 = 0 →
  Q (-2) M2) ∧ (¬ r1 = 0 →
  ((0 ≤ (w32 ((w32 (3 * a1)) + 2)) ∧ (w32 ((w32 (3 * a1)) + 2)) < 18) ∧ (((M2 56 (Int.toNat (w32 ((w32 (3 * a1)) + 2)))) = 0 →
    Q (-3) M2) ∧ (¬ (M2 56 (Int.toNat (w32 ((w32 (3 * a1)) + 2)))) = 0 →
    Con n md_X10_isRoom [vR 51, vI a1] M2 (fun r3 M4 =>
      ((r3 = 0 →
      Q (-4) M4) ∧ (¬ r3 = 0 →
      Con n md_X10_puts [vR 51, vI a1] M4 (fun _ M6 =>
        ((0 ≤ (w32 ((M6 51 14) - 1)) ∧ (w32 ((M6 51 14) - 1)) < 40) ∧ Q (M6 58 (Int.toNat (w32 ((M6 51 14) - 1)))) M6)))))))))))
set_option maxHeartbeats 4000000 in
set_option maxRecDepth 20000 in
theorem g_X10_lay {n : Nat} {a1 : Int} {M : Mem} {Q : Int → Mem → Prop}  (h : B_X10_lay n a1 M Q) : Con (n + 1) md_X10_lay [vR 51, vI a1] M Q := by
  refine Con.ofF (n := n + 1) (Nat.succ_pos n) pl_X10_lay (Nat.le_of_ble_eq_true rfl) (fun X C E hnL => ?_)
  have C : Cx X cX10_lay RX10 n := C
  show WM X 0 [(0, vR 51), (1, vI a1)] [] M
  unfold B_X10_lay at h
  refine m_aload_n C 0 dX10_lay_0 rfl rfl ?_
  refine m_iload_n C 1 dX10_lay_1 rfl rfl ?_
  refine m_callVi C (as := [vI a1]) (rest := []) ok_X10_isFlower ml_X10_85 so_51 rfl rfl rfl (Nat.le_of_ble_eq_true rfl) (fun _ => rfl) dX10_lay_2 (Con.mono h (fun r1 M2 _ _ h => ?_))
  refine m_if_ne C (tgt := 11) dX10_lay_5 (by decide) (fun e => ?_) (fun e => ?_)
  · have h := h.2 e
    refine m_aload_n C 0 dX10_lay_11 rfl rfl ?_
    refine m_getR C (k := 10) cl_X10 (by decide) so_51 rfl fl_X10_29 dX10_lay_12 ?_
    refine m_iconst C dX10_lay_15 (r32_of rfl) ?_
    refine m_iload_n C 1 dX10_lay_16 rfl rfl ?_
    refine m_imul C dX10_lay_17 ?_
    refine m_iconst C dX10_lay_18 (r32_of rfl) ?_
    refine m_iadd C dX10_lay_19 ?_
    refine m_iald C (N := 18) sa_56 h.1 dX10_lay_20 ?_
    have h := h.2
    refine m_if_ne C (tgt := 27) dX10_lay_21 (by decide) (fun e => ?_) (fun e => ?_)
    · have h := h.2 e
      refine m_aload_n C 0 dX10_lay_27 rfl rfl ?_
      refine m_iload_n C 1 dX10_lay_28 rfl rfl ?_
      refine m_callVi C (as := [vI a1]) (rest := []) ok_X10_isRoom ml_X10_259 so_51 rfl rfl rfl (Nat.le_of_ble_eq_true rfl) (fun _ => rfl) dX10_lay_29 (Con.mono h (fun r3 M4 _ _ h => ?_))
      refine m_if_ne C (tgt := 38) dX10_lay_32 (by decide) (fun e => ?_) (fun e => ?_)
      · have h := h.2 e
        refine m_aload_n C 0 dX10_lay_38 rfl rfl ?_
        refine m_iload_n C 1 dX10_lay_39 rfl rfl ?_
        refine m_callVv C (as := [vI a1]) (rest := []) ok_X10_puts ml_X10_265 so_51 rfl rfl rfl (Nat.le_of_ble_eq_true rfl) (fun _ => rfl) dX10_lay_40 (Con.mono h (fun _ M6 _ _ h => ?_))
        refine m_aload_n C 0 dX10_lay_43 rfl rfl ?_
        refine m_getR C (k := 13) cl_X10 (by decide) so_51 rfl fl_X10_35 dX10_lay_44 ?_
        refine m_aload_n C 0 dX10_lay_47 rfl rfl ?_
        refine m_getI C (k := 14) cl_X10 (by decide) so_51 rfl fl_X10_246 dX10_lay_48 ?_
        refine m_iconst C dX10_lay_51 (r32_of rfl) ?_
        refine m_isub C dX10_lay_52 ?_
        refine m_iald C (N := 40) sa_58 h.1 dX10_lay_53 ?_
        have h := h.2
        exact m_iret C E (Or.inl rfl) dX10_lay_54 h
      · have h := h.1 e
        refine m_bipush C dX10_lay_35 (r32_of rfl) (by decide) ?_
        exact m_iret C E (Or.inl rfl) dX10_lay_37 h
    · have h := h.1 e
      refine m_bipush C dX10_lay_24 (r32_of rfl) (by decide) ?_
      exact m_iret C E (Or.inl rfl) dX10_lay_26 h
  · have h := h.1 e
    refine m_bipush C dX10_lay_8 (r32_of rfl) (by decide) ?_
    exact m_iret C E (Or.inl rfl) dX10_lay_10 h
def B_X10_draw_28 (n : Nat) (a1 : Int) (x2 : Int) (x3 : Int) (M : Mem) (Q : Int → Mem → Prop) (K28 : Int → Int → Mem → Prop) : Prop :=
  (((w32 ((M 51 14) - 1)) ≤ x3 →
  (∀ M1 : Mem, M1 = up M 51 14 (w32 ((M 51 14) - 1)) →
    ((0 ≤ (w32 ((w32 (3 * x2)) + 2)) ∧ (w32 ((w32 (3 * x2)) + 2)) < 18) ∧ Con n md_X10_within [vI (w32 ((M1 56 (Int.toNat (w32 ((w32 (3 * x2)) + 2)))) + 1)), vI 0, vI 40] M1 (fun r2 M3 =>
    ((0 ≤ (w32 ((w32 (3 * x2)) + 2)) ∧ (w32 ((w32 (3 * x2)) + 2)) < 18) ∧ (∀ M4 : Mem, M4 = up M3 56 (Int.toNat (w32 ((w32 (3 * x2)) + 2))) r2 →
    Q x2 M4)))))) ∧ (¬ (w32 ((M 51 14) - 1)) ≤ x3 →
  ((0 ≤ (w32 (x3 + 1)) ∧ (w32 (x3 + 1)) < 40) ∧ ((0 ≤ x3 ∧ x3 < 40) ∧ (∀ M5 : Mem, M5 = up M 57 (Int.toNat x3) (M 57 (Int.toNat (w32 (x3 + 1)))) →
    ((0 ≤ (w32 (x3 + 1)) ∧ (w32 (x3 + 1)) < 40) ∧ ((0 ≤ x3 ∧ x3 < 40) ∧ (∀ M6 : Mem, M6 = up M5 58 (Int.toNat x3) (M5 58 (Int.toNat (w32 (x3 + 1)))) →
    K28 x2 (w32 (x3 + 1)) M6))))))))
def B_X10_draw (n : Nat) (a1 : Int) (M : Mem) (Q : Int → Mem → Prop) (K28 : Int → Int → Mem → Prop) : Prop :=
  Con n md_X10_in [vL a1, vL 0, vL (w32 ((M 51 14) - 1))] M (fun r7 M8 =>
  ((r7 = 0 →
  Q (-2) M8) ∧ (¬ r7 = 0 →
  ((0 ≤ a1 ∧ a1 < 40) ∧ K28 (M8 57 (Int.toNat a1)) a1 M8))))
set_option maxHeartbeats 4000000 in
set_option maxRecDepth 20000 in
theorem g_X10_draw {n : Nat} {a1 : Int} {M : Mem} {Q : Int → Mem → Prop}  (h : ∀ (K28 : Int → Int → Mem → Prop), (∀ (x2 : Int) (x3 : Int) (M : Mem), B_X10_draw_28 n a1 x2 x3 M Q K28 → K28 x2 x3 M) → B_X10_draw n a1 M Q K28) : Con (n + 1) md_X10_draw [vR 51, vI a1] M Q := by
  refine Con.ofF (n := n + 1) (Nat.succ_pos n) pl_X10_draw (Nat.le_of_ble_eq_true rfl) (fun X C E hnL => ?_)
  have C : Cx X cX10_draw RX10 n := C
  show WM X 0 [(0, vR 51), (1, vI a1)] [] M
  have hb28 : ∀ (x2 : Int) (x3 : Int) (M : Mem), B_X10_draw_28 n a1 x2 x3 M Q (fun (x2 : Int) (x3 : Int) (M : Mem) => WM X 28 [(0, vR 51), (1, vI a1), (2, vI x2), (3, vI x3)] [] M) → WM X 28 [(0, vR 51), (1, vI a1), (2, vI x2), (3, vI x3)] [] M := by
    intro x2 x3 M h
    unfold B_X10_draw_28 at h
    refine m_iload_n C 3 dX10_draw_28 rfl rfl ?_
    refine m_aload_n C 0 dX10_draw_29 rfl rfl ?_
    refine m_getI C (k := 14) cl_X10 (by decide) so_51 rfl fl_X10_246 dX10_draw_30 ?_
    refine m_iconst C dX10_draw_33 (r32_of rfl) ?_
    refine m_isub C dX10_draw_34 ?_
    refine m_icmp_ge C (tgt := 72) dX10_draw_35 (by decide) (fun e => ?_) (fun e => ?_)
    · have h := h.1 e
      refine m_aload_n C 0 dX10_draw_72 rfl rfl ?_
      refine m_dupR C dX10_draw_73 ?_
      refine m_getI C (k := 14) cl_X10 (by decide) so_51 rfl fl_X10_246 dX10_draw_74 ?_
      refine m_iconst C dX10_draw_77 (r32_of rfl) ?_
      refine m_isub C dX10_draw_78 ?_
      refine m_putI C (k := 14) cl_X10 (by decide) so_51 rfl rfl rfl fl_X10_246 dX10_draw_79 ?_
      generalize eM1 : up M 51 14 (w32 ((M 51 14) - 1)) = M1
      have h := h M1 eM1.symm
      refine m_aload_n C 0 dX10_draw_82 rfl rfl ?_
      refine m_getR C (k := 10) cl_X10 (by decide) so_51 rfl fl_X10_29 dX10_draw_83 ?_
      refine m_iconst C dX10_draw_86 (r32_of rfl) ?_
      refine m_iload_n C 2 dX10_draw_87 rfl rfl ?_
      refine m_imul C dX10_draw_88 ?_
      refine m_iconst C dX10_draw_89 (r32_of rfl) ?_
      refine m_iadd C dX10_draw_90 ?_
      refine m_aload_n C 0 dX10_draw_91 rfl rfl ?_
      refine m_getR C (k := 10) cl_X10 (by decide) so_51 rfl fl_X10_29 dX10_draw_92 ?_
      refine m_iconst C dX10_draw_95 (r32_of rfl) ?_
      refine m_iload_n C 2 dX10_draw_96 rfl rfl ?_
      refine m_imul C dX10_draw_97 ?_
      refine m_iconst C dX10_draw_98 (r32_of rfl) ?_
      refine m_iadd C dX10_draw_99 ?_
      refine m_iald C (N := 18) sa_56 h.1 dX10_draw_100 ?_
      have h := h.2
      refine m_iconst C dX10_draw_101 (r32_of rfl) ?_
      refine m_iadd C dX10_draw_102 ?_
      refine m_iconst C dX10_draw_103 (r32_of rfl) ?_
      refine m_bipush C dX10_draw_104 (r32_of rfl) (by decide) ?_
      refine m_callSi C (as := [vI (w32 ((M1 56 (Int.toNat (w32 ((w32 (3 * x2)) + 2)))) + 1)), vI 0, vI 40]) (rest := [vI (w32 ((w32 (3 * x2)) + 2)), vR 56]) ok_X10_within ml_X10_255 rfl rfl (Nat.le_of_ble_eq_true rfl) (fun _ => rfl) dX10_draw_106 (Con.mono h (fun r2 M3 _ _ h => ?_))
      refine m_iast C (N := 18) sa_56 h.1 dX10_draw_109 ?_
      have h := h.2
      generalize eM4 : up M3 56 (Int.toNat (w32 ((w32 (3 * x2)) + 2))) r2 = M4
      have h := h M4 eM4.symm
      refine m_iload_n C 2 dX10_draw_110 rfl rfl ?_
      exact m_iret C E (Or.inl rfl) dX10_draw_111 h
    · have h := h.2 e
      refine m_aload_n C 0 dX10_draw_38 rfl rfl ?_
      refine m_getR C (k := 12) cl_X10 (by decide) so_51 rfl fl_X10_32 dX10_draw_39 ?_
      refine m_iload_n C 3 dX10_draw_42 rfl rfl ?_
      refine m_aload_n C 0 dX10_draw_43 rfl rfl ?_
      refine m_getR C (k := 12) cl_X10 (by decide) so_51 rfl fl_X10_32 dX10_draw_44 ?_
      refine m_iload_n C 3 dX10_draw_47 rfl rfl ?_
      refine m_iconst C dX10_draw_48 (r32_of rfl) ?_
      refine m_iadd C dX10_draw_49 ?_
      refine m_iald C (N := 40) sa_57 h.1 dX10_draw_50 ?_
      have h := h.2
      refine m_iast C (N := 40) sa_57 h.1 dX10_draw_51 ?_
      have h := h.2
      generalize eM5 : up M 57 (Int.toNat x3) (M 57 (Int.toNat (w32 (x3 + 1)))) = M5
      have h := h M5 eM5.symm
      refine m_aload_n C 0 dX10_draw_52 rfl rfl ?_
      refine m_getR C (k := 13) cl_X10 (by decide) so_51 rfl fl_X10_35 dX10_draw_53 ?_
      refine m_iload_n C 3 dX10_draw_56 rfl rfl ?_
      refine m_aload_n C 0 dX10_draw_57 rfl rfl ?_
      refine m_getR C (k := 13) cl_X10 (by decide) so_51 rfl fl_X10_35 dX10_draw_58 ?_
      refine m_iload_n C 3 dX10_draw_61 rfl rfl ?_
      refine m_iconst C dX10_draw_62 (r32_of rfl) ?_
      refine m_iadd C dX10_draw_63 ?_
      refine m_iald C (N := 40) sa_58 h.1 dX10_draw_64 ?_
      have h := h.2
      refine m_iast C (N := 40) sa_58 h.1 dX10_draw_65 ?_
      have h := h.2
      generalize eM6 : up M5 58 (Int.toNat x3) (M5 58 (Int.toNat (w32 (x3 + 1)))) = M6
      have h := h M6 eM6.symm
      refine m_iinc C (L' := [(3, vI (w32 (x3 + 1))), (0, vR 51), (1, vI a1), (2, vI x2)]) 3 dX10_draw_66 rfl (by rw [hnL]; decide) rfl ?_
      refine m_goto C (tgt := 28) dX10_draw_69 (by decide) ?_
      exact m_sub [1, 2, 3, 0] rfl h
  have h := h (fun (x2 : Int) (x3 : Int) (M : Mem) => WM X 28 [(0, vR 51), (1, vI a1), (2, vI x2), (3, vI x3)] [] M) hb28
  unfold B_X10_draw at h
  refine m_iload_n C 1 dX10_draw_0 rfl rfl ?_
  refine m_i2l C dX10_draw_1 ?_
  refine m_lconst C (x := 0) dX10_draw_2 (by decide) (r64_of rfl) ?_
  refine m_aload_n C 0 dX10_draw_3 rfl rfl ?_
  refine m_getI C (k := 14) cl_X10 (by decide) so_51 rfl fl_X10_246 dX10_draw_4 ?_
  refine m_iconst C dX10_draw_7 (r32_of rfl) ?_
  refine m_isub C dX10_draw_8 ?_
  refine m_i2l C dX10_draw_9 ?_
  refine m_callSi C (as := [vL a1, vL 0, vL (w32 ((M 51 14) - 1))]) (rest := []) ok_X10_in ml_X10_79 rfl rfl (Nat.le_of_ble_eq_true rfl) (fun _ => rfl) dX10_draw_10 (Con.mono h (fun r7 M8 _ _ h => ?_))
  refine m_if_ne C (tgt := 19) dX10_draw_13 (by decide) (fun e => ?_) (fun e => ?_)
  · have h := h.2 e
    refine m_aload_n C 0 dX10_draw_19 rfl rfl ?_
    refine m_getR C (k := 12) cl_X10 (by decide) so_51 rfl fl_X10_32 dX10_draw_20 ?_
    refine m_iload_n C 1 dX10_draw_23 rfl rfl ?_
    refine m_iald C (N := 40) sa_57 h.1 dX10_draw_24 ?_
    have h := h.2
    refine m_istore_n C (L' := [(2, vI (M8 57 (Int.toNat a1))), (0, vR 51), (1, vI a1)]) dX10_draw_25 rfl (by rw [hnL]; decide) rfl ?_
    refine m_iload_n C 2 dX10_draw_26 rfl rfl ?_
    refine m_istore_n C (L' := [(3, vI a1), (2, vI (M8 57 (Int.toNat a1))), (0, vR 51), (1, vI a1)]) dX10_draw_27 rfl (by rw [hnL]; decide) rfl ?_
    exact m_sub [2, 3, 1, 0] rfl h
  · have h := h.1 e
    refine m_bipush C dX10_draw_16 (r32_of rfl) (by decide) ?_
    exact m_iret C E (Or.inl rfl) dX10_draw_18 h
def B_X10_stem (n : Nat) (a1 : Int) (a2 : Int) (M : Mem) (Q : Int → Mem → Prop)  : Prop :=
  Con n md_X10_in [vL a1, vL 0, vL (w32 ((M 51 14) - 1))] M (fun r1 M2 =>
  ((r1 = 0 →
  Q (-2) M2) ∧ (¬ r1 = 0 →
  Con n md_X10_in [vL a2, vL 0, vL 1] M2 (fun r3 M4 =>
    ((r3 = 0 →
    Q (-2) M4) ∧ (¬ r3 = 0 →
    ((a2 = 0 →
      ((0 ≤ a1 ∧ a1 < 40) ∧ Q (M4 57 (Int.toNat a1)) M4)) ∧ (¬ a2 = 0 →
      ((0 ≤ a1 ∧ a1 < 40) ∧ Q (M4 58 (Int.toNat a1)) M4)))))))))
set_option maxHeartbeats 4000000 in
set_option maxRecDepth 20000 in
theorem g_X10_stem {n : Nat} {a1 : Int} {a2 : Int} {M : Mem} {Q : Int → Mem → Prop}  (h : B_X10_stem n a1 a2 M Q) : Con (n + 1) md_X10_stem [vR 51, vI a1, vI a2] M Q := by
  refine Con.ofF (n := n + 1) (Nat.succ_pos n) pl_X10_stem (Nat.le_of_ble_eq_true rfl) (fun X C E hnL => ?_)
  have C : Cx X cX10_stem RX10 n := C
  show WM X 0 [(0, vR 51), (1, vI a1), (2, vI a2)] [] M
  unfold B_X10_stem at h
  refine m_iload_n C 1 dX10_stem_0 rfl rfl ?_
  refine m_i2l C dX10_stem_1 ?_
  refine m_lconst C (x := 0) dX10_stem_2 (by decide) (r64_of rfl) ?_
  refine m_aload_n C 0 dX10_stem_3 rfl rfl ?_
  refine m_getI C (k := 14) cl_X10 (by decide) so_51 rfl fl_X10_246 dX10_stem_4 ?_
  refine m_iconst C dX10_stem_7 (r32_of rfl) ?_
  refine m_isub C dX10_stem_8 ?_
  refine m_i2l C dX10_stem_9 ?_
  refine m_callSi C (as := [vL a1, vL 0, vL (w32 ((M 51 14) - 1))]) (rest := []) ok_X10_in ml_X10_79 rfl rfl (Nat.le_of_ble_eq_true rfl) (fun _ => rfl) dX10_stem_10 (Con.mono h (fun r1 M2 _ _ h => ?_))
  refine m_if_eq C (tgt := 26) dX10_stem_13 (by decide) (fun e => ?_) (fun e => ?_)
  · have h := h.1 e
    refine m_bipush C dX10_stem_26 (r32_of rfl) (by decide) ?_
    exact m_iret C E (Or.inl rfl) dX10_stem_28 h
  · have h := h.2 e
    refine m_iload_n C 2 dX10_stem_16 rfl rfl ?_
    refine m_i2l C dX10_stem_17 ?_
    refine m_lconst C (x := 0) dX10_stem_18 (by decide) (r64_of rfl) ?_
    refine m_lconst C (x := 1) dX10_stem_19 (by decide) (r64_of rfl) ?_
    refine m_callSi C (as := [vL a2, vL 0, vL 1]) (rest := []) ok_X10_in ml_X10_79 rfl rfl (Nat.le_of_ble_eq_true rfl) (fun _ => rfl) dX10_stem_20 (Con.mono h (fun r3 M4 _ _ h => ?_))
    refine m_if_ne C (tgt := 29) dX10_stem_23 (by decide) (fun e => ?_) (fun e => ?_)
    · have h := h.2 e
      refine m_iload_n C 2 dX10_stem_29 rfl rfl ?_
      refine m_if_ne C (tgt := 42) dX10_stem_30 (by decide) (fun e => ?_) (fun e => ?_)
      · have h := h.2 e
        refine m_aload_n C 0 dX10_stem_42 rfl rfl ?_
        refine m_getR C (k := 13) cl_X10 (by decide) so_51 rfl fl_X10_35 dX10_stem_43 ?_
        refine m_iload_n C 1 dX10_stem_46 rfl rfl ?_
        refine m_iald C (N := 40) sa_58 h.1 dX10_stem_47 ?_
        have h := h.2
        exact m_iret C E (Or.inl rfl) dX10_stem_48 h
      · have h := h.1 e
        refine m_aload_n C 0 dX10_stem_33 rfl rfl ?_
        refine m_getR C (k := 12) cl_X10 (by decide) so_51 rfl fl_X10_32 dX10_stem_34 ?_
        refine m_iload_n C 1 dX10_stem_37 rfl rfl ?_
        refine m_iald C (N := 40) sa_57 h.1 dX10_stem_38 ?_
        have h := h.2
        refine m_goto C (tgt := 48) dX10_stem_39 (by decide) ?_
        exact m_iret C E (Or.inl rfl) dX10_stem_48 h
    · have h := h.1 e
      refine m_bipush C dX10_stem_26 (r32_of rfl) (by decide) ?_
      exact m_iret C E (Or.inl rfl) dX10_stem_28 h
def B_X10_touch (n : Nat) (a1 : Int) (a2 : Int) (M : Mem) (Q : Int → Mem → Prop)  : Prop :=
  ((0 ≤ a1 ∧ a1 < 40) ∧ ((0 ≤ a2 ∧ a2 < 40) ∧ Con n md_X10_round [vI (w32 ((M 58 (Int.toNat a1)) - (M 58 (Int.toNat a2))))] M (fun r1 M2 =>
  ((0 ≤ a1 ∧ a1 < 40) ∧ ((0 ≤ (w32 ((w32 (3 * (M2 57 (Int.toNat a1)))) + 1)) ∧ (w32 ((w32 (3 * (M2 57 (Int.toNat a1)))) + 1)) < 18) ∧ ((0 ≤ a2 ∧ a2 < 40) ∧ ((0 ≤ (w32 ((w32 (3 * (M2 57 (Int.toNat a2)))) + 1)) ∧ (w32 ((w32 (3 * (M2 57 (Int.toNat a2)))) + 1)) < 18) ∧ (((M2 56 (Int.toNat (w32 ((w32 (3 * (M2 57 (Int.toNat a1)))) + 1)))) = (M2 56 (Int.toNat (w32 ((w32 (3 * (M2 57 (Int.toNat a2)))) + 1)))) →
  ((r1 < 2 →
    Q 1 M2) ∧ (¬ r1 < 2 →
    ((r1 = 15 →
      Q 1 M2) ∧ (¬ r1 = 15 →
      Q 0 M2))))) ∧ (¬ (M2 56 (Int.toNat (w32 ((w32 (3 * (M2 57 (Int.toNat a1)))) + 1)))) = (M2 56 (Int.toNat (w32 ((w32 (3 * (M2 57 (Int.toNat a2)))) + 1)))) →
  Q 0 M2)))))))))
set_option maxHeartbeats 4000000 in
set_option maxRecDepth 20000 in
theorem g_X10_touch {n : Nat} {a1 : Int} {a2 : Int} {M : Mem} {Q : Int → Mem → Prop}  (h : B_X10_touch n a1 a2 M Q) : Con (n + 1) md_X10_touch [vR 51, vI a1, vI a2] M Q := by
  refine Con.ofF (n := n + 1) (Nat.succ_pos n) pl_X10_touch (Nat.le_of_ble_eq_true rfl) (fun X C E hnL => ?_)
  have C : Cx X cX10_touch RX10 n := C
  show WM X 0 [(0, vR 51), (1, vI a1), (2, vI a2)] [] M
  unfold B_X10_touch at h
  refine m_aload_n C 0 dX10_touch_0 rfl rfl ?_
  refine m_getR C (k := 13) cl_X10 (by decide) so_51 rfl fl_X10_35 dX10_touch_1 ?_
  refine m_iload_n C 1 dX10_touch_4 rfl rfl ?_
  refine m_iald C (N := 40) sa_58 h.1 dX10_touch_5 ?_
  have h := h.2
  refine m_aload_n C 0 dX10_touch_6 rfl rfl ?_
  refine m_getR C (k := 13) cl_X10 (by decide) so_51 rfl fl_X10_35 dX10_touch_7 ?_
  refine m_iload_n C 2 dX10_touch_10 rfl rfl ?_
  refine m_iald C (N := 40) sa_58 h.1 dX10_touch_11 ?_
  have h := h.2
  refine m_isub C dX10_touch_12 ?_
  refine m_callSi C (as := [vI (w32 ((M 58 (Int.toNat a1)) - (M 58 (Int.toNat a2))))]) (rest := []) ok_X10_round ml_X10_262 rfl rfl (Nat.le_of_ble_eq_true rfl) (fun _ => rfl) dX10_touch_13 (Con.mono h (fun r1 M2 _ _ h => ?_))
  refine m_istore_n C (L' := [(3, vI r1), (0, vR 51), (1, vI a1), (2, vI a2)]) dX10_touch_16 rfl (by rw [hnL]; decide) rfl ?_
  refine m_aload_n C 1 dX10_touch_17 rfl rfl ?_
  refine m_getR C (k := 10) cl_X10 (by decide) so_51 rfl fl_X10_29 dX10_touch_18 ?_
  refine m_iconst C dX10_touch_21 (r32_of rfl) ?_
  refine m_aload_n C 1 dX10_touch_22 rfl rfl ?_
  refine m_getR C (k := 12) cl_X10 (by decide) so_51 rfl fl_X10_32 dX10_touch_23 ?_
  refine m_iload_n C 2 dX10_touch_26 rfl rfl ?_
  refine m_iald C (N := 40) sa_57 h.1 dX10_touch_27 ?_
  have h := h.2
  refine m_imul C dX10_touch_28 ?_
  refine m_iconst C dX10_touch_29 (r32_of rfl) ?_
  refine m_iadd C dX10_touch_30 ?_
  refine m_iald C (N := 18) sa_56 h.1 dX10_touch_31 ?_
  have h := h.2
  refine m_aload_n C 1 dX10_touch_32 rfl rfl ?_
  refine m_getR C (k := 10) cl_X10 (by decide) so_51 rfl fl_X10_29 dX10_touch_33 ?_
  refine m_iconst C dX10_touch_36 (r32_of rfl) ?_
  refine m_aload_n C 1 dX10_touch_37 rfl rfl ?_
  refine m_getR C (k := 12) cl_X10 (by decide) so_51 rfl fl_X10_32 dX10_touch_38 ?_
  refine m_iload_n C 3 dX10_touch_41 rfl rfl ?_
  refine m_iald C (N := 40) sa_57 h.1 dX10_touch_42 ?_
  have h := h.2
  refine m_imul C dX10_touch_43 ?_
  refine m_iconst C dX10_touch_44 (r32_of rfl) ?_
  refine m_iadd C dX10_touch_45 ?_
  refine m_iald C (N := 18) sa_56 h.1 dX10_touch_46 ?_
  have h := h.2
  refine m_icmp_ne C (tgt := 65) dX10_touch_47 (by decide) (fun e => ?_) (fun e => ?_)
  · have h := h.2 e
    refine m_iconst C dX10_touch_65 (r32_of rfl) ?_
    exact m_iret C E (Or.inr ⟨rfl, Or.inl rfl⟩) dX10_touch_66 h
  · have h := h.1 e
    refine m_iload_n C 0 dX10_touch_50 rfl rfl ?_
    refine m_iconst C dX10_touch_51 (r32_of rfl) ?_
    refine m_icmp_lt C (tgt := 61) dX10_touch_52 (by decide) (fun e => ?_) (fun e => ?_)
    · have h := h.1 e
      refine m_iconst C dX10_touch_61 (r32_of rfl) ?_
      refine m_goto C (tgt := 66) dX10_touch_62 (by decide) ?_
      exact m_iret C E (Or.inr ⟨rfl, Or.inr rfl⟩) dX10_touch_66 h
    · have h := h.2 e
      refine m_iload_n C 0 dX10_touch_55 rfl rfl ?_
      refine m_bipush C dX10_touch_56 (r32_of rfl) (by decide) ?_
      refine m_icmp_ne C (tgt := 65) dX10_touch_58 (by decide) (fun e => ?_) (fun e => ?_)
      · have h := h.2 e
        refine m_iconst C dX10_touch_65 (r32_of rfl) ?_
        exact m_iret C E (Or.inr ⟨rfl, Or.inl rfl⟩) dX10_touch_66 h
      · have h := h.1 e
        refine m_iconst C dX10_touch_61 (r32_of rfl) ?_
        refine m_goto C (tgt := 66) dX10_touch_62 (by decide) ?_
        exact m_iret C E (Or.inr ⟨rfl, Or.inr rfl⟩) dX10_touch_66 h
def B_X10_touching_4 (n : Nat) (a1 : Int) (x2 : Int) (x3 : Int) (M : Mem) (Q : Int → Mem → Prop) (K4 : Int → Int → Mem → Prop) (K17 : Int → Int → Int → Mem → Prop) : Prop :=
  (((M 51 14) ≤ x3 →
  Q x2 M) ∧ (¬ (M 51 14) ≤ x3 →
  K17 x2 x3 (w32 (x3 + 1)) M))
def B_X10_touching_17 (n : Nat) (a1 : Int) (x2 : Int) (x3 : Int) (x4 : Int) (M : Mem) (Q : Int → Mem → Prop) (K4 : Int → Int → Mem → Prop) (K17 : Int → Int → Int → Mem → Prop) : Prop :=
  (((M 51 14) ≤ x4 →
  K4 x2 (w32 (x3 + 1)) M) ∧ (¬ (M 51 14) ≤ x4 →
  ((x3 = a1 →
    K17 (w32 (x2 + 0)) x3 (w32 (x4 + 1)) M) ∧ (¬ x3 = a1 →
    ((x4 = a1 →
      K17 (w32 (x2 + 0)) x3 (w32 (x4 + 1)) M) ∧ (¬ x4 = a1 →
      Con n md_X10_touch [vR 51, vI x3, vI x4] M (fun r1 M2 =>
        ((r1 = 0 →
        K17 (w32 (x2 + 0)) x3 (w32 (x4 + 1)) M2) ∧ (¬ r1 = 0 →
        K17 (w32 (x2 + 1)) x3 (w32 (x4 + 1)) M2)))))))))
def B_X10_touching (n : Nat) (a1 : Int) (M : Mem) (Q : Int → Mem → Prop) (K4 : Int → Int → Mem → Prop) (K17 : Int → Int → Int → Mem → Prop) : Prop :=
  K4 0 0 M
set_option maxHeartbeats 4000000 in
set_option maxRecDepth 20000 in
theorem g_X10_touching {n : Nat} {a1 : Int} {M : Mem} {Q : Int → Mem → Prop}  (h : ∀ (K4 : Int → Int → Mem → Prop) (K17 : Int → Int → Int → Mem → Prop), (∀ (x2 : Int) (x3 : Int) (M : Mem), B_X10_touching_4 n a1 x2 x3 M Q K4 K17 → K4 x2 x3 M) → (∀ (x2 : Int) (x3 : Int) (x4 : Int) (M : Mem), B_X10_touching_17 n a1 x2 x3 x4 M Q K4 K17 → K17 x2 x3 x4 M) → B_X10_touching n a1 M Q K4 K17) : Con (n + 1) md_X10_touching [vR 51, vI a1] M Q := by
  refine Con.ofF (n := n + 1) (Nat.succ_pos n) pl_X10_touching (Nat.le_of_ble_eq_true rfl) (fun X C E hnL => ?_)
  have C : Cx X cX10_touching RX10 n := C
  show WM X 0 [(0, vR 51), (1, vI a1)] [] M
  have hb4 : ∀ (x2 : Int) (x3 : Int) (M : Mem), B_X10_touching_4 n a1 x2 x3 M Q (fun (x2 : Int) (x3 : Int) (M : Mem) => WM X 4 [(0, vR 51), (1, vI a1), (2, vI x2), (3, vI x3)] [] M) (fun (x2 : Int) (x3 : Int) (x4 : Int) (M : Mem) => WM X 17 [(0, vR 51), (1, vI a1), (2, vI x2), (3, vI x3), (4, vI x4)] [] M) → WM X 4 [(0, vR 51), (1, vI a1), (2, vI x2), (3, vI x3)] [] M := by
    intro x2 x3 M h
    unfold B_X10_touching_4 at h
    refine m_iload_n C 3 dX10_touching_4 rfl rfl ?_
    refine m_aload_n C 0 dX10_touching_5 rfl rfl ?_
    refine m_getI C (k := 14) cl_X10 (by decide) so_51 rfl fl_X10_246 dX10_touching_6 ?_
    refine m_icmp_ge C (tgt := 67) dX10_touching_9 (by decide) (fun e => ?_) (fun e => ?_)
    · have h := h.1 e
      refine m_iload_n C 2 dX10_touching_67 rfl rfl ?_
      exact m_iret C E (Or.inl rfl) dX10_touching_68 h
    · have h := h.2 e
      refine m_iload_n C 3 dX10_touching_12 rfl rfl ?_
      refine m_iconst C dX10_touching_13 (r32_of rfl) ?_
      refine m_iadd C dX10_touching_14 ?_
      refine m_istore C (L' := [(4, vI (w32 (x3 + 1))), (0, vR 51), (1, vI a1), (2, vI x2), (3, vI x3)]) dX10_touching_15 (by rw [hnL]; decide) rfl ?_
      exact m_sub [1, 2, 3, 4, 0] rfl h
  have hb17 : ∀ (x2 : Int) (x3 : Int) (x4 : Int) (M : Mem), B_X10_touching_17 n a1 x2 x3 x4 M Q (fun (x2 : Int) (x3 : Int) (M : Mem) => WM X 4 [(0, vR 51), (1, vI a1), (2, vI x2), (3, vI x3)] [] M) (fun (x2 : Int) (x3 : Int) (x4 : Int) (M : Mem) => WM X 17 [(0, vR 51), (1, vI a1), (2, vI x2), (3, vI x3), (4, vI x4)] [] M) → WM X 17 [(0, vR 51), (1, vI a1), (2, vI x2), (3, vI x3), (4, vI x4)] [] M := by
    intro x2 x3 x4 M h
    unfold B_X10_touching_17 at h
    refine m_iload C 4 dX10_touching_17 rfl ?_
    refine m_aload_n C 0 dX10_touching_19 rfl rfl ?_
    refine m_getI C (k := 14) cl_X10 (by decide) so_51 rfl fl_X10_246 dX10_touching_20 ?_
    refine m_icmp_ge C (tgt := 61) dX10_touching_23 (by decide) (fun e => ?_) (fun e => ?_)
    · have h := h.1 e
      refine m_iinc C (L' := [(3, vI (w32 (x3 + 1))), (0, vR 51), (1, vI a1), (2, vI x2), (4, vI x4)]) 3 dX10_touching_61 rfl (by rw [hnL]; decide) rfl ?_
      refine m_goto C (tgt := 4) dX10_touching_64 (by decide) ?_
      exact m_sub [1, 2, 3, 0] rfl h
    · have h := h.2 e
      refine m_iload_n C 2 dX10_touching_26 rfl rfl ?_
      refine m_iload_n C 3 dX10_touching_27 rfl rfl ?_
      refine m_iload_n C 1 dX10_touching_28 rfl rfl ?_
      refine m_icmp_eq C (tgt := 52) dX10_touching_29 (by decide) (fun e => ?_) (fun e => ?_)
      · have h := h.1 e
        refine m_iconst C dX10_touching_52 (r32_of rfl) ?_
        refine m_iadd C dX10_touching_53 ?_
        refine m_istore_n C (L' := [(2, vI (w32 (x2 + 0))), (0, vR 51), (1, vI a1), (3, vI x3), (4, vI x4)]) dX10_touching_54 rfl (by rw [hnL]; decide) rfl ?_
        refine m_iinc C (L' := [(4, vI (w32 (x4 + 1))), (2, vI (w32 (x2 + 0))), (0, vR 51), (1, vI a1), (3, vI x3)]) 4 dX10_touching_55 rfl (by rw [hnL]; decide) rfl ?_
        refine m_goto C (tgt := 17) dX10_touching_58 (by decide) ?_
        exact m_sub [2, 3, 1, 4, 0] rfl h
      · have h := h.2 e
        refine m_iload C 4 dX10_touching_32 rfl ?_
        refine m_iload_n C 1 dX10_touching_34 rfl rfl ?_
        refine m_icmp_eq C (tgt := 52) dX10_touching_35 (by decide) (fun e => ?_) (fun e => ?_)
        · have h := h.1 e
          refine m_iconst C dX10_touching_52 (r32_of rfl) ?_
          refine m_iadd C dX10_touching_53 ?_
          refine m_istore_n C (L' := [(2, vI (w32 (x2 + 0))), (0, vR 51), (1, vI a1), (3, vI x3), (4, vI x4)]) dX10_touching_54 rfl (by rw [hnL]; decide) rfl ?_
          refine m_iinc C (L' := [(4, vI (w32 (x4 + 1))), (2, vI (w32 (x2 + 0))), (0, vR 51), (1, vI a1), (3, vI x3)]) 4 dX10_touching_55 rfl (by rw [hnL]; decide) rfl ?_
          refine m_goto C (tgt := 17) dX10_touching_58 (by decide) ?_
          exact m_sub [2, 3, 1, 4, 0] rfl h
        · have h := h.2 e
          refine m_aload_n C 0 dX10_touching_38 rfl rfl ?_
          refine m_iload_n C 3 dX10_touching_39 rfl rfl ?_
          refine m_iload C 4 dX10_touching_40 rfl ?_
          refine m_callVi C (as := [vI x3, vI x4]) (rest := [vI x2]) ok_X10_touch ml_X10_268 so_51 rfl rfl rfl (Nat.le_of_ble_eq_true rfl) (fun _ => rfl) dX10_touching_42 (Con.mono h (fun r1 M2 _ _ h => ?_))
          refine m_if_eq C (tgt := 52) dX10_touching_45 (by decide) (fun e => ?_) (fun e => ?_)
          · have h := h.1 e
            refine m_iconst C dX10_touching_52 (r32_of rfl) ?_
            refine m_iadd C dX10_touching_53 ?_
            refine m_istore_n C (L' := [(2, vI (w32 (x2 + 0))), (0, vR 51), (1, vI a1), (3, vI x3), (4, vI x4)]) dX10_touching_54 rfl (by rw [hnL]; decide) rfl ?_
            refine m_iinc C (L' := [(4, vI (w32 (x4 + 1))), (2, vI (w32 (x2 + 0))), (0, vR 51), (1, vI a1), (3, vI x3)]) 4 dX10_touching_55 rfl (by rw [hnL]; decide) rfl ?_
            refine m_goto C (tgt := 17) dX10_touching_58 (by decide) ?_
            exact m_sub [2, 3, 1, 4, 0] rfl h
          · have h := h.2 e
            refine m_iconst C dX10_touching_48 (r32_of rfl) ?_
            refine m_goto C (tgt := 53) dX10_touching_49 (by decide) ?_
            refine m_iadd C dX10_touching_53 ?_
            refine m_istore_n C (L' := [(2, vI (w32 (x2 + 1))), (0, vR 51), (1, vI a1), (3, vI x3), (4, vI x4)]) dX10_touching_54 rfl (by rw [hnL]; decide) rfl ?_
            refine m_iinc C (L' := [(4, vI (w32 (x4 + 1))), (2, vI (w32 (x2 + 1))), (0, vR 51), (1, vI a1), (3, vI x3)]) 4 dX10_touching_55 rfl (by rw [hnL]; decide) rfl ?_
            refine m_goto C (tgt := 17) dX10_touching_58 (by decide) ?_
            exact m_sub [2, 3, 1, 4, 0] rfl h
  have h := h (fun (x2 : Int) (x3 : Int) (M : Mem) => WM X 4 [(0, vR 51), (1, vI a1), (2, vI x2), (3, vI x3)] [] M) (fun (x2 : Int) (x3 : Int) (x4 : Int) (M : Mem) => WM X 17 [(0, vR 51), (1, vI a1), (2, vI x2), (3, vI x3), (4, vI x4)] [] M) hb4 hb17
  unfold B_X10_touching at h
  refine m_iconst C dX10_touching_0 (r32_of rfl) ?_
  refine m_istore_n C (L' := [(2, vI 0), (0, vR 51), (1, vI a1)]) dX10_touching_1 rfl (by rw [hnL]; decide) rfl ?_
  refine m_iconst C dX10_touching_2 (r32_of rfl) ?_
  refine m_istore_n C (L' := [(3, vI 0), (2, vI 0), (0, vR 51), (1, vI a1)]) dX10_touching_3 rfl (by rw [hnL]; decide) rfl ?_
  exact m_sub [2, 3, 1, 0] rfl h
def B_X10_quarter_4 (n : Nat) (a1 : Int) (x2 : Int) (x3 : Int) (M : Mem) (Q : Int → Mem → Prop) (K4 : Int → Int → Mem → Prop) : Prop :=
  (((M 51 14) ≤ x3 →
  Q x2 M) ∧ (¬ (M 51 14) ≤ x3 →
  ((0 ≤ x3 ∧ x3 < 40) ∧ (((w32 (Int.tdiv (M 58 (Int.toNat x3)) 4)) = a1 →
    K4 (w32 (x2 + 1)) (w32 (x3 + 1)) M) ∧ (¬ (w32 (Int.tdiv (M 58 (Int.toNat x3)) 4)) = a1 →
    K4 (w32 (x2 + 0)) (w32 (x3 + 1)) M)))))
def B_X10_quarter (n : Nat) (a1 : Int) (M : Mem) (Q : Int → Mem → Prop) (K4 : Int → Int → Mem → Prop) : Prop :=
  K4 0 0 M
set_option maxHeartbeats 4000000 in
set_option maxRecDepth 20000 in
theorem g_X10_quarter {n : Nat} {a1 : Int} {M : Mem} {Q : Int → Mem → Prop}  (h : ∀ (K4 : Int → Int → Mem → Prop), (∀ (x2 : Int) (x3 : Int) (M : Mem), B_X10_quarter_4 n a1 x2 x3 M Q K4 → K4 x2 x3 M) → B_X10_quarter n a1 M Q K4) : Con (n + 1) md_X10_quarter [vR 51, vI a1] M Q := by
  refine Con.ofF (n := n + 1) (Nat.succ_pos n) pl_X10_quarter (Nat.le_of_ble_eq_true rfl) (fun X C E hnL => ?_)
  have C : Cx X cX10_quarter RX10 n := C
  show WM X 0 [(0, vR 51), (1, vI a1)] [] M
  have hb4 : ∀ (x2 : Int) (x3 : Int) (M : Mem), B_X10_quarter_4 n a1 x2 x3 M Q (fun (x2 : Int) (x3 : Int) (M : Mem) => WM X 4 [(0, vR 51), (1, vI a1), (2, vI x2), (3, vI x3)] [] M) → WM X 4 [(0, vR 51), (1, vI a1), (2, vI x2), (3, vI x3)] [] M := by
    intro x2 x3 M h
    unfold B_X10_quarter_4 at h
    refine m_iload_n C 3 dX10_quarter_4 rfl rfl ?_
    refine m_aload_n C 0 dX10_quarter_5 rfl rfl ?_
    refine m_getI C (k := 14) cl_X10 (by decide) so_51 rfl fl_X10_246 dX10_quarter_6 ?_
    refine m_icmp_ge C (tgt := 38) dX10_quarter_9 (by decide) (fun e => ?_) (fun e => ?_)
    · have h := h.1 e
      refine m_iload_n C 2 dX10_quarter_38 rfl rfl ?_
      exact m_iret C E (Or.inl rfl) dX10_quarter_39 h
    · have h := h.2 e
      refine m_iload_n C 2 dX10_quarter_12 rfl rfl ?_
      refine m_aload_n C 0 dX10_quarter_13 rfl rfl ?_
      refine m_getR C (k := 13) cl_X10 (by decide) so_51 rfl fl_X10_35 dX10_quarter_14 ?_
      refine m_iload_n C 3 dX10_quarter_17 rfl rfl ?_
      refine m_iald C (N := 40) sa_58 h.1 dX10_quarter_18 ?_
      have h := h.2
      refine m_iconst C dX10_quarter_19 (r32_of rfl) ?_
      refine m_idiv C dX10_quarter_20 (by decide) ?_
      refine m_iload_n C 1 dX10_quarter_21 rfl rfl ?_
      refine m_icmp_ne C (tgt := 29) dX10_quarter_22 (by decide) (fun e => ?_) (fun e => ?_)
      · have h := h.2 e
        refine m_iconst C dX10_quarter_29 (r32_of rfl) ?_
        refine m_iadd C dX10_quarter_30 ?_
        refine m_istore_n C (L' := [(2, vI (w32 (x2 + 0))), (0, vR 51), (1, vI a1), (3, vI x3)]) dX10_quarter_31 rfl (by rw [hnL]; decide) rfl ?_
        refine m_iinc C (L' := [(3, vI (w32 (x3 + 1))), (2, vI (w32 (x2 + 0))), (0, vR 51), (1, vI a1)]) 3 dX10_quarter_32 rfl (by rw [hnL]; decide) rfl ?_
        refine m_goto C (tgt := 4) dX10_quarter_35 (by decide) ?_
        exact m_sub [2, 3, 1, 0] rfl h
      · have h := h.1 e
        refine m_iconst C dX10_quarter_25 (r32_of rfl) ?_
        refine m_goto C (tgt := 30) dX10_quarter_26 (by decide) ?_
        refine m_iadd C dX10_quarter_30 ?_
        refine m_istore_n C (L' := [(2, vI (w32 (x2 + 1))), (0, vR 51), (1, vI a1), (3, vI x3)]) dX10_quarter_31 rfl (by rw [hnL]; decide) rfl ?_
        refine m_iinc C (L' := [(3, vI (w32 (x3 + 1))), (2, vI (w32 (x2 + 1))), (0, vR 51), (1, vI a1)]) 3 dX10_quarter_32 rfl (by rw [hnL]; decide) rfl ?_
        refine m_goto C (tgt := 4) dX10_quarter_35 (by decide) ?_
        exact m_sub [2, 3, 1, 0] rfl h
  have h := h (fun (x2 : Int) (x3 : Int) (M : Mem) => WM X 4 [(0, vR 51), (1, vI a1), (2, vI x2), (3, vI x3)] [] M) hb4
  unfold B_X10_quarter at h
  refine m_iconst C dX10_quarter_0 (r32_of rfl) ?_
  refine m_istore_n C (L' := [(2, vI 0), (0, vR 51), (1, vI a1)]) dX10_quarter_1 rfl (by rw [hnL]; decide) rfl ?_
  refine m_iconst C dX10_quarter_2 (r32_of rfl) ?_
  refine m_istore_n C (L' := [(3, vI 0), (2, vI 0), (0, vR 51), (1, vI a1)]) dX10_quarter_3 rfl (by rw [hnL]; decide) rfl ?_
  exact m_sub [2, 3, 1, 0] rfl h
def B_X10_even_7 (n : Nat)  (x1 : Int) (x2 : Int) (x3 : Int) (M : Mem) (Q : Int → Mem → Prop) (K7 : Int → Int → Int → Mem → Prop) : Prop :=
  ((4 ≤ x3 →
  Q (w32 (x2 - x1)) M) ∧ (¬ 4 ≤ x3 →
  Con n md_X10_quarter [vR 51, vI x3] M (fun r1 M2 =>
    ((x1 ≤ r1 →
    ((r1 ≤ x2 →
      K7 x1 x2 (w32 (x3 + 1)) M2) ∧ (¬ r1 ≤ x2 →
      K7 x1 r1 (w32 (x3 + 1)) M2))) ∧ (¬ x1 ≤ r1 →
    ((r1 ≤ x2 →
      K7 r1 x2 (w32 (x3 + 1)) M2) ∧ (¬ r1 ≤ x2 →
      K7 r1 r1 (w32 (x3 + 1)) M2)))))))
def B_X10_even (n : Nat)  (M : Mem) (Q : Int → Mem → Prop) (K7 : Int → Int → Int → Mem → Prop) : Prop :=
  K7 40 0 0 M
set_option maxHeartbeats 4000000 in
set_option maxRecDepth 20000 in
theorem g_X10_even {n : Nat}  {M : Mem} {Q : Int → Mem → Prop}  (h : ∀ (K7 : Int → Int → Int → Mem → Prop), (∀ (x1 : Int) (x2 : Int) (x3 : Int) (M : Mem), B_X10_even_7 n  x1 x2 x3 M Q K7 → K7 x1 x2 x3 M) → B_X10_even n  M Q K7) : Con (n + 1) md_X10_even [vR 51] M Q := by
  refine Con.ofF (n := n + 1) (Nat.succ_pos n) pl_X10_even (Nat.le_of_ble_eq_true rfl) (fun X C E hnL => ?_)
  have C : Cx X cX10_even RX10 n := C
  show WM X 0 [(0, vR 51)] [] M
  have hb7 : ∀ (x1 : Int) (x2 : Int) (x3 : Int) (M : Mem), B_X10_even_7 n  x1 x2 x3 M Q (fun (x1 : Int) (x2 : Int) (x3 : Int) (M : Mem) => WM X 7 [(0, vR 51), (1, vI x1), (2, vI x2), (3, vI x3)] [] M) → WM X 7 [(0, vR 51), (1, vI x1), (2, vI x2), (3, vI x3)] [] M := by
    intro x1 x2 x3 M h
    unfold B_X10_even_7 at h
    refine m_iload_n C 3 dX10_even_7 rfl rfl ?_
    refine m_iconst C dX10_even_8 (r32_of rfl) ?_
    refine m_icmp_ge C (tgt := 51) dX10_even_9 (by decide) (fun e => ?_) (fun e => ?_)
    · have h := h.1 e
      refine m_iload_n C 2 dX10_even_51 rfl rfl ?_
      refine m_iload_n C 1 dX10_even_52 rfl rfl ?_
      refine m_isub C dX10_even_53 ?_
      exact m_iret C E (Or.inl rfl) dX10_even_54 h
    · have h := h.2 e
      refine m_aload_n C 0 dX10_even_12 rfl rfl ?_
      refine m_iload_n C 3 dX10_even_13 rfl rfl ?_
      refine m_callVi C (as := [vI x3]) (rest := []) ok_X10_quarter ml_X10_271 so_51 rfl rfl rfl (Nat.le_of_ble_eq_true rfl) (fun _ => rfl) dX10_even_14 (Con.mono h (fun r1 M2 _ _ h => ?_))
      refine m_istore C (L' := [(4, vI r1), (0, vR 51), (1, vI x1), (2, vI x2), (3, vI x3)]) dX10_even_17 (by rw [hnL]; decide) rfl ?_
      refine m_iload C 0 dX10_even_19 rfl ?_
      refine m_iload_n C 2 dX10_even_21 rfl rfl ?_
      refine m_icmp_ge C (tgt := 30) dX10_even_22 (by decide) (fun e => ?_) (fun e => ?_)
      · have h := h.1 e
        refine m_iload_n C 2 dX10_even_30 rfl rfl ?_
        refine m_istore_n C (L' := [(1, vI x1), (4, vI r1), (0, vR 51), (2, vI x2), (3, vI x3)]) dX10_even_31 rfl (by rw [hnL]; decide) rfl ?_
        refine m_iload C 1 dX10_even_32 rfl ?_
        refine m_iload_n C 3 dX10_even_34 rfl rfl ?_
        refine m_icmp_le C (tgt := 43) dX10_even_35 (by decide) (fun e => ?_) (fun e => ?_)
        · have h := h.1 e
          refine m_iload_n C 3 dX10_even_43 rfl rfl ?_
          refine m_istore_n C (L' := [(2, vI x2), (1, vI x1), (4, vI r1), (0, vR 51), (3, vI x3)]) dX10_even_44 rfl (by rw [hnL]; decide) rfl ?_
          refine m_iinc C (L' := [(3, vI (w32 (x3 + 1))), (2, vI x2), (1, vI x1), (4, vI r1), (0, vR 51)]) 4 dX10_even_45 rfl (by rw [hnL]; decide) rfl ?_
          refine m_goto C (tgt := 7) dX10_even_48 (by decide) ?_
          exact m_sub [4, 2, 1, 0] rfl h
        · have h := h.2 e
          refine m_iload C 1 dX10_even_38 rfl ?_
          refine m_goto C (tgt := 44) dX10_even_40 (by decide) ?_
          refine m_istore_n C (L' := [(2, vI r1), (1, vI x1), (4, vI r1), (0, vR 51), (3, vI x3)]) dX10_even_44 rfl (by rw [hnL]; decide) rfl ?_
          refine m_iinc C (L' := [(3, vI (w32 (x3 + 1))), (2, vI r1), (1, vI x1), (4, vI r1), (0, vR 51)]) 4 dX10_even_45 rfl (by rw [hnL]; decide) rfl ?_
          refine m_goto C (tgt := 7) dX10_even_48 (by decide) ?_
          exact m_sub [4, 2, 1, 0] rfl h
      · have h := h.2 e
        refine m_iload C 0 dX10_even_25 rfl ?_
        refine m_goto C (tgt := 31) dX10_even_27 (by decide) ?_
        refine m_istore_n C (L' := [(1, vI r1), (4, vI r1), (0, vR 51), (2, vI x2), (3, vI x3)]) dX10_even_31 rfl (by rw [hnL]; decide) rfl ?_
        refine m_iload C 1 dX10_even_32 rfl ?_
        refine m_iload_n C 3 dX10_even_34 rfl rfl ?_
        refine m_icmp_le C (tgt := 43) dX10_even_35 (by decide) (fun e => ?_) (fun e => ?_)
        · have h := h.1 e
          refine m_iload_n C 3 dX10_even_43 rfl rfl ?_
          refine m_istore_n C (L' := [(2, vI x2), (1, vI r1), (4, vI r1), (0, vR 51), (3, vI x3)]) dX10_even_44 rfl (by rw [hnL]; decide) rfl ?_
          refine m_iinc C (L' := [(3, vI (w32 (x3 + 1))), (2, vI x2), (1, vI r1), (4, vI r1), (0, vR 51)]) 4 dX10_even_45 rfl (by rw [hnL]; decide) rfl ?_
          refine m_goto C (tgt := 7) dX10_even_48 (by decide) ?_
          exact m_sub [4, 2, 1, 0] rfl h
        · have h := h.2 e
          refine m_iload C 1 dX10_even_38 rfl ?_
          refine m_goto C (tgt := 44) dX10_even_40 (by decide) ?_
          refine m_istore_n C (L' := [(2, vI r1), (1, vI r1), (4, vI r1), (0, vR 51), (3, vI x3)]) dX10_even_44 rfl (by rw [hnL]; decide) rfl ?_
          refine m_iinc C (L' := [(3, vI (w32 (x3 + 1))), (2, vI r1), (1, vI r1), (4, vI r1), (0, vR 51)]) 4 dX10_even_45 rfl (by rw [hnL]; decide) rfl ?_
          refine m_goto C (tgt := 7) dX10_even_48 (by decide) ?_
          exact m_sub [4, 2, 1, 0] rfl h
  have h := h (fun (x1 : Int) (x2 : Int) (x3 : Int) (M : Mem) => WM X 7 [(0, vR 51), (1, vI x1), (2, vI x2), (3, vI x3)] [] M) hb7
  unfold B_X10_even at h
  refine m_bipush C dX10_even_0 (r32_of rfl) (by decide) ?_
  refine m_istore_n C (L' := [(1, vI 40), (0, vR 51)]) dX10_even_2 rfl (by rw [hnL]; decide) rfl ?_
  refine m_iconst C dX10_even_3 (r32_of rfl) ?_
  refine m_istore_n C (L' := [(2, vI 0), (1, vI 40), (0, vR 51)]) dX10_even_4 rfl (by rw [hnL]; decide) rfl ?_
  refine m_iconst C dX10_even_5 (r32_of rfl) ?_
  refine m_istore_n C (L' := [(3, vI 0), (2, vI 0), (1, vI 40), (0, vR 51)]) dX10_even_6 rfl (by rw [hnL]; decide) rfl ?_
  exact m_sub [3, 2, 1, 0] rfl h
def B_X10_cost_4 (n : Nat)  (x1 : Int) (x2 : Int) (M : Mem) (Q : Int → Mem → Prop) (K4 : Int → Int → Mem → Prop) : Prop :=
  (((M 51 14) ≤ x2 →
  Q x1 M) ∧ (¬ (M 51 14) ≤ x2 →
  ((0 ≤ x2 ∧ x2 < 40) ∧ Con n md_X10_looks [vR 51, vI (M 57 (Int.toNat x2))] M (fun _ M2 =>
    ((0 ≤ x2 ∧ x2 < 40) ∧ Con n md_X10_costsOf [vR 51, vI (M2 57 (Int.toNat x2))] M2 (fun r3 M4 =>
    K4 (w32 (x1 + r3)) (w32 (x2 + 1)) M4))))))
def B_X10_cost (n : Nat)  (M : Mem) (Q : Int → Mem → Prop) (K4 : Int → Int → Mem → Prop) : Prop :=
  K4 0 0 M
set_option maxHeartbeats 4000000 in
set_option maxRecDepth 20000 in
theorem g_X10_cost {n : Nat}  {M : Mem} {Q : Int → Mem → Prop}  (h : ∀ (K4 : Int → Int → Mem → Prop), (∀ (x1 : Int) (x2 : Int) (M : Mem), B_X10_cost_4 n  x1 x2 M Q K4 → K4 x1 x2 M) → B_X10_cost n  M Q K4) : Con (n + 1) md_X10_cost [vR 51] M Q := by
  refine Con.ofF (n := n + 1) (Nat.succ_pos n) pl_X10_cost (Nat.le_of_ble_eq_true rfl) (fun X C E hnL => ?_)
  have C : Cx X cX10_cost RX10 n := C
  show WM X 0 [(0, vR 51)] [] M
  have hb4 : ∀ (x1 : Int) (x2 : Int) (M : Mem), B_X10_cost_4 n  x1 x2 M Q (fun (x1 : Int) (x2 : Int) (M : Mem) => WM X 4 [(0, vR 51), (1, vI x1), (2, vI x2)] [] M) → WM X 4 [(0, vR 51), (1, vI x1), (2, vI x2)] [] M := by
    intro x1 x2 M h
    unfold B_X10_cost_4 at h
    refine m_iload_n C 2 dX10_cost_4 rfl rfl ?_
    refine m_aload_n C 0 dX10_cost_5 rfl rfl ?_
    refine m_getI C (k := 14) cl_X10 (by decide) so_51 rfl fl_X10_246 dX10_cost_6 ?_
    refine m_icmp_ge C (tgt := 41) dX10_cost_9 (by decide) (fun e => ?_) (fun e => ?_)
    · have h := h.1 e
      refine m_iload_n C 1 dX10_cost_41 rfl rfl ?_
      exact m_iret C E (Or.inl rfl) dX10_cost_42 h
    · have h := h.2 e
      refine m_aload_n C 0 dX10_cost_12 rfl rfl ?_
      refine m_aload_n C 0 dX10_cost_13 rfl rfl ?_
      refine m_getR C (k := 12) cl_X10 (by decide) so_51 rfl fl_X10_32 dX10_cost_14 ?_
      refine m_iload_n C 2 dX10_cost_17 rfl rfl ?_
      refine m_iald C (N := 40) sa_57 h.1 dX10_cost_18 ?_
      have h := h.2
      refine m_callVv C (as := [vI (M 57 (Int.toNat x2))]) (rest := []) ok_X10_looks ml_X10_114 so_51 rfl rfl rfl (Nat.le_of_ble_eq_true rfl) (fun _ => rfl) dX10_cost_19 (Con.mono h (fun _ M2 _ _ h => ?_))
      refine m_iload_n C 1 dX10_cost_22 rfl rfl ?_
      refine m_aload_n C 0 dX10_cost_23 rfl rfl ?_
      refine m_aload_n C 0 dX10_cost_24 rfl rfl ?_
      refine m_getR C (k := 12) cl_X10 (by decide) so_51 rfl fl_X10_32 dX10_cost_25 ?_
      refine m_iload_n C 2 dX10_cost_28 rfl rfl ?_
      refine m_iald C (N := 40) sa_57 h.1 dX10_cost_29 ?_
      have h := h.2
      refine m_callVi C (as := [vI (M2 57 (Int.toNat x2))]) (rest := [vI x1]) ok_X10_costsOf ml_X10_121 so_51 rfl rfl rfl (Nat.le_of_ble_eq_true rfl) (fun _ => rfl) dX10_cost_30 (Con.mono h (fun r3 M4 _ _ h => ?_))
      refine m_iadd C dX10_cost_33 ?_
      refine m_istore_n C (L' := [(1, vI (w32 (x1 + r3))), (0, vR 51), (2, vI x2)]) dX10_cost_34 rfl (by rw [hnL]; decide) rfl ?_
      refine m_iinc C (L' := [(2, vI (w32 (x2 + 1))), (1, vI (w32 (x1 + r3))), (0, vR 51)]) 2 dX10_cost_35 rfl (by rw [hnL]; decide) rfl ?_
      refine m_goto C (tgt := 4) dX10_cost_38 (by decide) ?_
      exact m_sub [2, 1, 0] rfl h
  have h := h (fun (x1 : Int) (x2 : Int) (M : Mem) => WM X 4 [(0, vR 51), (1, vI x1), (2, vI x2)] [] M) hb4
  unfold B_X10_cost at h
  refine m_iconst C dX10_cost_0 (r32_of rfl) ?_
  refine m_istore_n C (L' := [(1, vI 0), (0, vR 51)]) dX10_cost_1 rfl (by rw [hnL]; decide) rfl ?_
  refine m_iconst C dX10_cost_2 (r32_of rfl) ?_
  refine m_istore_n C (L' := [(2, vI 0), (1, vI 0), (0, vR 51)]) dX10_cost_3 rfl (by rw [hnL]; decide) rfl ?_
  exact m_sub [2, 1, 0] rfl h
def B_X10_ofColours_4 (n : Nat) (a1 : Int) (x2 : Int) (x3 : Int) (M : Mem) (Q : Int → Mem → Prop) (K4 : Int → Int → Mem → Prop) : Prop :=
  (((M 51 14) ≤ x3 →
  Q x2 M) ∧ (¬ (M 51 14) ≤ x3 →
  ((0 ≤ x3 ∧ x3 < 40) ∧ ((0 ≤ (w32 ((w32 (3 * (M 57 (Int.toNat x3)))) + 1)) ∧ (w32 ((w32 (3 * (M 57 (Int.toNat x3)))) + 1)) < 18) ∧ (((M 56 (Int.toNat (w32 ((w32 (3 * (M 57 (Int.toNat x3)))) + 1)))) = a1 →
    K4 (w32 (x2 + 1)) (w32 (x3 + 1)) M) ∧ (¬ (M 56 (Int.toNat (w32 ((w32 (3 * (M 57 (Int.toNat x3)))) + 1)))) = a1 →
    K4 (w32 (x2 + 0)) (w32 (x3 + 1)) M))))))
def B_X10_ofColours (n : Nat) (a1 : Int) (M : Mem) (Q : Int → Mem → Prop) (K4 : Int → Int → Mem → Prop) : Prop :=
  K4 0 0 M
set_option maxHeartbeats 4000000 in
set_option maxRecDepth 20000 in
theorem g_X10_ofColours {n : Nat} {a1 : Int} {M : Mem} {Q : Int → Mem → Prop}  (h : ∀ (K4 : Int → Int → Mem → Prop), (∀ (x2 : Int) (x3 : Int) (M : Mem), B_X10_ofColours_4 n a1 x2 x3 M Q K4 → K4 x2 x3 M) → B_X10_ofColours n a1 M Q K4) : Con (n + 1) md_X10_ofColours [vR 51, vI a1] M Q := by
  refine Con.ofF (n := n + 1) (Nat.succ_pos n) pl_X10_ofColours (Nat.le_of_ble_eq_true rfl) (fun X C E hnL => ?_)
  have C : Cx X cX10_ofColours RX10 n := C
  show WM X 0 [(0, vR 51), (1, vI a1)] [] M
  have hb4 : ∀ (x2 : Int) (x3 : Int) (M : Mem), B_X10_ofColours_4 n a1 x2 x3 M Q (fun (x2 : Int) (x3 : Int) (M : Mem) => WM X 4 [(0, vR 51), (1, vI a1), (2, vI x2), (3, vI x3)] [] M) → WM X 4 [(0, vR 51), (1, vI a1), (2, vI x2), (3, vI x3)] [] M := by
    intro x2 x3 M h
    unfold B_X10_ofColours_4 at h
    refine m_iload_n C 3 dX10_ofColours_4 rfl rfl ?_
    refine m_aload_n C 0 dX10_ofColours_5 rfl rfl ?_
    refine m_getI C (k := 14) cl_X10 (by decide) so_51 rfl fl_X10_246 dX10_ofColours_6 ?_
    refine m_icmp_ge C (tgt := 45) dX10_ofColours_9 (by decide) (fun e => ?_) (fun e => ?_)
    · have h := h.1 e
      refine m_iload_n C 2 dX10_ofColours_45 rfl rfl ?_
      exact m_iret C E (Or.inl rfl) dX10_ofColours_46 h
    · have h := h.2 e
      refine m_iload_n C 2 dX10_ofColours_12 rfl rfl ?_
      refine m_aload_n C 0 dX10_ofColours_13 rfl rfl ?_
      refine m_getR C (k := 10) cl_X10 (by decide) so_51 rfl fl_X10_29 dX10_ofColours_14 ?_
      refine m_iconst C dX10_ofColours_17 (r32_of rfl) ?_
      refine m_aload_n C 0 dX10_ofColours_18 rfl rfl ?_
      refine m_getR C (k := 12) cl_X10 (by decide) so_51 rfl fl_X10_32 dX10_ofColours_19 ?_
      refine m_iload_n C 3 dX10_ofColours_22 rfl rfl ?_
      refine m_iald C (N := 40) sa_57 h.1 dX10_ofColours_23 ?_
      have h := h.2
      refine m_imul C dX10_ofColours_24 ?_
      refine m_iconst C dX10_ofColours_25 (r32_of rfl) ?_
      refine m_iadd C dX10_ofColours_26 ?_
      refine m_iald C (N := 18) sa_56 h.1 dX10_ofColours_27 ?_
      have h := h.2
      refine m_iload_n C 1 dX10_ofColours_28 rfl rfl ?_
      refine m_icmp_ne C (tgt := 36) dX10_ofColours_29 (by decide) (fun e => ?_) (fun e => ?_)
      · have h := h.2 e
        refine m_iconst C dX10_ofColours_36 (r32_of rfl) ?_
        refine m_iadd C dX10_ofColours_37 ?_
        refine m_istore_n C (L' := [(2, vI (w32 (x2 + 0))), (0, vR 51), (1, vI a1), (3, vI x3)]) dX10_ofColours_38 rfl (by rw [hnL]; decide) rfl ?_
        refine m_iinc C (L' := [(3, vI (w32 (x3 + 1))), (2, vI (w32 (x2 + 0))), (0, vR 51), (1, vI a1)]) 3 dX10_ofColours_39 rfl (by rw [hnL]; decide) rfl ?_
        refine m_goto C (tgt := 4) dX10_ofColours_42 (by decide) ?_
        exact m_sub [2, 3, 1, 0] rfl h
      · have h := h.1 e
        refine m_iconst C dX10_ofColours_32 (r32_of rfl) ?_
        refine m_goto C (tgt := 37) dX10_ofColours_33 (by decide) ?_
        refine m_iadd C dX10_ofColours_37 ?_
        refine m_istore_n C (L' := [(2, vI (w32 (x2 + 1))), (0, vR 51), (1, vI a1), (3, vI x3)]) dX10_ofColours_38 rfl (by rw [hnL]; decide) rfl ?_
        refine m_iinc C (L' := [(3, vI (w32 (x3 + 1))), (2, vI (w32 (x2 + 1))), (0, vR 51), (1, vI a1)]) 3 dX10_ofColours_39 rfl (by rw [hnL]; decide) rfl ?_
        refine m_goto C (tgt := 4) dX10_ofColours_42 (by decide) ?_
        exact m_sub [2, 3, 1, 0] rfl h
  have h := h (fun (x2 : Int) (x3 : Int) (M : Mem) => WM X 4 [(0, vR 51), (1, vI a1), (2, vI x2), (3, vI x3)] [] M) hb4
  unfold B_X10_ofColours at h
  refine m_iconst C dX10_ofColours_0 (r32_of rfl) ?_
  refine m_istore_n C (L' := [(2, vI 0), (0, vR 51), (1, vI a1)]) dX10_ofColours_1 rfl (by rw [hnL]; decide) rfl ?_
  refine m_iconst C dX10_ofColours_2 (r32_of rfl) ?_
  refine m_istore_n C (L' := [(3, vI 0), (2, vI 0), (0, vR 51), (1, vI a1)]) dX10_ofColours_3 rfl (by rw [hnL]; decide) rfl ?_
  exact m_sub [2, 3, 1, 0] rfl h
def B_X10_bunch (n : Nat) (a1 : Int) (M : Mem) (Q : Int → Mem → Prop)  : Prop :=
  Con n md_X10_in [vL a1, vL 0, vL 7] M (fun r1 M2 =>
  ((r1 = 0 →
  Con n md_X10_in [vL a1, vL 10, vL 14] M2 (fun r15 M16 =>
    ((r15 = 0 →
    Q (-100000) M16) ∧ (¬ r15 = 0 →
    ((4 ≤ a1 →
      ((8 ≤ a1 →
        Con n md_X10_ofColours [vR 51, vI (w32 (a1 - 10))] M16 (fun r17 M18 =>
          Q r17 M18)) ∧ (¬ 8 ≤ a1 →
        Con n md_X10_quarter [vR 51, vI (w32 (a1 - 4))] M16 (fun r19 M20 =>
          Q r19 M20)))) ∧ (¬ 4 ≤ a1 →
      ((a1 = 0 →
        Con n md_X10_touching [vR 51, vI (-1)] M16 (fun r27 M28 =>
          Q r27 M28)) ∧ (¬ a1 = 0 →
        ((a1 = 1 →
          Con n md_X10_even [vR 51] M16 (fun r25 M26 =>
            Q r25 M26)) ∧ (¬ a1 = 1 →
          ((a1 = 2 →
            Con n md_X10_cost [vR 51] M16 (fun r23 M24 =>
              Q r23 M24)) ∧ (¬ a1 = 2 →
            Con n md_X10_roomNow [vR 51] M16 (fun r21 M22 =>
              Q r21 M22))))))))))))) ∧ (¬ r1 = 0 →
  ((4 ≤ a1 →
    ((8 ≤ a1 →
      Con n md_X10_ofColours [vR 51, vI (w32 (a1 - 10))] M2 (fun r3 M4 =>
        Q r3 M4)) ∧ (¬ 8 ≤ a1 →
      Con n md_X10_quarter [vR 51, vI (w32 (a1 - 4))] M2 (fun r5 M6 =>
        Q r5 M6)))) ∧ (¬ 4 ≤ a1 →
    ((a1 = 0 →
      Con n md_X10_touching [vR 51, vI (-1)] M2 (fun r13 M14 =>
        Q r13 M14)) ∧ (¬ a1 = 0 →
      ((a1 = 1 →
        Con n md_X10_even [vR 51] M2 (fun r11 M12 =>
          Q r11 M12)) ∧ (¬ a1 = 1 →
        ((a1 = 2 →
          Con n md_X10_cost [vR 51] M2 (fun r9 M10 =>
            Q r9 M10)) ∧ (¬ a1 = 2 →
          Con n md_X10_roomNow [vR 51] M2 (fun r7 M8 =>
            Q r7 M8))))))))))))
set_option maxHeartbeats 4000000 in
set_option maxRecDepth 20000 in
theorem g_X10_bunch {n : Nat} {a1 : Int} {M : Mem} {Q : Int → Mem → Prop}  (h : B_X10_bunch n a1 M Q) : Con (n + 1) md_X10_bunch [vR 51, vI a1] M Q := by
  refine Con.ofF (n := n + 1) (Nat.succ_pos n) pl_X10_bunch (Nat.le_of_ble_eq_true rfl) (fun X C E hnL => ?_)
  have C : Cx X cX10_bunch RX10 n := C
  show WM X 0 [(0, vR 51), (1, vI a1)] [] M
  unfold B_X10_bunch at h
  refine m_iload_n C 1 dX10_bunch_0 rfl rfl ?_
  refine m_i2l C dX10_bunch_1 ?_
  refine m_lconst C (x := 0) dX10_bunch_2 (by decide) (r64_of rfl) ?_
  refine m_ldc2 C (v := 7) dX10_bunch_3 kc_X10_274 (r64_of rfl) ?_
  refine m_callSi C (as := [vL a1, vL 0, vL 7]) (rest := []) ok_X10_in ml_X10_79 rfl rfl (Nat.le_of_ble_eq_true rfl) (fun _ => rfl) dX10_bunch_6 (Con.mono h (fun r1 M2 _ _ h => ?_))
  refine m_if_ne C (tgt := 30) dX10_bunch_9 (by decide) (fun e => ?_) (fun e => ?_)
  · have h := h.2 e
    refine m_iload_n C 1 dX10_bunch_30 rfl rfl ?_
    refine m_iconst C dX10_bunch_31 (r32_of rfl) ?_
    refine m_icmp_ge C (tgt := 76) dX10_bunch_32 (by decide) (fun e => ?_) (fun e => ?_)
    · have h := h.1 e
      refine m_iload_n C 1 dX10_bunch_76 rfl rfl ?_
      refine m_bipush C dX10_bunch_77 (r32_of rfl) (by decide) ?_
      refine m_icmp_ge C (tgt := 92) dX10_bunch_79 (by decide) (fun e => ?_) (fun e => ?_)
      · have h := h.1 e
        refine m_aload_n C 0 dX10_bunch_92 rfl rfl ?_
        refine m_iload_n C 1 dX10_bunch_93 rfl rfl ?_
        refine m_bipush C dX10_bunch_94 (r32_of rfl) (by decide) ?_
        refine m_isub C dX10_bunch_96 ?_
        refine m_callVi C (as := [vI (w32 (a1 - 10))]) (rest := []) ok_X10_ofColours ml_X10_288 so_51 rfl rfl rfl (Nat.le_of_ble_eq_true rfl) (fun _ => rfl) dX10_bunch_97 (Con.mono h (fun r3 M4 _ _ h => ?_))
        exact m_iret C E (Or.inl rfl) dX10_bunch_100 h
      · have h := h.2 e
        refine m_aload_n C 0 dX10_bunch_82 rfl rfl ?_
        refine m_iload_n C 1 dX10_bunch_83 rfl rfl ?_
        refine m_iconst C dX10_bunch_84 (r32_of rfl) ?_
        refine m_isub C dX10_bunch_85 ?_
        refine m_callVi C (as := [vI (w32 (a1 - 4))]) (rest := []) ok_X10_quarter ml_X10_271 so_51 rfl rfl rfl (Nat.le_of_ble_eq_true rfl) (fun _ => rfl) dX10_bunch_86 (Con.mono h (fun r5 M6 _ _ h => ?_))
        refine m_goto C (tgt := 100) dX10_bunch_89 (by decide) ?_
        exact m_iret C E (Or.inl rfl) dX10_bunch_100 h
    · have h := h.2 e
      refine m_iload_n C 1 dX10_bunch_35 rfl rfl ?_
      refine m_if_ne C (tgt := 47) dX10_bunch_36 (by decide) (fun e => ?_) (fun e => ?_)
      · have h := h.2 e
        refine m_iload_n C 1 dX10_bunch_47 rfl rfl ?_
        refine m_iconst C dX10_bunch_48 (r32_of rfl) ?_
        refine m_icmp_ne C (tgt := 59) dX10_bunch_49 (by decide) (fun e => ?_) (fun e => ?_)
        · have h := h.2 e
          refine m_iload_n C 1 dX10_bunch_59 rfl rfl ?_
          refine m_iconst C dX10_bunch_60 (r32_of rfl) ?_
          refine m_icmp_ne C (tgt := 71) dX10_bunch_61 (by decide) (fun e => ?_) (fun e => ?_)
          · have h := h.2 e
            refine m_aload_n C 0 dX10_bunch_71 rfl rfl ?_
            refine m_callVi C (as := []) (rest := []) ok_X10_roomNow ml_X10_252 so_51 rfl rfl rfl (Nat.le_of_ble_eq_true rfl) (fun _ => rfl) dX10_bunch_72 (Con.mono h (fun r7 M8 _ _ h => ?_))
            exact m_iret C E (Or.inl rfl) dX10_bunch_75 h
          · have h := h.1 e
            refine m_aload_n C 0 dX10_bunch_64 rfl rfl ?_
            refine m_callVi C (as := []) (rest := []) ok_X10_cost ml_X10_285 so_51 rfl rfl rfl (Nat.le_of_ble_eq_true rfl) (fun _ => rfl) dX10_bunch_65 (Con.mono h (fun r9 M10 _ _ h => ?_))
            refine m_goto C (tgt := 75) dX10_bunch_68 (by decide) ?_
            exact m_iret C E (Or.inl rfl) dX10_bunch_75 h
        · have h := h.1 e
          refine m_aload_n C 0 dX10_bunch_52 rfl rfl ?_
          refine m_callVi C (as := []) (rest := []) ok_X10_even ml_X10_282 so_51 rfl rfl rfl (Nat.le_of_ble_eq_true rfl) (fun _ => rfl) dX10_bunch_53 (Con.mono h (fun r11 M12 _ _ h => ?_))
          refine m_goto C (tgt := 75) dX10_bunch_56 (by decide) ?_
          exact m_iret C E (Or.inl rfl) dX10_bunch_75 h
      · have h := h.1 e
        refine m_aload_n C 0 dX10_bunch_39 rfl rfl ?_
        refine m_iconst C dX10_bunch_40 (r32_of rfl) ?_
        refine m_callVi C (as := [vI (-1)]) (rest := []) ok_X10_touching ml_X10_279 so_51 rfl rfl rfl (Nat.le_of_ble_eq_true rfl) (fun _ => rfl) dX10_bunch_41 (Con.mono h (fun r13 M14 _ _ h => ?_))
        refine m_goto C (tgt := 75) dX10_bunch_44 (by decide) ?_
        exact m_iret C E (Or.inl rfl) dX10_bunch_75 h
  · have h := h.1 e
    refine m_iload_n C 1 dX10_bunch_12 rfl rfl ?_
    refine m_i2l C dX10_bunch_13 ?_
    refine m_ldc2 C (v := 10) dX10_bunch_14 kc_X10_162 (r64_of rfl) ?_
    refine m_ldc2 C (v := 14) dX10_bunch_17 kc_X10_276 (r64_of rfl) ?_
    refine m_callSi C (as := [vL a1, vL 10, vL 14]) (rest := []) ok_X10_in ml_X10_79 rfl rfl (Nat.le_of_ble_eq_true rfl) (fun _ => rfl) dX10_bunch_20 (Con.mono h (fun r15 M16 _ _ h => ?_))
    refine m_if_ne C (tgt := 30) dX10_bunch_23 (by decide) (fun e => ?_) (fun e => ?_)
    · have h := h.2 e
      refine m_iload_n C 1 dX10_bunch_30 rfl rfl ?_
      refine m_iconst C dX10_bunch_31 (r32_of rfl) ?_
      refine m_icmp_ge C (tgt := 76) dX10_bunch_32 (by decide) (fun e => ?_) (fun e => ?_)
      · have h := h.1 e
        refine m_iload_n C 1 dX10_bunch_76 rfl rfl ?_
        refine m_bipush C dX10_bunch_77 (r32_of rfl) (by decide) ?_
        refine m_icmp_ge C (tgt := 92) dX10_bunch_79 (by decide) (fun e => ?_) (fun e => ?_)
        · have h := h.1 e
          refine m_aload_n C 0 dX10_bunch_92 rfl rfl ?_
          refine m_iload_n C 1 dX10_bunch_93 rfl rfl ?_
          refine m_bipush C dX10_bunch_94 (r32_of rfl) (by decide) ?_
          refine m_isub C dX10_bunch_96 ?_
          refine m_callVi C (as := [vI (w32 (a1 - 10))]) (rest := []) ok_X10_ofColours ml_X10_288 so_51 rfl rfl rfl (Nat.le_of_ble_eq_true rfl) (fun _ => rfl) dX10_bunch_97 (Con.mono h (fun r17 M18 _ _ h => ?_))
          exact m_iret C E (Or.inl rfl) dX10_bunch_100 h
        · have h := h.2 e
          refine m_aload_n C 0 dX10_bunch_82 rfl rfl ?_
          refine m_iload_n C 1 dX10_bunch_83 rfl rfl ?_
          refine m_iconst C dX10_bunch_84 (r32_of rfl) ?_
          refine m_isub C dX10_bunch_85 ?_
          refine m_callVi C (as := [vI (w32 (a1 - 4))]) (rest := []) ok_X10_quarter ml_X10_271 so_51 rfl rfl rfl (Nat.le_of_ble_eq_true rfl) (fun _ => rfl) dX10_bunch_86 (Con.mono h (fun r19 M20 _ _ h => ?_))
          refine m_goto C (tgt := 100) dX10_bunch_89 (by decide) ?_
          exact m_iret C E (Or.inl rfl) dX10_bunch_100 h
      · have h := h.2 e
        refine m_iload_n C 1 dX10_bunch_35 rfl rfl ?_
        refine m_if_ne C (tgt := 47) dX10_bunch_36 (by decide) (fun e => ?_) (fun e => ?_)
        · have h := h.2 e
          refine m_iload_n C 1 dX10_bunch_47 rfl rfl ?_
          refine m_iconst C dX10_bunch_48 (r32_of rfl) ?_
          refine m_icmp_ne C (tgt := 59) dX10_bunch_49 (by decide) (fun e => ?_) (fun e => ?_)
          · have h := h.2 e
            refine m_iload_n C 1 dX10_bunch_59 rfl rfl ?_
            refine m_iconst C dX10_bunch_60 (r32_of rfl) ?_
            refine m_icmp_ne C (tgt := 71) dX10_bunch_61 (by decide) (fun e => ?_) (fun e => ?_)
            · have h := h.2 e
              refine m_aload_n C 0 dX10_bunch_71 rfl rfl ?_
              refine m_callVi C (as := []) (rest := []) ok_X10_roomNow ml_X10_252 so_51 rfl rfl rfl (Nat.le_of_ble_eq_true rfl) (fun _ => rfl) dX10_bunch_72 (Con.mono h (fun r21 M22 _ _ h => ?_))
              exact m_iret C E (Or.inl rfl) dX10_bunch_75 h
            · have h := h.1 e
              refine m_aload_n C 0 dX10_bunch_64 rfl rfl ?_
              refine m_callVi C (as := []) (rest := []) ok_X10_cost ml_X10_285 so_51 rfl rfl rfl (Nat.le_of_ble_eq_true rfl) (fun _ => rfl) dX10_bunch_65 (Con.mono h (fun r23 M24 _ _ h => ?_))
              refine m_goto C (tgt := 75) dX10_bunch_68 (by decide) ?_
              exact m_iret C E (Or.inl rfl) dX10_bunch_75 h
          · have h := h.1 e
            refine m_aload_n C 0 dX10_bunch_52 rfl rfl ?_
            refine m_callVi C (as := []) (rest := []) ok_X10_even ml_X10_282 so_51 rfl rfl rfl (Nat.le_of_ble_eq_true rfl) (fun _ => rfl) dX10_bunch_53 (Con.mono h (fun r25 M26 _ _ h => ?_))
            refine m_goto C (tgt := 75) dX10_bunch_56 (by decide) ?_
            exact m_iret C E (Or.inl rfl) dX10_bunch_75 h
        · have h := h.1 e
          refine m_aload_n C 0 dX10_bunch_39 rfl rfl ?_
          refine m_iconst C dX10_bunch_40 (r32_of rfl) ?_
          refine m_callVi C (as := [vI (-1)]) (rest := []) ok_X10_touching ml_X10_279 so_51 rfl rfl rfl (Nat.le_of_ble_eq_true rfl) (fun _ => rfl) dX10_bunch_41 (Con.mono h (fun r27 M28 _ _ h => ?_))
          refine m_goto C (tgt := 75) dX10_bunch_44 (by decide) ?_
          exact m_iret C E (Or.inl rfl) dX10_bunch_75 h
    · have h := h.1 e
      refine m_ldc_w C (v := (-100000)) dX10_bunch_26 kc_X10_278 (r32_of rfl) ?_
      exact m_iret C E (Or.inl rfl) dX10_bunch_29 h
def B_X10_good_19 (n : Nat) (a1 : Int) (x2 : Int) (x3 : Int) (M : Mem) (Q : Int → Mem → Prop) (K19 : Int → Int → Mem → Prop) : Prop :=
  (((M 51 14) ≤ x3 →
  Q x2 M) ∧ (¬ (M 51 14) ≤ x3 →
  ((0 ≤ x3 ∧ x3 < 40) ∧ Con n md_X10_looks [vR 51, vI (M 57 (Int.toNat x3))] M (fun _ M2 =>
    ((0 ≤ x3 ∧ x3 < 40) ∧ Con n md_X10_lastsOf [vR 51, vI (M2 57 (Int.toNat x3))] M2 (fun r3 M4 =>
    ((r3 < a1 →
    K19 (w32 (x2 + 0)) (w32 (x3 + 1)) M4) ∧ (¬ r3 < a1 →
    K19 (w32 (x2 + 1)) (w32 (x3 + 1)) M4))))))))
def B_X10_good (n : Nat) (a1 : Int) (M : Mem) (Q : Int → Mem → Prop) (K19 : Int → Int → Mem → Prop) : Prop :=
  Con n md_X10_in [vL a1, vL 0, vL 99] M (fun r5 M6 =>
  ((r5 = 0 →
  Q (-2) M6) ∧ (¬ r5 = 0 →
  K19 0 0 M6)))
set_option maxHeartbeats 4000000 in
set_option maxRecDepth 20000 in
theorem g_X10_good {n : Nat} {a1 : Int} {M : Mem} {Q : Int → Mem → Prop}  (h : ∀ (K19 : Int → Int → Mem → Prop), (∀ (x2 : Int) (x3 : Int) (M : Mem), B_X10_good_19 n a1 x2 x3 M Q K19 → K19 x2 x3 M) → B_X10_good n a1 M Q K19) : Con (n + 1) md_X10_good [vR 51, vI a1] M Q := by
  refine Con.ofF (n := n + 1) (Nat.succ_pos n) pl_X10_good (Nat.le_of_ble_eq_true rfl) (fun X C E hnL => ?_)
  have C : Cx X cX10_good RX10 n := C
  show WM X 0 [(0, vR 51), (1, vI a1)] [] M
  have hb19 : ∀ (x2 : Int) (x3 : Int) (M : Mem), B_X10_good_19 n a1 x2 x3 M Q (fun (x2 : Int) (x3 : Int) (M : Mem) => WM X 19 [(0, vR 51), (1, vI a1), (2, vI x2), (3, vI x3)] [] M) → WM X 19 [(0, vR 51), (1, vI a1), (2, vI x2), (3, vI x3)] [] M := by
    intro x2 x3 M h
    unfold B_X10_good_19 at h
    refine m_iload_n C 3 dX10_good_19 rfl rfl ?_
    refine m_aload_n C 0 dX10_good_20 rfl rfl ?_
    refine m_getI C (k := 14) cl_X10 (by decide) so_51 rfl fl_X10_246 dX10_good_21 ?_
    refine m_icmp_ge C (tgt := 65) dX10_good_24 (by decide) (fun e => ?_) (fun e => ?_)
    · have h := h.1 e
      refine m_iload_n C 2 dX10_good_65 rfl rfl ?_
      exact m_iret C E (Or.inl rfl) dX10_good_66 h
    · have h := h.2 e
      refine m_aload_n C 0 dX10_good_27 rfl rfl ?_
      refine m_aload_n C 0 dX10_good_28 rfl rfl ?_
      refine m_getR C (k := 12) cl_X10 (by decide) so_51 rfl fl_X10_32 dX10_good_29 ?_
      refine m_iload_n C 3 dX10_good_32 rfl rfl ?_
      refine m_iald C (N := 40) sa_57 h.1 dX10_good_33 ?_
      have h := h.2
      refine m_callVv C (as := [vI (M 57 (Int.toNat x3))]) (rest := []) ok_X10_looks ml_X10_114 so_51 rfl rfl rfl (Nat.le_of_ble_eq_true rfl) (fun _ => rfl) dX10_good_34 (Con.mono h (fun _ M2 _ _ h => ?_))
      refine m_iload_n C 2 dX10_good_37 rfl rfl ?_
      refine m_aload_n C 0 dX10_good_38 rfl rfl ?_
      refine m_aload_n C 0 dX10_good_39 rfl rfl ?_
      refine m_getR C (k := 12) cl_X10 (by decide) so_51 rfl fl_X10_32 dX10_good_40 ?_
      refine m_iload_n C 3 dX10_good_43 rfl rfl ?_
      refine m_iald C (N := 40) sa_57 h.1 dX10_good_44 ?_
      have h := h.2
      refine m_callVi C (as := [vI (M2 57 (Int.toNat x3))]) (rest := [vI x2]) ok_X10_lastsOf ml_X10_124 so_51 rfl rfl rfl (Nat.le_of_ble_eq_true rfl) (fun _ => rfl) dX10_good_45 (Con.mono h (fun r3 M4 _ _ h => ?_))
      refine m_iload_n C 1 dX10_good_48 rfl rfl ?_
      refine m_icmp_lt C (tgt := 56) dX10_good_49 (by decide) (fun e => ?_) (fun e => ?_)
      · have h := h.1 e
        refine m_iconst C dX10_good_56 (r32_of rfl) ?_
        refine m_iadd C dX10_good_57 ?_
        refine m_istore_n C (L' := [(2, vI (w32 (x2 + 0))), (0, vR 51), (1, vI a1), (3, vI x3)]) dX10_good_58 rfl (by rw [hnL]; decide) rfl ?_
        refine m_iinc C (L' := [(3, vI (w32 (x3 + 1))), (2, vI (w32 (x2 + 0))), (0, vR 51), (1, vI a1)]) 3 dX10_good_59 rfl (by rw [hnL]; decide) rfl ?_
        refine m_goto C (tgt := 19) dX10_good_62 (by decide) ?_
        exact m_sub [2, 3, 1, 0] rfl h
      · have h := h.2 e
        refine m_iconst C dX10_good_52 (r32_of rfl) ?_
        refine m_goto C (tgt := 57) dX10_good_53 (by decide) ?_
        refine m_iadd C dX10_good_57 ?_
        refine m_istore_n C (L' := [(2, vI (w32 (x2 + 1))), (0, vR 51), (1, vI a1), (3, vI x3)]) dX10_good_58 rfl (by rw [hnL]; decide) rfl ?_
        refine m_iinc C (L' := [(3, vI (w32 (x3 + 1))), (2, vI (w32 (x2 + 1))), (0, vR 51), (1, vI a1)]) 3 dX10_good_59 rfl (by rw [hnL]; decide) rfl ?_
        refine m_goto C (tgt := 19) dX10_good_62 (by decide) ?_
        exact m_sub [2, 3, 1, 0] rfl h
  have h := h (fun (x2 : Int) (x3 : Int) (M : Mem) => WM X 19 [(0, vR 51), (1, vI a1), (2, vI x2), (3, vI x3)] [] M) hb19
  unfold B_X10_good at h
  refine m_iload_n C 1 dX10_good_0 rfl rfl ?_
  refine m_i2l C dX10_good_1 ?_
  refine m_lconst C (x := 0) dX10_good_2 (by decide) (r64_of rfl) ?_
  refine m_ldc2 C (v := 99) dX10_good_3 kc_X10_291 (r64_of rfl) ?_
  refine m_callSi C (as := [vL a1, vL 0, vL 99]) (rest := []) ok_X10_in ml_X10_79 rfl rfl (Nat.le_of_ble_eq_true rfl) (fun _ => rfl) dX10_good_6 (Con.mono h (fun r5 M6 _ _ h => ?_))
  refine m_if_ne C (tgt := 15) dX10_good_9 (by decide) (fun e => ?_) (fun e => ?_)
  · have h := h.2 e
    refine m_iconst C dX10_good_15 (r32_of rfl) ?_
    refine m_istore_n C (L' := [(2, vI 0), (0, vR 51), (1, vI a1)]) dX10_good_16 rfl (by rw [hnL]; decide) rfl ?_
    refine m_iconst C dX10_good_17 (r32_of rfl) ?_
    refine m_istore_n C (L' := [(3, vI 0), (2, vI 0), (0, vR 51), (1, vI a1)]) dX10_good_18 rfl (by rw [hnL]; decide) rfl ?_
    exact m_sub [2, 3, 1, 0] rfl h
  · have h := h.1 e
    refine m_bipush C dX10_good_12 (r32_of rfl) (by decide) ?_
    exact m_iret C E (Or.inl rfl) dX10_good_14 h
def B_X10_next_24 (n : Nat) (a1 : Int) (x2 : Int) (x3 : Int) (x4 : Int) (M : Mem) (Q : Int → Mem → Prop) (K24 : Int → Int → Int → Mem → Prop) : Prop :=
  (((M 51 11) ≤ x4 →
  ((a1 = 0 →
    Q x2 M) ∧ (¬ a1 = 0 →
    Q x3 M))) ∧ (¬ (M 51 11) ≤ x4 →
  Con n md_X10_canLay [vR 51, vI x4] M (fun r1 M2 =>
    ((r1 = 0 →
    K24 x2 x3 (w32 (x4 + 1)) M2) ∧ (¬ r1 = 0 →
    Con n md_X10_puts [vR 51, vI x4] M2 (fun _ M4 =>
      Con n md_X10_touching [vR 51, vI (-1)] M4 (fun r5 M6 =>
      Con n md_X10_takesOff [vR 51] M6 (fun _ M8 =>
      ((x2 = (-1) →
      K24 x4 r5 (w32 (x4 + 1)) M8) ∧ (¬ x2 = (-1) →
      ((x3 ≤ r5 →
        K24 x2 x3 (w32 (x4 + 1)) M8) ∧ (¬ x3 ≤ r5 →
        K24 x4 r5 (w32 (x4 + 1)) M8))))))))))))
def B_X10_next (n : Nat) (a1 : Int) (M : Mem) (Q : Int → Mem → Prop) (K24 : Int → Int → Int → Mem → Prop) : Prop :=
  Con n md_X10_in [vL a1, vL 0, vL 1] M (fun r9 M10 =>
  ((r9 = 0 →
  Q (-2) M10) ∧ (¬ r9 = 0 →
  Con n md_X10_touching [vR 51, vI (-1)] M10 (fun r11 M12 =>
    K24 (-1) r11 0 M12))))
set_option maxHeartbeats 4000000 in
set_option maxRecDepth 20000 in
theorem g_X10_next {n : Nat} {a1 : Int} {M : Mem} {Q : Int → Mem → Prop}  (h : ∀ (K24 : Int → Int → Int → Mem → Prop), (∀ (x2 : Int) (x3 : Int) (x4 : Int) (M : Mem), B_X10_next_24 n a1 x2 x3 x4 M Q K24 → K24 x2 x3 x4 M) → B_X10_next n a1 M Q K24) : Con (n + 1) md_X10_next [vR 51, vI a1] M Q := by
  refine Con.ofF (n := n + 1) (Nat.succ_pos n) pl_X10_next (Nat.le_of_ble_eq_true rfl) (fun X C E hnL => ?_)
  have C : Cx X cX10_next RX10 n := C
  show WM X 0 [(0, vR 51), (1, vI a1)] [] M
  have hb24 : ∀ (x2 : Int) (x3 : Int) (x4 : Int) (M : Mem), B_X10_next_24 n a1 x2 x3 x4 M Q (fun (x2 : Int) (x3 : Int) (x4 : Int) (M : Mem) => WM X 24 [(0, vR 51), (1, vI a1), (2, vI x2), (3, vI x3), (4, vI x4)] [] M) → WM X 24 [(0, vR 51), (1, vI a1), (2, vI x2), (3, vI x3), (4, vI x4)] [] M := by
    intro x2 x3 x4 M h
    unfold B_X10_next_24 at h
    refine m_iload C 4 dX10_next_24 rfl ?_
    refine m_aload_n C 0 dX10_next_26 rfl rfl ?_
    refine m_getI C (k := 11) cl_X10 (by decide) so_51 rfl fl_X10_76 dX10_next_27 ?_
    refine m_icmp_ge C (tgt := 82) dX10_next_30 (by decide) (fun e => ?_) (fun e => ?_)
    · have h := h.1 e
      refine m_iload_n C 1 dX10_next_82 rfl rfl ?_
      refine m_if_ne C (tgt := 90) dX10_next_83 (by decide) (fun e => ?_) (fun e => ?_)
      · have h := h.2 e
        refine m_iload_n C 3 dX10_next_90 rfl rfl ?_
        exact m_iret C E (Or.inl rfl) dX10_next_91 h
      · have h := h.1 e
        refine m_iload_n C 2 dX10_next_86 rfl rfl ?_
        refine m_goto C (tgt := 91) dX10_next_87 (by decide) ?_
        exact m_iret C E (Or.inl rfl) dX10_next_91 h
    · have h := h.2 e
      refine m_aload_n C 0 dX10_next_33 rfl rfl ?_
      refine m_iload C 4 dX10_next_34 rfl ?_
      refine m_callVi C (as := [vI x4]) (rest := []) ok_X10_canLay ml_X10_293 so_51 rfl rfl rfl (Nat.le_of_ble_eq_true rfl) (fun _ => rfl) dX10_next_36 (Con.mono h (fun r1 M2 _ _ h => ?_))
      refine m_if_eq C (tgt := 76) dX10_next_39 (by decide) (fun e => ?_) (fun e => ?_)
      · have h := h.1 e
        refine m_iinc C (L' := [(4, vI (w32 (x4 + 1))), (0, vR 51), (1, vI a1), (2, vI x2), (3, vI x3)]) 4 dX10_next_76 rfl (by rw [hnL]; decide) rfl ?_
        refine m_goto C (tgt := 24) dX10_next_79 (by decide) ?_
        exact m_sub [1, 2, 3, 4, 0] rfl h
      · have h := h.2 e
        refine m_aload_n C 0 dX10_next_42 rfl rfl ?_
        refine m_iload C 4 dX10_next_43 rfl ?_
        refine m_callVv C (as := [vI x4]) (rest := []) ok_X10_puts ml_X10_265 so_51 rfl rfl rfl (Nat.le_of_ble_eq_true rfl) (fun _ => rfl) dX10_next_45 (Con.mono h (fun _ M4 _ _ h => ?_))
        refine m_aload_n C 0 dX10_next_48 rfl rfl ?_
        refine m_iconst C dX10_next_49 (r32_of rfl) ?_
        refine m_callVi C (as := [vI (-1)]) (rest := []) ok_X10_touching ml_X10_279 so_51 rfl rfl rfl (Nat.le_of_ble_eq_true rfl) (fun _ => rfl) dX10_next_50 (Con.mono h (fun r5 M6 _ _ h => ?_))
        refine m_istore C (L' := [(5, vI r5), (0, vR 51), (1, vI a1), (2, vI x2), (3, vI x3), (4, vI x4)]) dX10_next_53 (by rw [hnL]; decide) rfl ?_
        refine m_aload_n C 1 dX10_next_55 rfl rfl ?_
        refine m_callVv C (as := []) (rest := []) ok_X10_takesOff ml_X10_296 so_51 rfl rfl rfl (Nat.le_of_ble_eq_true rfl) (fun _ => rfl) dX10_next_56 (Con.mono h (fun _ M8 _ _ h => ?_))
        refine m_iload_n C 3 dX10_next_59 rfl rfl ?_
        refine m_iconst C dX10_next_60 (r32_of rfl) ?_
        refine m_icmp_eq C (tgt := 70) dX10_next_61 (by decide) (fun e => ?_) (fun e => ?_)
        · have h := h.1 e
          refine m_iload C 5 dX10_next_70 rfl ?_
          refine m_istore_n C (L' := [(2, vI x4), (5, vI r5), (0, vR 51), (1, vI a1), (3, vI x3), (4, vI x4)]) dX10_next_72 rfl (by rw [hnL]; decide) rfl ?_
          refine m_iload C 1 dX10_next_73 rfl ?_
          refine m_istore_n C (L' := [(3, vI r5), (2, vI x4), (5, vI r5), (0, vR 51), (1, vI a1), (4, vI x4)]) dX10_next_75 rfl (by rw [hnL]; decide) rfl ?_
          refine m_iinc C (L' := [(4, vI (w32 (x4 + 1))), (3, vI r5), (2, vI x4), (5, vI r5), (0, vR 51), (1, vI a1)]) 5 dX10_next_76 rfl (by rw [hnL]; decide) rfl ?_
          refine m_goto C (tgt := 24) dX10_next_79 (by decide) ?_
          exact m_sub [4, 5, 2, 1, 0] rfl h
        · have h := h.2 e
          refine m_iload C 0 dX10_next_64 rfl ?_
          refine m_iload_n C 4 dX10_next_66 rfl rfl ?_
          refine m_icmp_ge C (tgt := 76) dX10_next_67 (by decide) (fun e => ?_) (fun e => ?_)
          · have h := h.1 e
            refine m_iinc C (L' := [(4, vI (w32 (x4 + 1))), (5, vI r5), (0, vR 51), (1, vI a1), (2, vI x2), (3, vI x3)]) 5 dX10_next_76 rfl (by rw [hnL]; decide) rfl ?_
            refine m_goto C (tgt := 24) dX10_next_79 (by decide) ?_
            exact m_sub [2, 3, 4, 5, 0] rfl h
          · have h := h.2 e
            refine m_iload C 5 dX10_next_70 rfl ?_
            refine m_istore_n C (L' := [(2, vI x4), (5, vI r5), (0, vR 51), (1, vI a1), (3, vI x3), (4, vI x4)]) dX10_next_72 rfl (by rw [hnL]; decide) rfl ?_
            refine m_iload C 1 dX10_next_73 rfl ?_
            refine m_istore_n C (L' := [(3, vI r5), (2, vI x4), (5, vI r5), (0, vR 51), (1, vI a1), (4, vI x4)]) dX10_next_75 rfl (by rw [hnL]; decide) rfl ?_
            refine m_iinc C (L' := [(4, vI (w32 (x4 + 1))), (3, vI r5), (2, vI x4), (5, vI r5), (0, vR 51), (1, vI a1)]) 5 dX10_next_76 rfl (by rw [hnL]; decide) rfl ?_
            refine m_goto C (tgt := 24) dX10_next_79 (by decide) ?_
            exact m_sub [4, 5, 2, 1, 0] rfl h
  have h := h (fun (x2 : Int) (x3 : Int) (x4 : Int) (M : Mem) => WM X 24 [(0, vR 51), (1, vI a1), (2, vI x2), (3, vI x3), (4, vI x4)] [] M) hb24
  unfold B_X10_next at h
  refine m_iload_n C 1 dX10_next_0 rfl rfl ?_
  refine m_i2l C dX10_next_1 ?_
  refine m_lconst C (x := 0) dX10_next_2 (by decide) (r64_of rfl) ?_
  refine m_lconst C (x := 1) dX10_next_3 (by decide) (r64_of rfl) ?_
  refine m_callSi C (as := [vL a1, vL 0, vL 1]) (rest := []) ok_X10_in ml_X10_79 rfl rfl (Nat.le_of_ble_eq_true rfl) (fun _ => rfl) dX10_next_4 (Con.mono h (fun r9 M10 _ _ h => ?_))
  refine m_if_ne C (tgt := 13) dX10_next_7 (by decide) (fun e => ?_) (fun e => ?_)
  · have h := h.2 e
    refine m_iconst C dX10_next_13 (r32_of rfl) ?_
    refine m_istore_n C (L' := [(2, vI (-1)), (0, vR 51), (1, vI a1)]) dX10_next_14 rfl (by rw [hnL]; decide) rfl ?_
    refine m_aload_n C 1 dX10_next_15 rfl rfl ?_
    refine m_iconst C dX10_next_16 (r32_of rfl) ?_
    refine m_callVi C (as := [vI (-1)]) (rest := []) ok_X10_touching ml_X10_279 so_51 rfl rfl rfl (Nat.le_of_ble_eq_true rfl) (fun _ => rfl) dX10_next_17 (Con.mono h (fun r11 M12 _ _ h => ?_))
    refine m_istore_n C (L' := [(3, vI r11), (2, vI (-1)), (0, vR 51), (1, vI a1)]) dX10_next_20 rfl (by rw [hnL]; decide) rfl ?_
    refine m_iconst C dX10_next_21 (r32_of rfl) ?_
    refine m_istore C (L' := [(4, vI 0), (3, vI r11), (2, vI (-1)), (0, vR 51), (1, vI a1)]) dX10_next_22 (by rw [hnL]; decide) rfl ?_
    exact m_sub [3, 4, 2, 1, 0] rfl h
  · have h := h.1 e
    refine m_bipush C dX10_next_10 (r32_of rfl) (by decide) ?_
    exact m_iret C E (Or.inl rfl) dX10_next_12 h
def B_X10_howMany_13 (n : Nat) (a1 : Int) (x2 : Int) (M : Mem) (Q : Int → Mem → Prop) (K13 : Int → Mem → Prop) (K34 : Int → Int → Mem → Prop) : Prop :=
  Con n md_X10_canLay [vR 51, vI a1] M (fun r1 M2 =>
  ((r1 = 0 →
  K34 x2 0 M2) ∧ (¬ r1 = 0 →
  Con n md_X10_puts [vR 51, vI a1] M2 (fun _ M4 =>
    K13 (w32 (x2 + 1)) M4))))
def B_X10_howMany_34 (n : Nat) (a1 : Int) (x2 : Int) (x3 : Int) (M : Mem) (Q : Int → Mem → Prop) (K13 : Int → Mem → Prop) (K34 : Int → Int → Mem → Prop) : Prop :=
  ((x2 ≤ x3 →
  Q x2 M) ∧ (¬ x2 ≤ x3 →
  Con n md_X10_takesOff [vR 51] M (fun _ M6 =>
    K34 x2 (w32 (x3 + 1)) M6)))
def B_X10_howMany (n : Nat) (a1 : Int) (M : Mem) (Q : Int → Mem → Prop) (K13 : Int → Mem → Prop) (K34 : Int → Int → Mem → Prop) : Prop :=
  Con n md_X10_isFlower [vR 51, vI a1] M (fun r7 M8 =>
  ((r7 = 0 →
  Q (-2) M8) ∧ (¬ r7 = 0 →
  K13 0 M8)))
set_option maxHeartbeats 4000000 in
set_option maxRecDepth 20000 in
theorem g_X10_howMany {n : Nat} {a1 : Int} {M : Mem} {Q : Int → Mem → Prop}  (h : ∀ (K13 : Int → Mem → Prop) (K34 : Int → Int → Mem → Prop), (∀ (x2 : Int) (M : Mem), B_X10_howMany_13 n a1 x2 M Q K13 K34 → K13 x2 M) → (∀ (x2 : Int) (x3 : Int) (M : Mem), B_X10_howMany_34 n a1 x2 x3 M Q K13 K34 → K34 x2 x3 M) → B_X10_howMany n a1 M Q K13 K34) : Con (n + 1) md_X10_howMany [vR 51, vI a1] M Q := by
  refine Con.ofF (n := n + 1) (Nat.succ_pos n) pl_X10_howMany (Nat.le_of_ble_eq_true rfl) (fun X C E hnL => ?_)
  have C : Cx X cX10_howMany RX10 n := C
  show WM X 0 [(0, vR 51), (1, vI a1)] [] M
  have hb13 : ∀ (x2 : Int) (M : Mem), B_X10_howMany_13 n a1 x2 M Q (fun (x2 : Int) (M : Mem) => WM X 13 [(0, vR 51), (1, vI a1), (2, vI x2)] [] M) (fun (x2 : Int) (x3 : Int) (M : Mem) => WM X 34 [(0, vR 51), (1, vI a1), (2, vI x2), (3, vI x3)] [] M) → WM X 13 [(0, vR 51), (1, vI a1), (2, vI x2)] [] M := by
    intro x2 M h
    unfold B_X10_howMany_13 at h
    refine m_aload_n C 0 dX10_howMany_13 rfl rfl ?_
    refine m_iload_n C 1 dX10_howMany_14 rfl rfl ?_
    refine m_callVi C (as := [vI a1]) (rest := []) ok_X10_canLay ml_X10_293 so_51 rfl rfl rfl (Nat.le_of_ble_eq_true rfl) (fun _ => rfl) dX10_howMany_15 (Con.mono h (fun r1 M2 _ _ h => ?_))
    refine m_if_eq C (tgt := 32) dX10_howMany_18 (by decide) (fun e => ?_) (fun e => ?_)
    · have h := h.1 e
      refine m_iconst C dX10_howMany_32 (r32_of rfl) ?_
      refine m_istore_n C (L' := [(3, vI 0), (0, vR 51), (1, vI a1), (2, vI x2)]) dX10_howMany_33 rfl (by rw [hnL]; decide) rfl ?_
      exact m_sub [1, 2, 3, 0] rfl h
    · have h := h.2 e
      refine m_aload_n C 0 dX10_howMany_21 rfl rfl ?_
      refine m_iload_n C 1 dX10_howMany_22 rfl rfl ?_
      refine m_callVv C (as := [vI a1]) (rest := []) ok_X10_puts ml_X10_265 so_51 rfl rfl rfl (Nat.le_of_ble_eq_true rfl) (fun _ => rfl) dX10_howMany_23 (Con.mono h (fun _ M4 _ _ h => ?_))
      refine m_iinc C (L' := [(2, vI (w32 (x2 + 1))), (0, vR 51), (1, vI a1)]) 2 dX10_howMany_26 rfl (by rw [hnL]; decide) rfl ?_
      refine m_goto C (tgt := 13) dX10_howMany_29 (by decide) ?_
      exact m_sub [1, 2, 0] rfl h
  have hb34 : ∀ (x2 : Int) (x3 : Int) (M : Mem), B_X10_howMany_34 n a1 x2 x3 M Q (fun (x2 : Int) (M : Mem) => WM X 13 [(0, vR 51), (1, vI a1), (2, vI x2)] [] M) (fun (x2 : Int) (x3 : Int) (M : Mem) => WM X 34 [(0, vR 51), (1, vI a1), (2, vI x2), (3, vI x3)] [] M) → WM X 34 [(0, vR 51), (1, vI a1), (2, vI x2), (3, vI x3)] [] M := by
    intro x2 x3 M h
    unfold B_X10_howMany_34 at h
    refine m_iload_n C 3 dX10_howMany_34 rfl rfl ?_
    refine m_iload_n C 2 dX10_howMany_35 rfl rfl ?_
    refine m_icmp_ge C (tgt := 49) dX10_howMany_36 (by decide) (fun e => ?_) (fun e => ?_)
    · have h := h.1 e
      refine m_iload_n C 2 dX10_howMany_49 rfl rfl ?_
      exact m_iret C E (Or.inl rfl) dX10_howMany_50 h
    · have h := h.2 e
      refine m_aload_n C 0 dX10_howMany_39 rfl rfl ?_
      refine m_callVv C (as := []) (rest := []) ok_X10_takesOff ml_X10_296 so_51 rfl rfl rfl (Nat.le_of_ble_eq_true rfl) (fun _ => rfl) dX10_howMany_40 (Con.mono h (fun _ M6 _ _ h => ?_))
      refine m_iinc C (L' := [(3, vI (w32 (x3 + 1))), (0, vR 51), (1, vI a1), (2, vI x2)]) 3 dX10_howMany_43 rfl (by rw [hnL]; decide) rfl ?_
      refine m_goto C (tgt := 34) dX10_howMany_46 (by decide) ?_
      exact m_sub [1, 2, 3, 0] rfl h
  have h := h (fun (x2 : Int) (M : Mem) => WM X 13 [(0, vR 51), (1, vI a1), (2, vI x2)] [] M) (fun (x2 : Int) (x3 : Int) (M : Mem) => WM X 34 [(0, vR 51), (1, vI a1), (2, vI x2), (3, vI x3)] [] M) hb13 hb34
  unfold B_X10_howMany at h
  refine m_aload_n C 0 dX10_howMany_0 rfl rfl ?_
  refine m_iload_n C 1 dX10_howMany_1 rfl rfl ?_
  refine m_callVi C (as := [vI a1]) (rest := []) ok_X10_isFlower ml_X10_85 so_51 rfl rfl rfl (Nat.le_of_ble_eq_true rfl) (fun _ => rfl) dX10_howMany_2 (Con.mono h (fun r7 M8 _ _ h => ?_))
  refine m_if_ne C (tgt := 11) dX10_howMany_5 (by decide) (fun e => ?_) (fun e => ?_)
  · have h := h.2 e
    refine m_iconst C dX10_howMany_11 (r32_of rfl) ?_
    refine m_istore_n C (L' := [(2, vI 0), (0, vR 51), (1, vI a1)]) dX10_howMany_12 rfl (by rw [hnL]; decide) rfl ?_
    exact m_sub [1, 2, 0] rfl h
  · have h := h.1 e
    refine m_bipush C dX10_howMany_8 (r32_of rfl) (by decide) ?_
    exact m_iret C E (Or.inl rfl) dX10_howMany_10 h
def B_X10_seeks_52 (n : Nat) (a1 : Int) (a2 : Int) (a3 : Int) (x4 : Int) (M : Mem) (Q : Int → Mem → Prop) (K52 : Int → Mem → Prop) : Prop :=
  ((0 ≤ a1 ∧ a1 < 4) ∧ (((M 66 (Int.toNat a1)) ≤ x4 →
  Q 0 M) ∧ (¬ (M 66 (Int.toNat a1)) ≤ x4 →
  (((an_d (sh_r a2 x4) 1) = 0 →
    ((0 ≤ (w32 ((w32 (40 * a1)) + x4)) ∧ (w32 ((w32 (40 * a1)) + x4)) < 160) ∧ Con n md_X10_canLay [vR 51, vI (M 67 (Int.toNat (w32 ((w32 (40 * a1)) + x4))))] M (fun r1 M2 =>
      ((r1 = 0 →
      Con n md_X10_seeks [vR 51, vI a1, vI (o_r a2 (sh_l 1 x4)), vI (w32 ((w32 ((w32 (10 * a3)) + x4)) + 1))] M2 (fun _ M4 =>
        ((r1 = 0 →
        K52 (w32 (x4 + 1)) M4) ∧ (¬ r1 = 0 →
        Con n md_X10_takesOff [vR 51] M4 (fun _ M6 =>
          K52 (w32 (x4 + 1)) M6))))) ∧ (¬ r1 = 0 →
      Con n md_X10_puts [vR 51, vI (M 67 (Int.toNat (w32 ((w32 (40 * a1)) + x4))))] M2 (fun _ M8 =>
        Con n md_X10_seeks [vR 51, vI a1, vI (o_r a2 (sh_l 1 x4)), vI (w32 ((w32 ((w32 (10 * a3)) + x4)) + 1))] M8 (fun _ M10 =>
        ((r1 = 0 →
        K52 (w32 (x4 + 1)) M10) ∧ (¬ r1 = 0 →
        Con n md_X10_takesOff [vR 51] M10 (fun _ M12 =>
          K52 (w32 (x4 + 1)) M12)))))))))) ∧ (¬ (an_d (sh_r a2 x4) 1) = 0 →
    K52 (w32 (x4 + 1)) M)))))
def B_X10_seeks (n : Nat) (a1 : Int) (a2 : Int) (a3 : Int) (M : Mem) (Q : Int → Mem → Prop) (K52 : Int → Mem → Prop) : Prop :=
  ((0 ≤ a1 ∧ a1 < 4) ∧ ((a2 = (w32 ((sh_l 1 (M 66 (Int.toNat a1))) - 1)) →
  Con n md_X10_touching [vR 51, vI (-1)] M (fun r13 M14 =>
    (((M14 51 31) = 0 →
    (∀ M15 : Mem, M15 = up M14 51 31 a3 →
      (∀ M16 : Mem, M16 = up M15 51 30 r13 →
      Q 0 M16))) ∧ (¬ (M14 51 31) = 0 →
    (((M14 51 30) ≤ r13 →
      Q 0 M14) ∧ (¬ (M14 51 30) ≤ r13 →
      (∀ M17 : Mem, M17 = up M14 51 31 a3 →
        (∀ M18 : Mem, M18 = up M17 51 30 r13 →
        Q 0 M18)))))))) ∧ (¬ a2 = (w32 ((sh_l 1 (M 66 (Int.toNat a1))) - 1)) →
  K52 0 M)))
set_option maxHeartbeats 4000000 in
set_option maxRecDepth 20000 in
theorem g_X10_seeks {n : Nat} {a1 : Int} {a2 : Int} {a3 : Int} {M : Mem} {Q : Int → Mem → Prop}  (h : ∀ (K52 : Int → Mem → Prop), (∀ (x4 : Int) (M : Mem), B_X10_seeks_52 n a1 a2 a3 x4 M Q K52 → K52 x4 M) → B_X10_seeks n a1 a2 a3 M Q K52) : Con (n + 1) md_X10_seeks [vR 51, vI a1, vI a2, vI a3] M Q := by
  refine Con.ofF (n := n + 1) (Nat.succ_pos n) pl_X10_seeks (Nat.le_of_ble_eq_true rfl) (fun X C E hnL => ?_)
  have C : Cx X cX10_seeks RX10 n := C
  show WM X 0 [(0, vR 51), (1, vI a1), (2, vI a2), (3, vI a3)] [] M
  have hb52 : ∀ (x4 : Int) (M : Mem), B_X10_seeks_52 n a1 a2 a3 x4 M Q (fun (x4 : Int) (M : Mem) => WM X 52 [(0, vR 51), (1, vI a1), (2, vI a2), (3, vI a3), (4, vI x4)] [] M) → WM X 52 [(0, vR 51), (1, vI a1), (2, vI a2), (3, vI a3), (4, vI x4)] [] M := by
    intro x4 M h
    unfold B_X10_seeks_52 at h
    refine m_iload C 4 dX10_seeks_52 rfl ?_
    refine m_aload_n C 0 dX10_seeks_54 rfl rfl ?_
    refine m_getR C (k := 44) cl_X10 (by decide) so_51 rfl fl_X10_63 dX10_seeks_55 ?_
    refine m_iload_n C 1 dX10_seeks_58 rfl rfl ?_
    refine m_iald C (N := 4) sa_66 h.1 dX10_seeks_59 ?_
    have h := h.2
    refine m_icmp_ge C (tgt := 140) dX10_seeks_60 (by decide) (fun e => ?_) (fun e => ?_)
    · have h := h.1 e
      exact m_vret C E dX10_seeks_140 h
    · have h := h.2 e
      refine m_iload_n C 2 dX10_seeks_63 rfl rfl ?_
      refine m_iload C 4 dX10_seeks_64 rfl ?_
      refine m_ishr C dX10_seeks_66 ?_
      refine m_iconst C dX10_seeks_67 (r32_of rfl) ?_
      refine m_iand C dX10_seeks_68 ?_
      refine m_if_ne C (tgt := 134) dX10_seeks_69 (by decide) (fun e => ?_) (fun e => ?_)
      · have h := h.2 e
        refine m_iinc C (L' := [(4, vI (w32 (x4 + 1))), (0, vR 51), (1, vI a1), (2, vI a2), (3, vI a3)]) 4 dX10_seeks_134 rfl (by rw [hnL]; decide) rfl ?_
        refine m_goto C (tgt := 52) dX10_seeks_137 (by decide) ?_
        exact m_sub [1, 2, 3, 4, 0] rfl h
      · have h := h.1 e
        refine m_aload_n C 0 dX10_seeks_72 rfl rfl ?_
        refine m_getR C (k := 45) cl_X10 (by decide) so_51 rfl fl_X10_66 dX10_seeks_73 ?_
        refine m_bipush C dX10_seeks_76 (r32_of rfl) (by decide) ?_
        refine m_iload_n C 1 dX10_seeks_78 rfl rfl ?_
        refine m_imul C dX10_seeks_79 ?_
        refine m_iload C 4 dX10_seeks_80 rfl ?_
        refine m_iadd C dX10_seeks_82 ?_
        refine m_iald C (N := 160) sa_67 h.1 dX10_seeks_83 ?_
        have h := h.2
        refine m_istore C (L' := [(5, vI (M 67 (Int.toNat (w32 ((w32 (40 * a1)) + x4))))), (0, vR 51), (1, vI a1), (2, vI a2), (3, vI a3), (4, vI x4)]) dX10_seeks_84 (by rw [hnL]; decide) rfl ?_
        refine m_aload_n C 1 dX10_seeks_86 rfl rfl ?_
        refine m_iload C 0 dX10_seeks_87 rfl ?_
        refine m_callVi C (as := [vI (M 67 (Int.toNat (w32 ((w32 (40 * a1)) + x4))))]) (rest := []) ok_X10_canLay ml_X10_293 so_51 rfl rfl rfl (Nat.le_of_ble_eq_true rfl) (fun _ => rfl) dX10_seeks_89 (Con.mono h (fun r1 M2 _ _ h => ?_))
        refine m_istore C (L' := [(6, vI r1), (5, vI (M 67 (Int.toNat (w32 ((w32 (40 * a1)) + x4))))), (0, vR 51), (1, vI a1), (2, vI a2), (3, vI a3), (4, vI x4)]) dX10_seeks_92 (by rw [hnL]; decide) rfl ?_
        refine m_iload C 0 dX10_seeks_94 rfl ?_
        refine m_if_eq C (tgt := 105) dX10_seeks_96 (by decide) (fun e => ?_) (fun e => ?_)
        · have h := h.1 e
          refine m_aload_n C 2 dX10_seeks_105 rfl rfl ?_
          refine m_iload_n C 3 dX10_seeks_106 rfl rfl ?_
          refine m_iload_n C 4 dX10_seeks_107 rfl rfl ?_
          refine m_iconst C dX10_seeks_108 (r32_of rfl) ?_
          refine m_iload C 6 dX10_seeks_109 rfl ?_
          refine m_ishl C dX10_seeks_111 ?_
          refine m_ior C dX10_seeks_112 ?_
          refine m_bipush C dX10_seeks_113 (r32_of rfl) (by decide) ?_
          refine m_iload_n C 5 dX10_seeks_115 rfl rfl ?_
          refine m_imul C dX10_seeks_116 ?_
          refine m_iload C 6 dX10_seeks_117 rfl ?_
          refine m_iadd C dX10_seeks_119 ?_
          refine m_iconst C dX10_seeks_120 (r32_of rfl) ?_
          refine m_iadd C dX10_seeks_121 ?_
          refine m_callVv C (as := [vI a1, vI (o_r a2 (sh_l 1 x4)), vI (w32 ((w32 ((w32 (10 * a3)) + x4)) + 1))]) (rest := []) ok_X10_seeks ml_X10_305 so_51 rfl rfl rfl (Nat.le_of_ble_eq_true rfl) (fun _ => rfl) dX10_seeks_122 (Con.mono h (fun _ M4 _ _ h => ?_))
          refine m_iload C 0 dX10_seeks_125 rfl ?_
          refine m_if_eq C (tgt := 134) dX10_seeks_127 (by decide) (fun e => ?_) (fun e => ?_)
          · have h := h.1 e
            refine m_iinc C (L' := [(4, vI (w32 (x4 + 1))), (6, vI r1), (5, vI (M 67 (Int.toNat (w32 ((w32 (40 * a1)) + x4))))), (0, vR 51), (1, vI a1), (2, vI a2), (3, vI a3)]) 6 dX10_seeks_134 rfl (by rw [hnL]; decide) rfl ?_
            refine m_goto C (tgt := 52) dX10_seeks_137 (by decide) ?_
            exact m_sub [3, 4, 5, 6, 0] rfl h
          · have h := h.2 e
            refine m_aload_n C 2 dX10_seeks_130 rfl rfl ?_
            refine m_callVv C (as := []) (rest := []) ok_X10_takesOff ml_X10_296 so_51 rfl rfl rfl (Nat.le_of_ble_eq_true rfl) (fun _ => rfl) dX10_seeks_131 (Con.mono h (fun _ M6 _ _ h => ?_))
            refine m_iinc C (L' := [(4, vI (w32 (x4 + 1))), (6, vI r1), (5, vI (M 67 (Int.toNat (w32 ((w32 (40 * a1)) + x4))))), (0, vR 51), (1, vI a1), (2, vI a2), (3, vI a3)]) 6 dX10_seeks_134 rfl (by rw [hnL]; decide) rfl ?_
            refine m_goto C (tgt := 52) dX10_seeks_137 (by decide) ?_
            exact m_sub [3, 4, 5, 6, 0] rfl h
        · have h := h.2 e
          refine m_aload_n C 2 dX10_seeks_99 rfl rfl ?_
          refine m_iload C 1 dX10_seeks_100 rfl ?_
          refine m_callVv C (as := [vI (M 67 (Int.toNat (w32 ((w32 (40 * a1)) + x4))))]) (rest := []) ok_X10_puts ml_X10_265 so_51 rfl rfl rfl (Nat.le_of_ble_eq_true rfl) (fun _ => rfl) dX10_seeks_102 (Con.mono h (fun _ M8 _ _ h => ?_))
          refine m_aload_n C 2 dX10_seeks_105 rfl rfl ?_
          refine m_iload_n C 3 dX10_seeks_106 rfl rfl ?_
          refine m_iload_n C 4 dX10_seeks_107 rfl rfl ?_
          refine m_iconst C dX10_seeks_108 (r32_of rfl) ?_
          refine m_iload C 6 dX10_seeks_109 rfl ?_
          refine m_ishl C dX10_seeks_111 ?_
          refine m_ior C dX10_seeks_112 ?_
          refine m_bipush C dX10_seeks_113 (r32_of rfl) (by decide) ?_
          refine m_iload_n C 5 dX10_seeks_115 rfl rfl ?_
          refine m_imul C dX10_seeks_116 ?_
          refine m_iload C 6 dX10_seeks_117 rfl ?_
          refine m_iadd C dX10_seeks_119 ?_
          refine m_iconst C dX10_seeks_120 (r32_of rfl) ?_
          refine m_iadd C dX10_seeks_121 ?_
          refine m_callVv C (as := [vI a1, vI (o_r a2 (sh_l 1 x4)), vI (w32 ((w32 ((w32 (10 * a3)) + x4)) + 1))]) (rest := []) ok_X10_seeks ml_X10_305 so_51 rfl rfl rfl (Nat.le_of_ble_eq_true rfl) (fun _ => rfl) dX10_seeks_122 (Con.mono h (fun _ M10 _ _ h => ?_))
          refine m_iload C 0 dX10_seeks_125 rfl ?_
          refine m_if_eq C (tgt := 134) dX10_seeks_127 (by decide) (fun e => ?_) (fun e => ?_)
          · have h := h.1 e
            refine m_iinc C (L' := [(4, vI (w32 (x4 + 1))), (6, vI r1), (5, vI (M 67 (Int.toNat (w32 ((w32 (40 * a1)) + x4))))), (0, vR 51), (1, vI a1), (2, vI a2), (3, vI a3)]) 6 dX10_seeks_134 rfl (by rw [hnL]; decide) rfl ?_
            refine m_goto C (tgt := 52) dX10_seeks_137 (by decide) ?_
            exact m_sub [3, 4, 5, 6, 0] rfl h
          · have h := h.2 e
            refine m_aload_n C 2 dX10_seeks_130 rfl rfl ?_
            refine m_callVv C (as := []) (rest := []) ok_X10_takesOff ml_X10_296 so_51 rfl rfl rfl (Nat.le_of_ble_eq_true rfl) (fun _ => rfl) dX10_seeks_131 (Con.mono h (fun _ M12 _ _ h => ?_))
            refine m_iinc C (L' := [(4, vI (w32 (x4 + 1))), (6, vI r1), (5, vI (M 67 (Int.toNat (w32 ((w32 (40 * a1)) + x4))))), (0, vR 51), (1, vI a1), (2, vI a2), (3, vI a3)]) 6 dX10_seeks_134 rfl (by rw [hnL]; decide) rfl ?_
            refine m_goto C (tgt := 52) dX10_seeks_137 (by decide) ?_
            exact m_sub [3, 4, 5, 6, 0] rfl h
  have h := h (fun (x4 : Int) (M : Mem) => WM X 52 [(0, vR 51), (1, vI a1), (2, vI a2), (3, vI a3), (4, vI x4)] [] M) hb52
  unfold B_X10_seeks at h
  refine m_iload_n C 2 dX10_seeks_0 rfl rfl ?_
  refine m_iconst C dX10_seeks_1 (r32_of rfl) ?_
  refine m_aload_n C 0 dX10_seeks_2 rfl rfl ?_
  refine m_getR C (k := 44) cl_X10 (by decide) so_51 rfl fl_X10_63 dX10_seeks_3 ?_
  refine m_iload_n C 1 dX10_seeks_6 rfl rfl ?_
  refine m_iald C (N := 4) sa_66 h.1 dX10_seeks_7 ?_
  have h := h.2
  refine m_ishl C dX10_seeks_8 ?_
  refine m_iconst C dX10_seeks_9 (r32_of rfl) ?_
  refine m_isub C dX10_seeks_10 ?_
  refine m_icmp_ne C (tgt := 49) dX10_seeks_11 (by decide) (fun e => ?_) (fun e => ?_)
  · have h := h.2 e
    refine m_iconst C dX10_seeks_49 (r32_of rfl) ?_
    refine m_istore C (L' := [(4, vI 0), (0, vR 51), (1, vI a1), (2, vI a2), (3, vI a3)]) dX10_seeks_50 (by rw [hnL]; decide) rfl ?_
    exact m_sub [1, 2, 3, 4, 0] rfl h
  · have h := h.1 e
    refine m_aload_n C 0 dX10_seeks_14 rfl rfl ?_
    refine m_iconst C dX10_seeks_15 (r32_of rfl) ?_
    refine m_callVi C (as := [vI (-1)]) (rest := []) ok_X10_touching ml_X10_279 so_51 rfl rfl rfl (Nat.le_of_ble_eq_true rfl) (fun _ => rfl) dX10_seeks_16 (Con.mono h (fun r13 M14 _ _ h => ?_))
    refine m_istore C (L' := [(4, vI r13), (0, vR 51), (1, vI a1), (2, vI a2), (3, vI a3)]) dX10_seeks_19 (by rw [hnL]; decide) rfl ?_
    refine m_aload_n C 1 dX10_seeks_21 rfl rfl ?_
    refine m_getI C (k := 31) cl_X10 (by decide) so_51 rfl fl_X10_299 dX10_seeks_22 ?_
    refine m_if_eq C (tgt := 37) dX10_seeks_25 (by decide) (fun e => ?_) (fun e => ?_)
    · have h := h.1 e
      refine m_aload_n C 1 dX10_seeks_37 rfl rfl ?_
      refine m_iload_n C 4 dX10_seeks_38 rfl rfl ?_
      refine m_putI C (k := 31) cl_X10 (by decide) so_51 rfl rfl rfl fl_X10_299 dX10_seeks_39 ?_
      generalize eM15 : up M14 51 31 a3 = M15
      have h := h M15 eM15.symm
      refine m_aload_n C 1 dX10_seeks_42 rfl rfl ?_
      refine m_iload C 0 dX10_seeks_43 rfl ?_
      refine m_putI C (k := 30) cl_X10 (by decide) so_51 rfl rfl rfl fl_X10_302 dX10_seeks_45 ?_
      generalize eM16 : up M15 51 30 r13 = M16
      have h := h M16 eM16.symm
      exact m_vret C E dX10_seeks_48 h
    · have h := h.2 e
      refine m_iload C 0 dX10_seeks_28 rfl ?_
      refine m_aload_n C 1 dX10_seeks_30 rfl rfl ?_
      refine m_getI C (k := 30) cl_X10 (by decide) so_51 rfl fl_X10_302 dX10_seeks_31 ?_
      refine m_icmp_ge C (tgt := 48) dX10_seeks_34 (by decide) (fun e => ?_) (fun e => ?_)
      · have h := h.1 e
        exact m_vret C E dX10_seeks_48 h
      · have h := h.2 e
        refine m_aload_n C 1 dX10_seeks_37 rfl rfl ?_
        refine m_iload_n C 4 dX10_seeks_38 rfl rfl ?_
        refine m_putI C (k := 31) cl_X10 (by decide) so_51 rfl rfl rfl fl_X10_299 dX10_seeks_39 ?_
        generalize eM17 : up M14 51 31 a3 = M17
        have h := h M17 eM17.symm
        refine m_aload_n C 1 dX10_seeks_42 rfl rfl ?_
        refine m_iload C 0 dX10_seeks_43 rfl ?_
        refine m_putI C (k := 30) cl_X10 (by decide) so_51 rfl rfl rfl fl_X10_302 dX10_seeks_45 ?_
        generalize eM18 : up M17 51 30 r13 = M18
        have h := h M18 eM18.symm
        exact m_vret C E dX10_seeks_48 h
def B_X10_isOrder_21 (n : Nat) (a1 : Int) (x2 : Int) (M : Mem) (Q : Int → Mem → Prop) (K21 : Int → Mem → Prop) : Prop :=
  ((0 ≤ a1 ∧ a1 < 4) ∧ (((M 66 (Int.toNat a1)) ≤ x2 →
  Q 1 M) ∧ (¬ (M 66 (Int.toNat a1)) ≤ x2 →
  ((0 ≤ (w32 ((w32 (40 * a1)) + x2)) ∧ (w32 ((w32 (40 * a1)) + x2)) < 160) ∧ Con n md_X10_isFlower [vR 51, vI (M 67 (Int.toNat (w32 ((w32 (40 * a1)) + x2))))] M (fun r1 M2 =>
    ((r1 = 0 →
    Q 0 M2) ∧ (¬ r1 = 0 →
    K21 (w32 (x2 + 1)) M2)))))))
def B_X10_isOrder (n : Nat) (a1 : Int) (M : Mem) (Q : Int → Mem → Prop) (K21 : Int → Mem → Prop) : Prop :=
  ((0 ≤ a1 ∧ a1 < 4) ∧ Con n md_X10_in [vL (M 66 (Int.toNat a1)), vL 1, vL 6] M (fun r3 M4 =>
  ((r3 = 0 →
  Q 0 M4) ∧ (¬ r3 = 0 →
  K21 0 M4))))
set_option maxHeartbeats 4000000 in
set_option maxRecDepth 20000 in
theorem g_X10_isOrder {n : Nat} {a1 : Int} {M : Mem} {Q : Int → Mem → Prop}  (h : ∀ (K21 : Int → Mem → Prop), (∀ (x2 : Int) (M : Mem), B_X10_isOrder_21 n a1 x2 M Q K21 → K21 x2 M) → B_X10_isOrder n a1 M Q K21) : Con (n + 1) md_X10_isOrder [vR 51, vI a1] M Q := by
  refine Con.ofF (n := n + 1) (Nat.succ_pos n) pl_X10_isOrder (Nat.le_of_ble_eq_true rfl) (fun X C E hnL => ?_)
  have C : Cx X cX10_isOrder RX10 n := C
  show WM X 0 [(0, vR 51), (1, vI a1)] [] M
  have hb21 : ∀ (x2 : Int) (M : Mem), B_X10_isOrder_21 n a1 x2 M Q (fun (x2 : Int) (M : Mem) => WM X 21 [(0, vR 51), (1, vI a1), (2, vI x2)] [] M) → WM X 21 [(0, vR 51), (1, vI a1), (2, vI x2)] [] M := by
    intro x2 M h
    unfold B_X10_isOrder_21 at h
    refine m_iload_n C 2 dX10_isOrder_21 rfl rfl ?_
    refine m_aload_n C 0 dX10_isOrder_22 rfl rfl ?_
    refine m_getR C (k := 44) cl_X10 (by decide) so_51 rfl fl_X10_63 dX10_isOrder_23 ?_
    refine m_iload_n C 1 dX10_isOrder_26 rfl rfl ?_
    refine m_iald C (N := 4) sa_66 h.1 dX10_isOrder_27 ?_
    have h := h.2
    refine m_icmp_ge C (tgt := 57) dX10_isOrder_28 (by decide) (fun e => ?_) (fun e => ?_)
    · have h := h.1 e
      refine m_iconst C dX10_isOrder_57 (r32_of rfl) ?_
      exact m_iret C E (Or.inr ⟨rfl, Or.inr rfl⟩) dX10_isOrder_58 h
    · have h := h.2 e
      refine m_aload_n C 0 dX10_isOrder_31 rfl rfl ?_
      refine m_aload_n C 0 dX10_isOrder_32 rfl rfl ?_
      refine m_getR C (k := 45) cl_X10 (by decide) so_51 rfl fl_X10_66 dX10_isOrder_33 ?_
      refine m_bipush C dX10_isOrder_36 (r32_of rfl) (by decide) ?_
      refine m_iload_n C 1 dX10_isOrder_38 rfl rfl ?_
      refine m_imul C dX10_isOrder_39 ?_
      refine m_iload_n C 2 dX10_isOrder_40 rfl rfl ?_
      refine m_iadd C dX10_isOrder_41 ?_
      refine m_iald C (N := 160) sa_67 h.1 dX10_isOrder_42 ?_
      have h := h.2
      refine m_callVi C (as := [vI (M 67 (Int.toNat (w32 ((w32 (40 * a1)) + x2))))]) (rest := []) ok_X10_isFlower ml_X10_85 so_51 rfl rfl rfl (Nat.le_of_ble_eq_true rfl) (fun _ => rfl) dX10_isOrder_43 (Con.mono h (fun r1 M2 _ _ h => ?_))
      refine m_if_ne C (tgt := 51) dX10_isOrder_46 (by decide) (fun e => ?_) (fun e => ?_)
      · have h := h.2 e
        refine m_iinc C (L' := [(2, vI (w32 (x2 + 1))), (0, vR 51), (1, vI a1)]) 2 dX10_isOrder_51 rfl (by rw [hnL]; decide) rfl ?_
        refine m_goto C (tgt := 21) dX10_isOrder_54 (by decide) ?_
        exact m_sub [1, 2, 0] rfl h
      · have h := h.1 e
        refine m_iconst C dX10_isOrder_49 (r32_of rfl) ?_
        exact m_iret C E (Or.inr ⟨rfl, Or.inl rfl⟩) dX10_isOrder_50 h
  have h := h (fun (x2 : Int) (M : Mem) => WM X 21 [(0, vR 51), (1, vI a1), (2, vI x2)] [] M) hb21
  unfold B_X10_isOrder at h
  refine m_aload_n C 0 dX10_isOrder_0 rfl rfl ?_
  refine m_getR C (k := 44) cl_X10 (by decide) so_51 rfl fl_X10_63 dX10_isOrder_1 ?_
  refine m_iload_n C 1 dX10_isOrder_4 rfl rfl ?_
  refine m_iald C (N := 4) sa_66 h.1 dX10_isOrder_5 ?_
  have h := h.2
  refine m_i2l C dX10_isOrder_6 ?_
  refine m_lconst C (x := 1) dX10_isOrder_7 (by decide) (r64_of rfl) ?_
  refine m_ldc2 C (v := 6) dX10_isOrder_8 kc_X10_308 (r64_of rfl) ?_
  refine m_callSi C (as := [vL (M 66 (Int.toNat a1)), vL 1, vL 6]) (rest := []) ok_X10_in ml_X10_79 rfl rfl (Nat.le_of_ble_eq_true rfl) (fun _ => rfl) dX10_isOrder_11 (Con.mono h (fun r3 M4 _ _ h => ?_))
  refine m_if_ne C (tgt := 19) dX10_isOrder_14 (by decide) (fun e => ?_) (fun e => ?_)
  · have h := h.2 e
    refine m_iconst C dX10_isOrder_19 (r32_of rfl) ?_
    refine m_istore_n C (L' := [(2, vI 0), (0, vR 51), (1, vI a1)]) dX10_isOrder_20 rfl (by rw [hnL]; decide) rfl ?_
    exact m_sub [1, 2, 0] rfl h
  · have h := h.1 e
    refine m_iconst C dX10_isOrder_17 (r32_of rfl) ?_
    exact m_iret C E (Or.inr ⟨rfl, Or.inl rfl⟩) dX10_isOrder_18 h
def B_X10_order (n : Nat) (a1 : Int) (a2 : Int) (M : Mem) (Q : Int → Mem → Prop)  : Prop :=
  Con n md_X10_isSheet [vI a1] M (fun r1 M2 =>
  ((r1 = 0 →
  Q (-2) M2) ∧ (¬ r1 = 0 →
  Con n md_X10_in [vL a2, vL 0, vL 1] M2 (fun r3 M4 =>
    ((r3 = 0 →
    Q (-2) M4) ∧ (¬ r3 = 0 →
    ((0 ≤ a1 ∧ a1 < 4) ∧ (((M4 64 (Int.toNat a1)) = 0 →
      Q (-11) M4) ∧ (¬ (M4 64 (Int.toNat a1)) = 0 →
      Con n md_X10_isOrder [vR 51, vI a1] M4 (fun r5 M6 =>
        ((r5 = 0 →
        Q (-2) M6) ∧ (¬ r5 = 0 →
        (∀ M7 : Mem, M7 = up M6 51 31 0 →
          (∀ M8 : Mem, M8 = up M7 51 30 0 →
          Con n md_X10_seeks [vR 51, vI a1, vI 0, vI 0] M8 (fun _ M10 =>
          ((a2 = 0 →
          Q (M10 51 30) M10) ∧ (¬ a2 = 0 →
          Q (M10 51 31) M10)))))))))))))))))
set_option maxHeartbeats 4000000 in
set_option maxRecDepth 20000 in
theorem g_X10_order {n : Nat} {a1 : Int} {a2 : Int} {M : Mem} {Q : Int → Mem → Prop}  (h : B_X10_order n a1 a2 M Q) : Con (n + 1) md_X10_order [vR 51, vI a1, vI a2] M Q := by
  refine Con.ofF (n := n + 1) (Nat.succ_pos n) pl_X10_order (Nat.le_of_ble_eq_true rfl) (fun X C E hnL => ?_)
  have C : Cx X cX10_order RX10 n := C
  show WM X 0 [(0, vR 51), (1, vI a1), (2, vI a2)] [] M
  unfold B_X10_order at h
  refine m_iload_n C 1 dX10_order_0 rfl rfl ?_
  refine m_callSi C (as := [vI a1]) (rest := []) ok_X10_isSheet ml_X10_310 rfl rfl (Nat.le_of_ble_eq_true rfl) (fun _ => rfl) dX10_order_1 (Con.mono h (fun r1 M2 _ _ h => ?_))
  refine m_if_eq C (tgt := 17) dX10_order_4 (by decide) (fun e => ?_) (fun e => ?_)
  · have h := h.1 e
    refine m_bipush C dX10_order_17 (r32_of rfl) (by decide) ?_
    exact m_iret C E (Or.inl rfl) dX10_order_19 h
  · have h := h.2 e
    refine m_iload_n C 2 dX10_order_7 rfl rfl ?_
    refine m_i2l C dX10_order_8 ?_
    refine m_lconst C (x := 0) dX10_order_9 (by decide) (r64_of rfl) ?_
    refine m_lconst C (x := 1) dX10_order_10 (by decide) (r64_of rfl) ?_
    refine m_callSi C (as := [vL a2, vL 0, vL 1]) (rest := []) ok_X10_in ml_X10_79 rfl rfl (Nat.le_of_ble_eq_true rfl) (fun _ => rfl) dX10_order_11 (Con.mono h (fun r3 M4 _ _ h => ?_))
    refine m_if_ne C (tgt := 20) dX10_order_14 (by decide) (fun e => ?_) (fun e => ?_)
    · have h := h.2 e
      refine m_aload_n C 0 dX10_order_20 rfl rfl ?_
      refine m_getR C (k := 42) cl_X10 (by decide) so_51 rfl fl_X10_56 dX10_order_21 ?_
      refine m_iload_n C 1 dX10_order_24 rfl rfl ?_
      refine m_zald C (N := 4) sa_64 h.1 dX10_order_25 ?_
      have h := h.2
      refine m_if_ne C (tgt := 32) dX10_order_26 (by decide) (fun e => ?_) (fun e => ?_)
      · have h := h.2 e
        refine m_aload_n C 0 dX10_order_32 rfl rfl ?_
        refine m_iload_n C 1 dX10_order_33 rfl rfl ?_
        refine m_callVi C (as := [vI a1]) (rest := []) ok_X10_isOrder ml_X10_313 so_51 rfl rfl rfl (Nat.le_of_ble_eq_true rfl) (fun _ => rfl) dX10_order_34 (Con.mono h (fun r5 M6 _ _ h => ?_))
        refine m_if_ne C (tgt := 43) dX10_order_37 (by decide) (fun e => ?_) (fun e => ?_)
        · have h := h.2 e
          refine m_aload_n C 0 dX10_order_43 rfl rfl ?_
          refine m_iconst C dX10_order_44 (r32_of rfl) ?_
          refine m_putI C (k := 31) cl_X10 (by decide) so_51 rfl rfl rfl fl_X10_299 dX10_order_45 ?_
          generalize eM7 : up M6 51 31 0 = M7
          have h := h M7 eM7.symm
          refine m_aload_n C 0 dX10_order_48 rfl rfl ?_
          refine m_iconst C dX10_order_49 (r32_of rfl) ?_
          refine m_putI C (k := 30) cl_X10 (by decide) so_51 rfl rfl rfl fl_X10_302 dX10_order_50 ?_
          generalize eM8 : up M7 51 30 0 = M8
          have h := h M8 eM8.symm
          refine m_aload_n C 0 dX10_order_53 rfl rfl ?_
          refine m_iload_n C 1 dX10_order_54 rfl rfl ?_
          refine m_iconst C dX10_order_55 (r32_of rfl) ?_
          refine m_iconst C dX10_order_56 (r32_of rfl) ?_
          refine m_callVv C (as := [vI a1, vI 0, vI 0]) (rest := []) ok_X10_seeks ml_X10_305 so_51 rfl rfl rfl (Nat.le_of_ble_eq_true rfl) (fun _ => rfl) dX10_order_57 (Con.mono h (fun _ M10 _ _ h => ?_))
          refine m_iload_n C 2 dX10_order_60 rfl rfl ?_
          refine m_if_ne C (tgt := 71) dX10_order_61 (by decide) (fun e => ?_) (fun e => ?_)
          · have h := h.2 e
            refine m_aload_n C 0 dX10_order_71 rfl rfl ?_
            refine m_getI C (k := 31) cl_X10 (by decide) so_51 rfl fl_X10_299 dX10_order_72 ?_
            exact m_iret C E (Or.inl rfl) dX10_order_75 h
          · have h := h.1 e
            refine m_aload_n C 0 dX10_order_64 rfl rfl ?_
            refine m_getI C (k := 30) cl_X10 (by decide) so_51 rfl fl_X10_302 dX10_order_65 ?_
            refine m_goto C (tgt := 75) dX10_order_68 (by decide) ?_
            exact m_iret C E (Or.inl rfl) dX10_order_75 h
        · have h := h.1 e
          refine m_bipush C dX10_order_40 (r32_of rfl) (by decide) ?_
          exact m_iret C E (Or.inl rfl) dX10_order_42 h
      · have h := h.1 e
        refine m_bipush C dX10_order_29 (r32_of rfl) (by decide) ?_
        exact m_iret C E (Or.inl rfl) dX10_order_31 h
    · have h := h.1 e
      refine m_bipush C dX10_order_17 (r32_of rfl) (by decide) ?_
      exact m_iret C E (Or.inl rfl) dX10_order_19 h
def B_X10_forMoney_17 (n : Nat) (a1 : Int) (x2 : Int) (M : Mem) (Q : Int → Mem → Prop) (K17 : Int → Mem → Prop) (K57 : Int → Int → Int → Int → Mem → Prop) (K72 : Int → Int → Int → Int → Int → Int → Mem → Prop) : Prop :=
  (((M 51 11) ≤ x2 →
  K57 a1 0 0 0 M) ∧ (¬ (M 51 11) ≤ x2 →
  Con n md_X10_looks [vR 51, vI x2] M (fun _ M2 =>
    Con n md_X10_costsOf [vR 51, vI x2] M2 (fun r3 M4 =>
    ((0 ≤ x2 ∧ x2 < 6) ∧ (∀ M5 : Mem, M5 = up M4 59 (Int.toNat x2) r3 →
    K17 (w32 (x2 + 1)) M5))))))
def B_X10_forMoney_57 (n : Nat) (a1 : Int) (x2 : Int) (x3 : Int) (x4 : Int) (x5 : Int) (M : Mem) (Q : Int → Mem → Prop) (K17 : Int → Mem → Prop) (K57 : Int → Int → Int → Int → Mem → Prop) (K72 : Int → Int → Int → Int → Int → Int → Mem → Prop) : Prop :=
  (((M 51 11) ≤ x5 →
  Q x3 M) ∧ (¬ (M 51 11) ≤ x5 →
  K72 x2 x3 x4 x5 (-1) 0 M))
def B_X10_forMoney_72 (n : Nat) (a1 : Int) (x2 : Int) (x3 : Int) (x4 : Int) (x5 : Int) (x6 : Int) (x7 : Int) (M : Mem) (Q : Int → Mem → Prop) (K17 : Int → Mem → Prop) (K57 : Int → Int → Int → Int → Mem → Prop) (K72 : Int → Int → Int → Int → Int → Int → Mem → Prop) : Prop :=
  (((M 51 11) ≤ x7 →
  ((0 ≤ (w32 ((w32 (3 * x6)) + 2)) ∧ (w32 ((w32 (3 * x6)) + 2)) < 18) ∧ ((0 ≤ x6 ∧ x6 < 6) ∧ (((M 59 (Int.toNat x6)) = 0 →
    (((M 56 (Int.toNat (w32 ((w32 (3 * x6)) + 2)))) ≤ (M 56 (Int.toNat (w32 ((w32 (3 * x6)) + 2)))) →
      ((0 ≤ x6 ∧ x6 < 6) ∧ K57 (w32 (x2 - (w32 ((M 56 (Int.toNat (w32 ((w32 (3 * x6)) + 2)))) * (M 59 (Int.toNat x6)))))) (w32 (x3 + (M 56 (Int.toNat (w32 ((w32 (3 * x6)) + 2)))))) (o_r x4 (sh_l 1 x6)) (w32 (x5 + 1)) M)) ∧ (¬ (M 56 (Int.toNat (w32 ((w32 (3 * x6)) + 2)))) ≤ (M 56 (Int.toNat (w32 ((w32 (3 * x6)) + 2)))) →
      ((0 ≤ x6 ∧ x6 < 6) ∧ K57 (w32 (x2 - (w32 ((M 56 (Int.toNat (w32 ((w32 (3 * x6)) + 2)))) * (M 59 (Int.toNat x6)))))) (w32 (x3 + (M 56 (Int.toNat (w32 ((w32 (3 * x6)) + 2)))))) (o_r x4 (sh_l 1 x6)) (w32 (x5 + 1)) M)))) ∧ (¬ (M 59 (Int.toNat x6)) = 0 →
    ((0 ≤ x6 ∧ x6 < 6) ∧ ((M 59 (Int.toNat x6)) ≠ 0 ∧ (((M 56 (Int.toNat (w32 ((w32 (3 * x6)) + 2)))) ≤ (w32 (Int.tdiv x2 (M 59 (Int.toNat x6)))) →
      ((0 ≤ x6 ∧ x6 < 6) ∧ K57 (w32 (x2 - (w32 ((M 56 (Int.toNat (w32 ((w32 (3 * x6)) + 2)))) * (M 59 (Int.toNat x6)))))) (w32 (x3 + (M 56 (Int.toNat (w32 ((w32 (3 * x6)) + 2)))))) (o_r x4 (sh_l 1 x6)) (w32 (x5 + 1)) M)) ∧ (¬ (M 56 (Int.toNat (w32 ((w32 (3 * x6)) + 2)))) ≤ (w32 (Int.tdiv x2 (M 59 (Int.toNat x6)))) →
      ((0 ≤ x6 ∧ x6 < 6) ∧ K57 (w32 (x2 - (w32 ((w32 (Int.tdiv x2 (M 59 (Int.toNat x6)))) * (M 59 (Int.toNat x6)))))) (w32 (x3 + (w32 (Int.tdiv x2 (M 59 (Int.toNat x6)))))) (o_r x4 (sh_l 1 x6)) (w32 (x5 + 1)) M)))))))))) ∧ (¬ (M 51 11) ≤ x7 →
  (((an_d (sh_r x4 x7) 1) = 0 →
    ((x6 = (-1) →
      K72 x2 x3 x4 x5 x7 (w32 (x7 + 1)) M) ∧ (¬ x6 = (-1) →
      ((0 ≤ x7 ∧ x7 < 6) ∧ ((0 ≤ x6 ∧ x6 < 6) ∧ (((M 59 (Int.toNat x6)) ≤ (M 59 (Int.toNat x7)) →
        K72 x2 x3 x4 x5 x6 (w32 (x7 + 1)) M) ∧ (¬ (M 59 (Int.toNat x6)) ≤ (M 59 (Int.toNat x7)) →
        K72 x2 x3 x4 x5 x7 (w32 (x7 + 1)) M))))))) ∧ (¬ (an_d (sh_r x4 x7) 1) = 0 →
    K72 x2 x3 x4 x5 x6 (w32 (x7 + 1)) M))))
def B_X10_forMoney (n : Nat) (a1 : Int) (M : Mem) (Q : Int → Mem → Prop) (K17 : Int → Mem → Prop) (K57 : Int → Int → Int → Int → Mem → Prop) (K72 : Int → Int → Int → Int → Int → Int → Mem → Prop) : Prop :=
  Con n md_X10_in [vL a1, vL 0, vL 9999] M (fun r6 M7 =>
  ((r6 = 0 →
  Q (-2) M7) ∧ (¬ r6 = 0 →
  K17 0 M7)))
set_option maxHeartbeats 4000000 in
set_option maxRecDepth 20000 in
theorem g_X10_forMoney {n : Nat} {a1 : Int} {M : Mem} {Q : Int → Mem → Prop}  (h : ∀ (K17 : Int → Mem → Prop) (K57 : Int → Int → Int → Int → Mem → Prop) (K72 : Int → Int → Int → Int → Int → Int → Mem → Prop), (∀ (x2 : Int) (M : Mem), B_X10_forMoney_17 n a1 x2 M Q K17 K57 K72 → K17 x2 M) → (∀ (x2 : Int) (x3 : Int) (x4 : Int) (x5 : Int) (M : Mem), B_X10_forMoney_57 n a1 x2 x3 x4 x5 M Q K17 K57 K72 → K57 x2 x3 x4 x5 M) → (∀ (x2 : Int) (x3 : Int) (x4 : Int) (x5 : Int) (x6 : Int) (x7 : Int) (M : Mem), B_X10_forMoney_72 n a1 x2 x3 x4 x5 x6 x7 M Q K17 K57 K72 → K72 x2 x3 x4 x5 x6 x7 M) → B_X10_forMoney n a1 M Q K17 K57 K72) : Con (n + 1) md_X10_forMoney [vR 51, vI a1] M Q := by
  refine Con.ofF (n := n + 1) (Nat.succ_pos n) pl_X10_forMoney (Nat.le_of_ble_eq_true rfl) (fun X C E hnL => ?_)
  have C : Cx X cX10_forMoney RX10 n := C
  show WM X 0 [(0, vR 51), (1, vI a1)] [] M
  have hb17 : ∀ (x2 : Int) (M : Mem), B_X10_forMoney_17 n a1 x2 M Q (fun (x2 : Int) (M : Mem) => WM X 17 [(0, vR 51), (1, vI a1), (2, vI x2)] [] M) (fun (x2 : Int) (x3 : Int) (x4 : Int) (x5 : Int) (M : Mem) => WM X 57 [(0, vR 51), (1, vI a1), (2, vI x2), (3, vI x3), (4, vI x4), (5, vI x5)] [] M) (fun (x2 : Int) (x3 : Int) (x4 : Int) (x5 : Int) (x6 : Int) (x7 : Int) (M : Mem) => WM X 72 [(0, vR 51), (1, vI a1), (2, vI x2), (3, vI x3), (4, vI x4), (5, vI x5), (6, vI x6), (7, vI x7)] [] M) → WM X 17 [(0, vR 51), (1, vI a1), (2, vI x2)] [] M := by
    intro x2 M h
    unfold B_X10_forMoney_17 at h
    refine m_iload_n C 2 dX10_forMoney_17 rfl rfl ?_
    refine m_aload_n C 0 dX10_forMoney_18 rfl rfl ?_
    refine m_getI C (k := 11) cl_X10 (by decide) so_51 rfl fl_X10_76 dX10_forMoney_19 ?_
    refine m_icmp_ge C (tgt := 47) dX10_forMoney_22 (by decide) (fun e => ?_) (fun e => ?_)
    · have h := h.1 e
      refine m_iload_n C 1 dX10_forMoney_47 rfl rfl ?_
      refine m_istore_n C (L' := [(2, vI a1), (0, vR 51), (1, vI a1)]) dX10_forMoney_48 rfl (by rw [hnL]; decide) rfl ?_
      refine m_iconst C dX10_forMoney_49 (r32_of rfl) ?_
      refine m_istore_n C (L' := [(3, vI 0), (2, vI a1), (0, vR 51), (1, vI a1)]) dX10_forMoney_50 rfl (by rw [hnL]; decide) rfl ?_
      refine m_iconst C dX10_forMoney_51 (r32_of rfl) ?_
      refine m_istore C (L' := [(4, vI 0), (3, vI 0), (2, vI a1), (0, vR 51), (1, vI a1)]) dX10_forMoney_52 (by rw [hnL]; decide) rfl ?_
      refine m_iconst C dX10_forMoney_54 (r32_of rfl) ?_
      refine m_istore C (L' := [(5, vI 0), (4, vI 0), (3, vI 0), (2, vI a1), (0, vR 51), (1, vI a1)]) dX10_forMoney_55 (by rw [hnL]; decide) rfl ?_
      exact m_sub [4, 5, 3, 2, 1, 0] rfl h
    · have h := h.2 e
      refine m_aload_n C 0 dX10_forMoney_25 rfl rfl ?_
      refine m_iload_n C 2 dX10_forMoney_26 rfl rfl ?_
      refine m_callVv C (as := [vI x2]) (rest := []) ok_X10_looks ml_X10_114 so_51 rfl rfl rfl (Nat.le_of_ble_eq_true rfl) (fun _ => rfl) dX10_forMoney_27 (Con.mono h (fun _ M2 _ _ h => ?_))
      refine m_aload_n C 0 dX10_forMoney_30 rfl rfl ?_
      refine m_getR C (k := 32) cl_X10 (by decide) so_51 rfl fl_X10_38 dX10_forMoney_31 ?_
      refine m_iload_n C 2 dX10_forMoney_34 rfl rfl ?_
      refine m_aload_n C 0 dX10_forMoney_35 rfl rfl ?_
      refine m_iload_n C 2 dX10_forMoney_36 rfl rfl ?_
      refine m_callVi C (as := [vI x2]) (rest := [vI x2, vR 59]) ok_X10_costsOf ml_X10_121 so_51 rfl rfl rfl (Nat.le_of_ble_eq_true rfl) (fun _ => rfl) dX10_forMoney_37 (Con.mono h (fun r3 M4 _ _ h => ?_))
      refine m_iast C (N := 6) sa_59 h.1 dX10_forMoney_40 ?_
      have h := h.2
      generalize eM5 : up M4 59 (Int.toNat x2) r3 = M5
      have h := h M5 eM5.symm
      refine m_iinc C (L' := [(2, vI (w32 (x2 + 1))), (0, vR 51), (1, vI a1)]) 2 dX10_forMoney_41 rfl (by rw [hnL]; decide) rfl ?_
      refine m_goto C (tgt := 17) dX10_forMoney_44 (by decide) ?_
      exact m_sub [1, 2, 0] rfl h
  have hb57 : ∀ (x2 : Int) (x3 : Int) (x4 : Int) (x5 : Int) (M : Mem), B_X10_forMoney_57 n a1 x2 x3 x4 x5 M Q (fun (x2 : Int) (M : Mem) => WM X 17 [(0, vR 51), (1, vI a1), (2, vI x2)] [] M) (fun (x2 : Int) (x3 : Int) (x4 : Int) (x5 : Int) (M : Mem) => WM X 57 [(0, vR 51), (1, vI a1), (2, vI x2), (3, vI x3), (4, vI x4), (5, vI x5)] [] M) (fun (x2 : Int) (x3 : Int) (x4 : Int) (x5 : Int) (x6 : Int) (x7 : Int) (M : Mem) => WM X 72 [(0, vR 51), (1, vI a1), (2, vI x2), (3, vI x3), (4, vI x4), (5, vI x5), (6, vI x6), (7, vI x7)] [] M) → WM X 57 [(0, vR 51), (1, vI a1), (2, vI x2), (3, vI x3), (4, vI x4), (5, vI x5)] [] M := by
    intro x2 x3 x4 x5 M h
    unfold B_X10_forMoney_57 at h
    refine m_iload C 5 dX10_forMoney_57 rfl ?_
    refine m_aload_n C 0 dX10_forMoney_59 rfl rfl ?_
    refine m_getI C (k := 11) cl_X10 (by decide) so_51 rfl fl_X10_76 dX10_forMoney_60 ?_
    refine m_icmp_ge C (tgt := 212) dX10_forMoney_63 (by decide) (fun e => ?_) (fun e => ?_)
    · have h := h.1 e
      refine m_iload_n C 3 dX10_forMoney_212 rfl rfl ?_
      exact m_iret C E (Or.inl rfl) dX10_forMoney_213 h
    · have h := h.2 e
      refine m_iconst C dX10_forMoney_66 (r32_of rfl) ?_
      refine m_istore C (L' := [(6, vI (-1)), (0, vR 51), (1, vI a1), (2, vI x2), (3, vI x3), (4, vI x4), (5, vI x5)]) dX10_forMoney_67 (by rw [hnL]; decide) rfl ?_
      refine m_iconst C dX10_forMoney_69 (r32_of rfl) ?_
      refine m_istore C (L' := [(7, vI 0), (6, vI (-1)), (0, vR 51), (1, vI a1), (2, vI x2), (3, vI x3), (4, vI x4), (5, vI x5)]) dX10_forMoney_70 (by rw [hnL]; decide) rfl ?_
      exact m_sub [2, 3, 4, 5, 6, 7, 1, 0] rfl h
  have hb72 : ∀ (x2 : Int) (x3 : Int) (x4 : Int) (x5 : Int) (x6 : Int) (x7 : Int) (M : Mem), B_X10_forMoney_72 n a1 x2 x3 x4 x5 x6 x7 M Q (fun (x2 : Int) (M : Mem) => WM X 17 [(0, vR 51), (1, vI a1), (2, vI x2)] [] M) (fun (x2 : Int) (x3 : Int) (x4 : Int) (x5 : Int) (M : Mem) => WM X 57 [(0, vR 51), (1, vI a1), (2, vI x2), (3, vI x3), (4, vI x4), (5, vI x5)] [] M) (fun (x2 : Int) (x3 : Int) (x4 : Int) (x5 : Int) (x6 : Int) (x7 : Int) (M : Mem) => WM X 72 [(0, vR 51), (1, vI a1), (2, vI x2), (3, vI x3), (4, vI x4), (5, vI x5), (6, vI x6), (7, vI x7)] [] M) → WM X 72 [(0, vR 51), (1, vI a1), (2, vI x2), (3, vI x3), (4, vI x4), (5, vI x5), (6, vI x6), (7, vI x7)] [] M := by
    intro x2 x3 x4 x5 x6 x7 M h
    unfold B_X10_forMoney_72 at h
    refine m_iload C 7 dX10_forMoney_72 rfl ?_
    refine m_aload_n C 0 dX10_forMoney_74 rfl rfl ?_
    refine m_getI C (k := 11) cl_X10 (by decide) so_51 rfl fl_X10_76 dX10_forMoney_75 ?_
    refine m_icmp_ge C (tgt := 124) dX10_forMoney_78 (by decide) (fun e => ?_) (fun e => ?_)
    · have h := h.1 e
      refine m_iload C 4 dX10_forMoney_124 rfl ?_
      refine m_iconst C dX10_forMoney_126 (r32_of rfl) ?_
      refine m_iload C 6 dX10_forMoney_127 rfl ?_
      refine m_ishl C dX10_forMoney_129 ?_
      refine m_ior C dX10_forMoney_130 ?_
      refine m_istore C (L' := [(4, vI (o_r x4 (sh_l 1 x6))), (0, vR 51), (1, vI a1), (2, vI x2), (3, vI x3), (5, vI x5), (6, vI x6), (7, vI x7)]) dX10_forMoney_131 (by rw [hnL]; decide) rfl ?_
      refine m_aload_n C 1 dX10_forMoney_133 rfl rfl ?_
      refine m_getR C (k := 10) cl_X10 (by decide) so_51 rfl fl_X10_29 dX10_forMoney_134 ?_
      refine m_iconst C dX10_forMoney_137 (r32_of rfl) ?_
      refine m_iload C 6 dX10_forMoney_138 rfl ?_
      refine m_imul C dX10_forMoney_140 ?_
      refine m_iconst C dX10_forMoney_141 (r32_of rfl) ?_
      refine m_iadd C dX10_forMoney_142 ?_
      refine m_iald C (N := 18) sa_56 h.1 dX10_forMoney_143 ?_
      have h := h.2
      refine m_istore C (L' := [(7, vI (M 56 (Int.toNat (w32 ((w32 (3 * x6)) + 2))))), (4, vI (o_r x4 (sh_l 1 x6))), (0, vR 51), (1, vI a1), (2, vI x2), (3, vI x3), (5, vI x5), (6, vI x6)]) dX10_forMoney_144 (by rw [hnL]; decide) rfl ?_
      refine m_aload_n C 2 dX10_forMoney_146 rfl rfl ?_
      refine m_getR C (k := 32) cl_X10 (by decide) so_51 rfl fl_X10_38 dX10_forMoney_147 ?_
      refine m_iload C 7 dX10_forMoney_150 rfl ?_
      refine m_iald C (N := 6) sa_59 h.1 dX10_forMoney_152 ?_
      have h := h.2
      refine m_if_ne C (tgt := 161) dX10_forMoney_153 (by decide) (fun e => ?_) (fun e => ?_)
      · have h := h.2 e
        refine m_iload_n C 4 dX10_forMoney_161 rfl rfl ?_
        refine m_aload_n C 2 dX10_forMoney_162 rfl rfl ?_
        refine m_getR C (k := 32) cl_X10 (by decide) so_51 rfl fl_X10_38 dX10_forMoney_163 ?_
        refine m_iload C 7 dX10_forMoney_166 rfl ?_
        refine m_iald C (N := 6) sa_59 h.1 dX10_forMoney_168 ?_
        have h := h.2
        refine m_idiv C dX10_forMoney_169 h.1 ?_
        have h := h.2
        refine m_istore C (L' := [(8, vI (w32 (Int.tdiv x2 (M 59 (Int.toNat x6))))), (7, vI (M 56 (Int.toNat (w32 ((w32 (3 * x6)) + 2))))), (4, vI (o_r x4 (sh_l 1 x6))), (0, vR 51), (1, vI a1), (2, vI x2), (3, vI x3), (5, vI x5), (6, vI x6)]) dX10_forMoney_170 (by rw [hnL]; decide) rfl ?_
        refine m_iload C 0 dX10_forMoney_172 rfl ?_
        refine m_iload C 1 dX10_forMoney_174 rfl ?_
        refine m_icmp_ge C (tgt := 184) dX10_forMoney_176 (by decide) (fun e => ?_) (fun e => ?_)
        · have h := h.1 e
          refine m_iload C 1 dX10_forMoney_184 rfl ?_
          refine m_istore C (L' := [(8, vI (M 56 (Int.toNat (w32 ((w32 (3 * x6)) + 2))))), (7, vI (M 56 (Int.toNat (w32 ((w32 (3 * x6)) + 2))))), (4, vI (o_r x4 (sh_l 1 x6))), (0, vR 51), (1, vI a1), (2, vI x2), (3, vI x3), (5, vI x5), (6, vI x6)]) dX10_forMoney_186 (by rw [hnL]; decide) rfl ?_
          refine m_iload_n C 6 dX10_forMoney_188 rfl rfl ?_
          refine m_iload C 0 dX10_forMoney_189 rfl ?_
          refine m_iadd C dX10_forMoney_191 ?_
          refine m_istore_n C (L' := [(3, vI (w32 (x3 + (M 56 (Int.toNat (w32 ((w32 (3 * x6)) + 2))))))), (8, vI (M 56 (Int.toNat (w32 ((w32 (3 * x6)) + 2))))), (7, vI (M 56 (Int.toNat (w32 ((w32 (3 * x6)) + 2))))), (4, vI (o_r x4 (sh_l 1 x6))), (0, vR 51), (1, vI a1), (2, vI x2), (5, vI x5), (6, vI x6)]) dX10_forMoney_192 rfl (by rw [hnL]; decide) rfl ?_
          refine m_iload_n C 6 dX10_forMoney_193 rfl rfl ?_
          refine m_iload C 1 dX10_forMoney_194 rfl ?_
          refine m_aload_n C 4 dX10_forMoney_196 rfl rfl ?_
          refine m_getR C (k := 32) cl_X10 (by decide) so_51 rfl fl_X10_38 dX10_forMoney_197 ?_
          refine m_iload C 8 dX10_forMoney_200 rfl ?_
          refine m_iald C (N := 6) sa_59 h.1 dX10_forMoney_202 ?_
          have h := h.2
          refine m_imul C dX10_forMoney_203 ?_
          refine m_isub C dX10_forMoney_204 ?_
          refine m_istore_n C (L' := [(2, vI (w32 (x2 - (w32 ((M 56 (Int.toNat (w32 ((w32 (3 * x6)) + 2)))) * (M 59 (Int.toNat x6))))))), (3, vI (w32 (x3 + (M 56 (Int.toNat (w32 ((w32 (3 * x6)) + 2))))))), (8, vI (M 56 (Int.toNat (w32 ((w32 (3 * x6)) + 2))))), (7, vI (M 56 (Int.toNat (w32 ((w32 (3 * x6)) + 2))))), (4, vI (o_r x4 (sh_l 1 x6))), (0, vR 51), (1, vI a1), (5, vI x5), (6, vI x6)]) dX10_forMoney_205 rfl (by rw [hnL]; decide) rfl ?_
          refine m_iinc C (L' := [(5, vI (w32 (x5 + 1))), (2, vI (w32 (x2 - (w32 ((M 56 (Int.toNat (w32 ((w32 (3 * x6)) + 2)))) * (M 59 (Int.toNat x6))))))), (3, vI (w32 (x3 + (M 56 (Int.toNat (w32 ((w32 (3 * x6)) + 2))))))), (8, vI (M 56 (Int.toNat (w32 ((w32 (3 * x6)) + 2))))), (7, vI (M 56 (Int.toNat (w32 ((w32 (3 * x6)) + 2))))), (4, vI (o_r x4 (sh_l 1 x6))), (0, vR 51), (1, vI a1), (6, vI x6)]) 7 dX10_forMoney_206 rfl (by rw [hnL]; decide) rfl ?_
          refine m_goto C (tgt := 57) dX10_forMoney_209 (by decide) ?_
          exact m_sub [6, 7, 1, 2, 5, 0] rfl h
        · have h := h.2 e
          refine m_iload C 0 dX10_forMoney_179 rfl ?_
          refine m_goto C (tgt := 186) dX10_forMoney_181 (by decide) ?_
          refine m_istore C (L' := [(8, vI (w32 (Int.tdiv x2 (M 59 (Int.toNat x6))))), (7, vI (M 56 (Int.toNat (w32 ((w32 (3 * x6)) + 2))))), (4, vI (o_r x4 (sh_l 1 x6))), (0, vR 51), (1, vI a1), (2, vI x2), (3, vI x3), (5, vI x5), (6, vI x6)]) dX10_forMoney_186 (by rw [hnL]; decide) rfl ?_
          refine m_iload_n C 6 dX10_forMoney_188 rfl rfl ?_
          refine m_iload C 0 dX10_forMoney_189 rfl ?_
          refine m_iadd C dX10_forMoney_191 ?_
          refine m_istore_n C (L' := [(3, vI (w32 (x3 + (w32 (Int.tdiv x2 (M 59 (Int.toNat x6))))))), (8, vI (w32 (Int.tdiv x2 (M 59 (Int.toNat x6))))), (7, vI (M 56 (Int.toNat (w32 ((w32 (3 * x6)) + 2))))), (4, vI (o_r x4 (sh_l 1 x6))), (0, vR 51), (1, vI a1), (2, vI x2), (5, vI x5), (6, vI x6)]) dX10_forMoney_192 rfl (by rw [hnL]; decide) rfl ?_
          refine m_iload_n C 6 dX10_forMoney_193 rfl rfl ?_
          refine m_iload C 1 dX10_forMoney_194 rfl ?_
          refine m_aload_n C 4 dX10_forMoney_196 rfl rfl ?_
          refine m_getR C (k := 32) cl_X10 (by decide) so_51 rfl fl_X10_38 dX10_forMoney_197 ?_
          refine m_iload C 8 dX10_forMoney_200 rfl ?_
          refine m_iald C (N := 6) sa_59 h.1 dX10_forMoney_202 ?_
          have h := h.2
          refine m_imul C dX10_forMoney_203 ?_
          refine m_isub C dX10_forMoney_204 ?_
          refine m_istore_n C (L' := [(2, vI (w32 (x2 - (w32 ((w32 (Int.tdiv x2 (M 59 (Int.toNat x6)))) * (M 59 (Int.toNat x6))))))), (3, vI (w32 (x3 + (w32 (Int.tdiv x2 (M 59 (Int.toNat x6))))))), (8, vI (w32 (Int.tdiv x2 (M 59 (Int.toNat x6))))), (7, vI (M 56 (Int.toNat (w32 ((w32 (3 * x6)) + 2))))), (4, vI (o_r x4 (sh_l 1 x6))), (0, vR 51), (1, vI a1), (5, vI x5), (6, vI x6)]) dX10_forMoney_205 rfl (by rw [hnL]; decide) rfl ?_
          refine m_iinc C (L' := [(5, vI (w32 (x5 + 1))), (2, vI (w32 (x2 - (w32 ((w32 (Int.tdiv x2 (M 59 (Int.toNat x6)))) * (M 59 (Int.toNat x6))))))), (3, vI (w32 (x3 + (w32 (Int.tdiv x2 (M 59 (Int.toNat x6))))))), (8, vI (w32 (Int.tdiv x2 (M 59 (Int.toNat x6))))), (7, vI (M 56 (Int.toNat (w32 ((w32 (3 * x6)) + 2))))), (4, vI (o_r x4 (sh_l 1 x6))), (0, vR 51), (1, vI a1), (6, vI x6)]) 7 dX10_forMoney_206 rfl (by rw [hnL]; decide) rfl ?_
          refine m_goto C (tgt := 57) dX10_forMoney_209 (by decide) ?_
          exact m_sub [6, 7, 1, 2, 5, 0] rfl h
      · have h := h.1 e
        refine m_iload C 0 dX10_forMoney_156 rfl ?_
        refine m_goto C (tgt := 170) dX10_forMoney_158 (by decide) ?_
        refine m_istore C (L' := [(8, vI (M 56 (Int.toNat (w32 ((w32 (3 * x6)) + 2))))), (7, vI (M 56 (Int.toNat (w32 ((w32 (3 * x6)) + 2))))), (4, vI (o_r x4 (sh_l 1 x6))), (0, vR 51), (1, vI a1), (2, vI x2), (3, vI x3), (5, vI x5), (6, vI x6)]) dX10_forMoney_170 (by rw [hnL]; decide) rfl ?_
        refine m_iload C 0 dX10_forMoney_172 rfl ?_
        refine m_iload C 1 dX10_forMoney_174 rfl ?_
        refine m_icmp_ge C (tgt := 184) dX10_forMoney_176 (by decide) (fun e => ?_) (fun e => ?_)
        · have h := h.1 e
          refine m_iload C 1 dX10_forMoney_184 rfl ?_
          refine m_istore C (L' := [(8, vI (M 56 (Int.toNat (w32 ((w32 (3 * x6)) + 2))))), (7, vI (M 56 (Int.toNat (w32 ((w32 (3 * x6)) + 2))))), (4, vI (o_r x4 (sh_l 1 x6))), (0, vR 51), (1, vI a1), (2, vI x2), (3, vI x3), (5, vI x5), (6, vI x6)]) dX10_forMoney_186 (by rw [hnL]; decide) rfl ?_
          refine m_iload_n C 6 dX10_forMoney_188 rfl rfl ?_
          refine m_iload C 0 dX10_forMoney_189 rfl ?_
          refine m_iadd C dX10_forMoney_191 ?_
          refine m_istore_n C (L' := [(3, vI (w32 (x3 + (M 56 (Int.toNat (w32 ((w32 (3 * x6)) + 2))))))), (8, vI (M 56 (Int.toNat (w32 ((w32 (3 * x6)) + 2))))), (7, vI (M 56 (Int.toNat (w32 ((w32 (3 * x6)) + 2))))), (4, vI (o_r x4 (sh_l 1 x6))), (0, vR 51), (1, vI a1), (2, vI x2), (5, vI x5), (6, vI x6)]) dX10_forMoney_192 rfl (by rw [hnL]; decide) rfl ?_
          refine m_iload_n C 6 dX10_forMoney_193 rfl rfl ?_
          refine m_iload C 1 dX10_forMoney_194 rfl ?_
          refine m_aload_n C 4 dX10_forMoney_196 rfl rfl ?_
          refine m_getR C (k := 32) cl_X10 (by decide) so_51 rfl fl_X10_38 dX10_forMoney_197 ?_
          refine m_iload C 8 dX10_forMoney_200 rfl ?_
          refine m_iald C (N := 6) sa_59 h.1 dX10_forMoney_202 ?_
          have h := h.2
          refine m_imul C dX10_forMoney_203 ?_
          refine m_isub C dX10_forMoney_204 ?_
          refine m_istore_n C (L' := [(2, vI (w32 (x2 - (w32 ((M 56 (Int.toNat (w32 ((w32 (3 * x6)) + 2)))) * (M 59 (Int.toNat x6))))))), (3, vI (w32 (x3 + (M 56 (Int.toNat (w32 ((w32 (3 * x6)) + 2))))))), (8, vI (M 56 (Int.toNat (w32 ((w32 (3 * x6)) + 2))))), (7, vI (M 56 (Int.toNat (w32 ((w32 (3 * x6)) + 2))))), (4, vI (o_r x4 (sh_l 1 x6))), (0, vR 51), (1, vI a1), (5, vI x5), (6, vI x6)]) dX10_forMoney_205 rfl (by rw [hnL]; decide) rfl ?_
          refine m_iinc C (L' := [(5, vI (w32 (x5 + 1))), (2, vI (w32 (x2 - (w32 ((M 56 (Int.toNat (w32 ((w32 (3 * x6)) + 2)))) * (M 59 (Int.toNat x6))))))), (3, vI (w32 (x3 + (M 56 (Int.toNat (w32 ((w32 (3 * x6)) + 2))))))), (8, vI (M 56 (Int.toNat (w32 ((w32 (3 * x6)) + 2))))), (7, vI (M 56 (Int.toNat (w32 ((w32 (3 * x6)) + 2))))), (4, vI (o_r x4 (sh_l 1 x6))), (0, vR 51), (1, vI a1), (6, vI x6)]) 7 dX10_forMoney_206 rfl (by rw [hnL]; decide) rfl ?_
          refine m_goto C (tgt := 57) dX10_forMoney_209 (by decide) ?_
          exact m_sub [6, 7, 1, 2, 5, 0] rfl h
        · have h := h.2 e
          refine m_iload C 0 dX10_forMoney_179 rfl ?_
          refine m_goto C (tgt := 186) dX10_forMoney_181 (by decide) ?_
          refine m_istore C (L' := [(8, vI (M 56 (Int.toNat (w32 ((w32 (3 * x6)) + 2))))), (7, vI (M 56 (Int.toNat (w32 ((w32 (3 * x6)) + 2))))), (4, vI (o_r x4 (sh_l 1 x6))), (0, vR 51), (1, vI a1), (2, vI x2), (3, vI x3), (5, vI x5), (6, vI x6)]) dX10_forMoney_186 (by rw [hnL]; decide) rfl ?_
          refine m_iload_n C 6 dX10_forMoney_188 rfl rfl ?_
          refine m_iload C 0 dX10_forMoney_189 rfl ?_
          refine m_iadd C dX10_forMoney_191 ?_
          refine m_istore_n C (L' := [(3, vI (w32 (x3 + (M 56 (Int.toNat (w32 ((w32 (3 * x6)) + 2))))))), (8, vI (M 56 (Int.toNat (w32 ((w32 (3 * x6)) + 2))))), (7, vI (M 56 (Int.toNat (w32 ((w32 (3 * x6)) + 2))))), (4, vI (o_r x4 (sh_l 1 x6))), (0, vR 51), (1, vI a1), (2, vI x2), (5, vI x5), (6, vI x6)]) dX10_forMoney_192 rfl (by rw [hnL]; decide) rfl ?_
          refine m_iload_n C 6 dX10_forMoney_193 rfl rfl ?_
          refine m_iload C 1 dX10_forMoney_194 rfl ?_
          refine m_aload_n C 4 dX10_forMoney_196 rfl rfl ?_
          refine m_getR C (k := 32) cl_X10 (by decide) so_51 rfl fl_X10_38 dX10_forMoney_197 ?_
          refine m_iload C 8 dX10_forMoney_200 rfl ?_
          refine m_iald C (N := 6) sa_59 h.1 dX10_forMoney_202 ?_
          have h := h.2
          refine m_imul C dX10_forMoney_203 ?_
          refine m_isub C dX10_forMoney_204 ?_
          refine m_istore_n C (L' := [(2, vI (w32 (x2 - (w32 ((M 56 (Int.toNat (w32 ((w32 (3 * x6)) + 2)))) * (M 59 (Int.toNat x6))))))), (3, vI (w32 (x3 + (M 56 (Int.toNat (w32 ((w32 (3 * x6)) + 2))))))), (8, vI (M 56 (Int.toNat (w32 ((w32 (3 * x6)) + 2))))), (7, vI (M 56 (Int.toNat (w32 ((w32 (3 * x6)) + 2))))), (4, vI (o_r x4 (sh_l 1 x6))), (0, vR 51), (1, vI a1), (5, vI x5), (6, vI x6)]) dX10_forMoney_205 rfl (by rw [hnL]; decide) rfl ?_
          refine m_iinc C (L' := [(5, vI (w32 (x5 + 1))), (2, vI (w32 (x2 - (w32 ((M 56 (Int.toNat (w32 ((w32 (3 * x6)) + 2)))) * (M 59 (Int.toNat x6))))))), (3, vI (w32 (x3 + (M 56 (Int.toNat (w32 ((w32 (3 * x6)) + 2))))))), (8, vI (M 56 (Int.toNat (w32 ((w32 (3 * x6)) + 2))))), (7, vI (M 56 (Int.toNat (w32 ((w32 (3 * x6)) + 2))))), (4, vI (o_r x4 (sh_l 1 x6))), (0, vR 51), (1, vI a1), (6, vI x6)]) 7 dX10_forMoney_206 rfl (by rw [hnL]; decide) rfl ?_
          refine m_goto C (tgt := 57) dX10_forMoney_209 (by decide) ?_
          exact m_sub [6, 7, 1, 2, 5, 0] rfl h
    · have h := h.2 e
      refine m_iload C 4 dX10_forMoney_81 rfl ?_
      refine m_iload C 7 dX10_forMoney_83 rfl ?_
      refine m_ishr C dX10_forMoney_85 ?_
      refine m_iconst C dX10_forMoney_86 (r32_of rfl) ?_
      refine m_iand C dX10_forMoney_87 ?_
      refine m_if_ne C (tgt := 118) dX10_forMoney_88 (by decide) (fun e => ?_) (fun e => ?_)
      · have h := h.2 e
        refine m_iinc C (L' := [(7, vI (w32 (x7 + 1))), (0, vR 51), (1, vI a1), (2, vI x2), (3, vI x3), (4, vI x4), (5, vI x5), (6, vI x6)]) 7 dX10_forMoney_118 rfl (by rw [hnL]; decide) rfl ?_
        refine m_goto C (tgt := 72) dX10_forMoney_121 (by decide) ?_
        exact m_sub [1, 2, 3, 4, 5, 6, 7, 0] rfl h
      · have h := h.1 e
        refine m_iload C 6 dX10_forMoney_91 rfl ?_
        refine m_iconst C dX10_forMoney_93 (r32_of rfl) ?_
        refine m_icmp_eq C (tgt := 114) dX10_forMoney_94 (by decide) (fun e => ?_) (fun e => ?_)
        · have h := h.1 e
          refine m_iload C 7 dX10_forMoney_114 rfl ?_
          refine m_istore C (L' := [(6, vI x7), (0, vR 51), (1, vI a1), (2, vI x2), (3, vI x3), (4, vI x4), (5, vI x5), (7, vI x7)]) dX10_forMoney_116 (by rw [hnL]; decide) rfl ?_
          refine m_iinc C (L' := [(7, vI (w32 (x7 + 1))), (6, vI x7), (0, vR 51), (1, vI a1), (2, vI x2), (3, vI x3), (4, vI x4), (5, vI x5)]) 7 dX10_forMoney_118 rfl (by rw [hnL]; decide) rfl ?_
          refine m_goto C (tgt := 72) dX10_forMoney_121 (by decide) ?_
          exact m_sub [2, 3, 4, 5, 6, 7, 1, 0] rfl h
        · have h := h.2 e
          refine m_aload_n C 0 dX10_forMoney_97 rfl rfl ?_
          refine m_getR C (k := 32) cl_X10 (by decide) so_51 rfl fl_X10_38 dX10_forMoney_98 ?_
          refine m_iload C 7 dX10_forMoney_101 rfl ?_
          refine m_iald C (N := 6) sa_59 h.1 dX10_forMoney_103 ?_
          have h := h.2
          refine m_aload_n C 0 dX10_forMoney_104 rfl rfl ?_
          refine m_getR C (k := 32) cl_X10 (by decide) so_51 rfl fl_X10_38 dX10_forMoney_105 ?_
          refine m_iload C 6 dX10_forMoney_108 rfl ?_
          refine m_iald C (N := 6) sa_59 h.1 dX10_forMoney_110 ?_
          have h := h.2
          refine m_icmp_ge C (tgt := 118) dX10_forMoney_111 (by decide) (fun e => ?_) (fun e => ?_)
          · have h := h.1 e
            refine m_iinc C (L' := [(7, vI (w32 (x7 + 1))), (0, vR 51), (1, vI a1), (2, vI x2), (3, vI x3), (4, vI x4), (5, vI x5), (6, vI x6)]) 7 dX10_forMoney_118 rfl (by rw [hnL]; decide) rfl ?_
            refine m_goto C (tgt := 72) dX10_forMoney_121 (by decide) ?_
            exact m_sub [1, 2, 3, 4, 5, 6, 7, 0] rfl h
          · have h := h.2 e
            refine m_iload C 7 dX10_forMoney_114 rfl ?_
            refine m_istore C (L' := [(6, vI x7), (0, vR 51), (1, vI a1), (2, vI x2), (3, vI x3), (4, vI x4), (5, vI x5), (7, vI x7)]) dX10_forMoney_116 (by rw [hnL]; decide) rfl ?_
            refine m_iinc C (L' := [(7, vI (w32 (x7 + 1))), (6, vI x7), (0, vR 51), (1, vI a1), (2, vI x2), (3, vI x3), (4, vI x4), (5, vI x5)]) 7 dX10_forMoney_118 rfl (by rw [hnL]; decide) rfl ?_
            refine m_goto C (tgt := 72) dX10_forMoney_121 (by decide) ?_
            exact m_sub [2, 3, 4, 5, 6, 7, 1, 0] rfl h
  have h := h (fun (x2 : Int) (M : Mem) => WM X 17 [(0, vR 51), (1, vI a1), (2, vI x2)] [] M) (fun (x2 : Int) (x3 : Int) (x4 : Int) (x5 : Int) (M : Mem) => WM X 57 [(0, vR 51), (1, vI a1), (2, vI x2), (3, vI x3), (4, vI x4), (5, vI x5)] [] M) (fun (x2 : Int) (x3 : Int) (x4 : Int) (x5 : Int) (x6 : Int) (x7 : Int) (M : Mem) => WM X 72 [(0, vR 51), (1, vI a1), (2, vI x2), (3, vI x3), (4, vI x4), (5, vI x5), (6, vI x6), (7, vI x7)] [] M) hb17 hb57 hb72
  unfold B_X10_forMoney at h
  refine m_iload_n C 1 dX10_forMoney_0 rfl rfl ?_
  refine m_i2l C dX10_forMoney_1 ?_
  refine m_lconst C (x := 0) dX10_forMoney_2 (by decide) (r64_of rfl) ?_
  refine m_ldc2 C (v := 9999) dX10_forMoney_3 kc_X10_316 (r64_of rfl) ?_
  refine m_callSi C (as := [vL a1, vL 0, vL 9999]) (rest := []) ok_X10_in ml_X10_79 rfl rfl (Nat.le_of_ble_eq_true rfl) (fun _ => rfl) dX10_forMoney_6 (Con.mono h (fun r6 M7 _ _ h => ?_))
  refine m_if_ne C (tgt := 15) dX10_forMoney_9 (by decide) (fun e => ?_) (fun e => ?_)
  · have h := h.2 e
    refine m_iconst C dX10_forMoney_15 (r32_of rfl) ?_
    refine m_istore_n C (L' := [(2, vI 0), (0, vR 51), (1, vI a1)]) dX10_forMoney_16 rfl (by rw [hnL]; decide) rfl ?_
    exact m_sub [1, 2, 0] rfl h
  · have h := h.1 e
    refine m_bipush C dX10_forMoney_12 (r32_of rfl) (by decide) ?_
    exact m_iret C E (Or.inl rfl) dX10_forMoney_14 h
def B_X10_worst_24 (n : Nat) (a1 : Int) (x2 : Int) (x3 : Int) (x4 : Int) (M : Mem) (Q : Int → Mem → Prop) (K24 : Int → Int → Int → Mem → Prop) : Prop :=
  (((M 51 14) ≤ x4 →
  ((a1 = 0 →
    Q x3 M) ∧ (¬ a1 = 0 →
    Q x2 M))) ∧ (¬ (M 51 14) ≤ x4 →
  Con n md_X10_touching [vR 51, vI x4] M (fun r1 M2 =>
    ((x2 ≤ r1 →
    K24 x2 x3 (w32 (x4 + 1)) M2) ∧ (¬ x2 ≤ r1 →
    K24 r1 x4 (w32 (x4 + 1)) M2)))))
def B_X10_worst (n : Nat) (a1 : Int) (M : Mem) (Q : Int → Mem → Prop) (K24 : Int → Int → Int → Mem → Prop) : Prop :=
  Con n md_X10_in [vL a1, vL 0, vL 1] M (fun r3 M4 =>
  ((r3 = 0 →
  Q (-2) M4) ∧ (¬ r3 = 0 →
  Con n md_X10_touching [vR 51, vI (-1)] M4 (fun r5 M6 =>
    K24 r5 (-1) 0 M6))))
set_option maxHeartbeats 4000000 in
set_option maxRecDepth 20000 in
theorem g_X10_worst {n : Nat} {a1 : Int} {M : Mem} {Q : Int → Mem → Prop}  (h : ∀ (K24 : Int → Int → Int → Mem → Prop), (∀ (x2 : Int) (x3 : Int) (x4 : Int) (M : Mem), B_X10_worst_24 n a1 x2 x3 x4 M Q K24 → K24 x2 x3 x4 M) → B_X10_worst n a1 M Q K24) : Con (n + 1) md_X10_worst [vR 51, vI a1] M Q := by
  refine Con.ofF (n := n + 1) (Nat.succ_pos n) pl_X10_worst (Nat.le_of_ble_eq_true rfl) (fun X C E hnL => ?_)
  have C : Cx X cX10_worst RX10 n := C
  show WM X 0 [(0, vR 51), (1, vI a1)] [] M
  have hb24 : ∀ (x2 : Int) (x3 : Int) (x4 : Int) (M : Mem), B_X10_worst_24 n a1 x2 x3 x4 M Q (fun (x2 : Int) (x3 : Int) (x4 : Int) (M : Mem) => WM X 24 [(0, vR 51), (1, vI a1), (2, vI x2), (3, vI x3), (4, vI x4)] [] M) → WM X 24 [(0, vR 51), (1, vI a1), (2, vI x2), (3, vI x3), (4, vI x4)] [] M := by
    intro x2 x3 x4 M h
    unfold B_X10_worst_24 at h
    refine m_iload C 4 dX10_worst_24 rfl ?_
    refine m_aload_n C 0 dX10_worst_26 rfl rfl ?_
    refine m_getI C (k := 14) cl_X10 (by decide) so_51 rfl fl_X10_246 dX10_worst_27 ?_
    refine m_icmp_ge C (tgt := 59) dX10_worst_30 (by decide) (fun e => ?_) (fun e => ?_)
    · have h := h.1 e
      refine m_iload_n C 1 dX10_worst_59 rfl rfl ?_
      refine m_if_ne C (tgt := 67) dX10_worst_60 (by decide) (fun e => ?_) (fun e => ?_)
      · have h := h.2 e
        refine m_iload_n C 2 dX10_worst_67 rfl rfl ?_
        exact m_iret C E (Or.inl rfl) dX10_worst_68 h
      · have h := h.1 e
        refine m_iload_n C 3 dX10_worst_63 rfl rfl ?_
        refine m_goto C (tgt := 68) dX10_worst_64 (by decide) ?_
        exact m_iret C E (Or.inl rfl) dX10_worst_68 h
    · have h := h.2 e
      refine m_aload_n C 0 dX10_worst_33 rfl rfl ?_
      refine m_iload C 4 dX10_worst_34 rfl ?_
      refine m_callVi C (as := [vI x4]) (rest := []) ok_X10_touching ml_X10_279 so_51 rfl rfl rfl (Nat.le_of_ble_eq_true rfl) (fun _ => rfl) dX10_worst_36 (Con.mono h (fun r1 M2 _ _ h => ?_))
      refine m_istore C (L' := [(5, vI r1), (0, vR 51), (1, vI a1), (2, vI x2), (3, vI x3), (4, vI x4)]) dX10_worst_39 (by rw [hnL]; decide) rfl ?_
      refine m_iload C 0 dX10_worst_41 rfl ?_
      refine m_iload_n C 3 dX10_worst_43 rfl rfl ?_
      refine m_icmp_ge C (tgt := 53) dX10_worst_44 (by decide) (fun e => ?_) (fun e => ?_)
      · have h := h.1 e
        refine m_iinc C (L' := [(4, vI (w32 (x4 + 1))), (5, vI r1), (0, vR 51), (1, vI a1), (2, vI x2), (3, vI x3)]) 5 dX10_worst_53 rfl (by rw [hnL]; decide) rfl ?_
        refine m_goto C (tgt := 24) dX10_worst_56 (by decide) ?_
        exact m_sub [2, 3, 4, 5, 0] rfl h
      · have h := h.2 e
        refine m_iload C 5 dX10_worst_47 rfl ?_
        refine m_istore_n C (L' := [(3, vI x4), (5, vI r1), (0, vR 51), (1, vI a1), (2, vI x2), (4, vI x4)]) dX10_worst_49 rfl (by rw [hnL]; decide) rfl ?_
        refine m_iload C 1 dX10_worst_50 rfl ?_
        refine m_istore_n C (L' := [(2, vI r1), (3, vI x4), (5, vI r1), (0, vR 51), (1, vI a1), (4, vI x4)]) dX10_worst_52 rfl (by rw [hnL]; decide) rfl ?_
        refine m_iinc C (L' := [(4, vI (w32 (x4 + 1))), (2, vI r1), (3, vI x4), (5, vI r1), (0, vR 51), (1, vI a1)]) 5 dX10_worst_53 rfl (by rw [hnL]; decide) rfl ?_
        refine m_goto C (tgt := 24) dX10_worst_56 (by decide) ?_
        exact m_sub [4, 5, 1, 2, 0] rfl h
  have h := h (fun (x2 : Int) (x3 : Int) (x4 : Int) (M : Mem) => WM X 24 [(0, vR 51), (1, vI a1), (2, vI x2), (3, vI x3), (4, vI x4)] [] M) hb24
  unfold B_X10_worst at h
  refine m_iload_n C 1 dX10_worst_0 rfl rfl ?_
  refine m_i2l C dX10_worst_1 ?_
  refine m_lconst C (x := 0) dX10_worst_2 (by decide) (r64_of rfl) ?_
  refine m_lconst C (x := 1) dX10_worst_3 (by decide) (r64_of rfl) ?_
  refine m_callSi C (as := [vL a1, vL 0, vL 1]) (rest := []) ok_X10_in ml_X10_79 rfl rfl (Nat.le_of_ble_eq_true rfl) (fun _ => rfl) dX10_worst_4 (Con.mono h (fun r3 M4 _ _ h => ?_))
  refine m_if_ne C (tgt := 13) dX10_worst_7 (by decide) (fun e => ?_) (fun e => ?_)
  · have h := h.2 e
    refine m_aload_n C 0 dX10_worst_13 rfl rfl ?_
    refine m_iconst C dX10_worst_14 (r32_of rfl) ?_
    refine m_callVi C (as := [vI (-1)]) (rest := []) ok_X10_touching ml_X10_279 so_51 rfl rfl rfl (Nat.le_of_ble_eq_true rfl) (fun _ => rfl) dX10_worst_15 (Con.mono h (fun r5 M6 _ _ h => ?_))
    refine m_istore_n C (L' := [(2, vI r5), (0, vR 51), (1, vI a1)]) dX10_worst_18 rfl (by rw [hnL]; decide) rfl ?_
    refine m_iconst C dX10_worst_19 (r32_of rfl) ?_
    refine m_istore_n C (L' := [(3, vI (-1)), (2, vI r5), (0, vR 51), (1, vI a1)]) dX10_worst_20 rfl (by rw [hnL]; decide) rfl ?_
    refine m_iconst C dX10_worst_21 (r32_of rfl) ?_
    refine m_istore C (L' := [(4, vI 0), (3, vI (-1)), (2, vI r5), (0, vR 51), (1, vI a1)]) dX10_worst_22 (by rw [hnL]; decide) rfl ?_
    exact m_sub [3, 4, 2, 1, 0] rfl h
  · have h := h.1 e
    refine m_bipush C dX10_worst_10 (r32_of rfl) (by decide) ?_
    exact m_iret C E (Or.inl rfl) dX10_worst_12 h
def B_X10_turnsFrom_8 (n : Nat) (a1 : Int) (a2 : Int) (x3 : Int) (x4 : Int) (M : Mem) (Q : Int → Mem → Prop) (K8 : Int → Int → Mem → Prop) : Prop :=
  ((a2 ≤ x4 →
  Q 0 M) ∧ (¬ a2 ≤ x4 →
  (∀ M1 : Mem, M1 = up M 51 15 x4 →
    ((0 ≤ (w32 ((w32 (3 * a1)) + 1)) ∧ (w32 ((w32 (3 * a1)) + 1)) < 18) ∧ (∀ M2 : Mem, M2 = up M1 51 16 (M1 56 (Int.toNat (w32 ((w32 (3 * a1)) + 1)))) →
    ((0 ≤ (w32 (3 * a1)) ∧ (w32 (3 * a1)) < 18) ∧ (∀ M3 : Mem, M3 = up M2 51 17 (M2 56 (Int.toNat (w32 (3 * a1)))) →
    (∀ M4 : Mem, M4 = up M3 51 18 x3 →
    ((0 ≤ (w32 ((w32 (3 * a1)) + 2)) ∧ (w32 ((w32 (3 * a1)) + 2)) < 18) ∧ (∀ M5 : Mem, M5 = up M4 51 19 (w32 ((M4 56 (Int.toNat (w32 ((w32 (3 * a1)) + 2)))) - x4)) →
    Con n md_X10_thickOf [vR 51, vI a1] M5 (fun r6 M7 =>
    (∀ M8 : Mem, M8 = up M7 51 20 (w32 ((M5 51 7) - (w32 (x4 * r6)))) →
    Con n md_X10_turnsOf [vR 51, vI a1] M8 (fun r9 M10 =>
    Con n md_X10_round [vI (w32 (x3 + r9))] M10 (fun r11 M12 =>
    ((0 ≤ x4 ∧ x4 < 20) ∧ (∀ M13 : Mem, M13 = up M12 60 (Int.toNat x4) r11 →
    K8 r11 (w32 (x4 + 1)) M13))))))))))))))))
def B_X10_turnsFrom (n : Nat) (a1 : Int) (a2 : Int) (M : Mem) (Q : Int → Mem → Prop) (K8 : Int → Int → Mem → Prop) : Prop :=
  K8 (M 51 8) 0 M
set_option maxHeartbeats 4000000 in
set_option maxRecDepth 20000 in
theorem g_X10_turnsFrom {n : Nat} {a1 : Int} {a2 : Int} {M : Mem} {Q : Int → Mem → Prop}  (h : ∀ (K8 : Int → Int → Mem → Prop), (∀ (x3 : Int) (x4 : Int) (M : Mem), B_X10_turnsFrom_8 n a1 a2 x3 x4 M Q K8 → K8 x3 x4 M) → B_X10_turnsFrom n a1 a2 M Q K8) : Con (n + 1) md_X10_turnsFrom [vR 51, vI a1, vI a2] M Q := by
  refine Con.ofF (n := n + 1) (Nat.succ_pos n) pl_X10_turnsFrom (Nat.le_of_ble_eq_true rfl) (fun X C E hnL => ?_)
  have C : Cx X cX10_turnsFrom RX10 n := C
  show WM X 0 [(0, vR 51), (1, vI a1), (2, vI a2)] [] M
  have hb8 : ∀ (x3 : Int) (x4 : Int) (M : Mem), B_X10_turnsFrom_8 n a1 a2 x3 x4 M Q (fun (x3 : Int) (x4 : Int) (M : Mem) => WM X 8 [(0, vR 51), (1, vI a1), (2, vI a2), (3, vI x3), (4, vI x4)] [] M) → WM X 8 [(0, vR 51), (1, vI a1), (2, vI a2), (3, vI x3), (4, vI x4)] [] M := by
    intro x3 x4 M h
    unfold B_X10_turnsFrom_8 at h
    refine m_iload C 4 dX10_turnsFrom_8 rfl ?_
    refine m_iload_n C 2 dX10_turnsFrom_10 rfl rfl ?_
    refine m_icmp_ge C (tgt := 110) dX10_turnsFrom_11 (by decide) (fun e => ?_) (fun e => ?_)
    · have h := h.1 e
      exact m_vret C E dX10_turnsFrom_110 h
    · have h := h.2 e
      refine m_aload_n C 0 dX10_turnsFrom_14 rfl rfl ?_
      refine m_iload C 4 dX10_turnsFrom_15 rfl ?_
      refine m_putI C (k := 15) cl_X10 (by decide) so_51 rfl rfl rfl fl_X10_188 dX10_turnsFrom_17 ?_
      generalize eM1 : up M 51 15 x4 = M1
      have h := h M1 eM1.symm
      refine m_aload_n C 0 dX10_turnsFrom_20 rfl rfl ?_
      refine m_aload_n C 0 dX10_turnsFrom_21 rfl rfl ?_
      refine m_getR C (k := 10) cl_X10 (by decide) so_51 rfl fl_X10_29 dX10_turnsFrom_22 ?_
      refine m_iconst C dX10_turnsFrom_25 (r32_of rfl) ?_
      refine m_iload_n C 1 dX10_turnsFrom_26 rfl rfl ?_
      refine m_imul C dX10_turnsFrom_27 ?_
      refine m_iconst C dX10_turnsFrom_28 (r32_of rfl) ?_
      refine m_iadd C dX10_turnsFrom_29 ?_
      refine m_iald C (N := 18) sa_56 h.1 dX10_turnsFrom_30 ?_
      have h := h.2
      refine m_putI C (k := 16) cl_X10 (by decide) so_51 rfl rfl rfl fl_X10_191 dX10_turnsFrom_31 ?_
      generalize eM2 : up M1 51 16 (M1 56 (Int.toNat (w32 ((w32 (3 * a1)) + 1)))) = M2
      have h := h M2 eM2.symm
      refine m_aload_n C 0 dX10_turnsFrom_34 rfl rfl ?_
      refine m_aload_n C 0 dX10_turnsFrom_35 rfl rfl ?_
      refine m_getR C (k := 10) cl_X10 (by decide) so_51 rfl fl_X10_29 dX10_turnsFrom_36 ?_
      refine m_iconst C dX10_turnsFrom_39 (r32_of rfl) ?_
      refine m_iload_n C 1 dX10_turnsFrom_40 rfl rfl ?_
      refine m_imul C dX10_turnsFrom_41 ?_
      refine m_iald C (N := 18) sa_56 h.1 dX10_turnsFrom_42 ?_
      have h := h.2
      refine m_putI C (k := 17) cl_X10 (by decide) so_51 rfl rfl rfl fl_X10_194 dX10_turnsFrom_43 ?_
      generalize eM3 : up M2 51 17 (M2 56 (Int.toNat (w32 (3 * a1)))) = M3
      have h := h M3 eM3.symm
      refine m_aload_n C 0 dX10_turnsFrom_46 rfl rfl ?_
      refine m_iload_n C 3 dX10_turnsFrom_47 rfl rfl ?_
      refine m_putI C (k := 18) cl_X10 (by decide) so_51 rfl rfl rfl fl_X10_197 dX10_turnsFrom_48 ?_
      generalize eM4 : up M3 51 18 x3 = M4
      have h := h M4 eM4.symm
      refine m_aload_n C 0 dX10_turnsFrom_51 rfl rfl ?_
      refine m_aload_n C 0 dX10_turnsFrom_52 rfl rfl ?_
      refine m_getR C (k := 10) cl_X10 (by decide) so_51 rfl fl_X10_29 dX10_turnsFrom_53 ?_
      refine m_iconst C dX10_turnsFrom_56 (r32_of rfl) ?_
      refine m_iload_n C 1 dX10_turnsFrom_57 rfl rfl ?_
      refine m_imul C dX10_turnsFrom_58 ?_
      refine m_iconst C dX10_turnsFrom_59 (r32_of rfl) ?_
      refine m_iadd C dX10_turnsFrom_60 ?_
      refine m_iald C (N := 18) sa_56 h.1 dX10_turnsFrom_61 ?_
      have h := h.2
      refine m_iload C 4 dX10_turnsFrom_62 rfl ?_
      refine m_isub C dX10_turnsFrom_64 ?_
      refine m_putI C (k := 19) cl_X10 (by decide) so_51 rfl rfl rfl fl_X10_200 dX10_turnsFrom_65 ?_
      generalize eM5 : up M4 51 19 (w32 ((M4 56 (Int.toNat (w32 ((w32 (3 * a1)) + 2)))) - x4)) = M5
      have h := h M5 eM5.symm
      refine m_aload_n C 0 dX10_turnsFrom_68 rfl rfl ?_
      refine m_aload_n C 0 dX10_turnsFrom_69 rfl rfl ?_
      refine m_getI C (k := 7) cl_X10 (by decide) so_51 rfl fl_X10_23 dX10_turnsFrom_70 ?_
      refine m_iload C 4 dX10_turnsFrom_73 rfl ?_
      refine m_aload_n C 0 dX10_turnsFrom_75 rfl rfl ?_
      refine m_iload_n C 1 dX10_turnsFrom_76 rfl rfl ?_
      refine m_callVi C (as := [vI a1]) (rest := [vI x4, vI (M5 51 7), vR 51]) ok_X10_thickOf ml_X10_111 so_51 rfl rfl rfl (Nat.le_of_ble_eq_true rfl) (fun _ => rfl) dX10_turnsFrom_77 (Con.mono h (fun r6 M7 _ _ h => ?_))
      refine m_imul C dX10_turnsFrom_80 ?_
      refine m_isub C dX10_turnsFrom_81 ?_
      refine m_putI C (k := 20) cl_X10 (by decide) so_51 rfl rfl rfl fl_X10_203 dX10_turnsFrom_82 ?_
      generalize eM8 : up M7 51 20 (w32 ((M5 51 7) - (w32 (x4 * r6)))) = M8
      have h := h M8 eM8.symm
      refine m_iload_n C 3 dX10_turnsFrom_85 rfl rfl ?_
      refine m_aload_n C 0 dX10_turnsFrom_86 rfl rfl ?_
      refine m_iload_n C 1 dX10_turnsFrom_87 rfl rfl ?_
      refine m_callVi C (as := [vI a1]) (rest := [vI x3]) ok_X10_turnsOf ml_X10_118 so_51 rfl rfl rfl (Nat.le_of_ble_eq_true rfl) (fun _ => rfl) dX10_turnsFrom_88 (Con.mono h (fun r9 M10 _ _ h => ?_))
      refine m_iadd C dX10_turnsFrom_91 ?_
      refine m_callSi C (as := [vI (w32 (x3 + r9))]) (rest := []) ok_X10_round ml_X10_262 rfl rfl (Nat.le_of_ble_eq_true rfl) (fun _ => rfl) dX10_turnsFrom_92 (Con.mono h (fun r11 M12 _ _ h => ?_))
      refine m_istore_n C (L' := [(3, vI r11), (0, vR 51), (1, vI a1), (2, vI a2), (4, vI x4)]) dX10_turnsFrom_95 rfl (by rw [hnL]; decide) rfl ?_
      refine m_aload_n C 1 dX10_turnsFrom_96 rfl rfl ?_
      refine m_getR C (k := 33) cl_X10 (by decide) so_51 rfl fl_X10_41 dX10_turnsFrom_97 ?_
      refine m_iload C 4 dX10_turnsFrom_100 rfl ?_
      refine m_iload_n C 0 dX10_turnsFrom_102 rfl rfl ?_
      refine m_iast C (N := 20) sa_60 h.1 dX10_turnsFrom_103 ?_
      have h := h.2
      generalize eM13 : up M12 60 (Int.toNat x4) r11 = M13
      have h := h M13 eM13.symm
      refine m_iinc C (L' := [(4, vI (w32 (x4 + 1))), (3, vI r11), (0, vR 51), (1, vI a1), (2, vI a2)]) 4 dX10_turnsFrom_104 rfl (by rw [hnL]; decide) rfl ?_
      refine m_goto C (tgt := 8) dX10_turnsFrom_107 (by decide) ?_
      exact m_sub [2, 3, 4, 1, 0] rfl h
  have h := h (fun (x3 : Int) (x4 : Int) (M : Mem) => WM X 8 [(0, vR 51), (1, vI a1), (2, vI a2), (3, vI x3), (4, vI x4)] [] M) hb8
  unfold B_X10_turnsFrom at h
  refine m_aload_n C 0 dX10_turnsFrom_0 rfl rfl ?_
  refine m_getI C (k := 8) cl_X10 (by decide) so_51 rfl fl_X10_101 dX10_turnsFrom_1 ?_
  refine m_istore_n C (L' := [(3, vI (M 51 8)), (0, vR 51), (1, vI a1), (2, vI a2)]) dX10_turnsFrom_4 rfl (by rw [hnL]; decide) rfl ?_
  refine m_iconst C dX10_turnsFrom_5 (r32_of rfl) ?_
  refine m_istore C (L' := [(4, vI 0), (3, vI (M 51 8)), (0, vR 51), (1, vI a1), (2, vI a2)]) dX10_turnsFrom_6 (by rw [hnL]; decide) rfl ?_
  exact m_sub [2, 3, 4, 1, 0] rfl h
def B_X10_firstOther_13 (n : Nat) (a1 : Int) (a2 : Int) (x3 : Int) (M : Mem) (Q : Int → Mem → Prop) (K13 : Int → Mem → Prop) : Prop :=
  ((0 ≤ a1 ∧ a1 < 4) ∧ (((M 66 (Int.toNat a1)) ≤ x3 →
  Q (-1) M) ∧ (¬ (M 66 (Int.toNat a1)) ≤ x3 →
  ((0 ≤ x3 ∧ x3 < 20) ∧ ((0 ≤ (w32 ((w32 (40 * a1)) + x3)) ∧ (w32 ((w32 (40 * a1)) + x3)) < 160) ∧ (((M 60 (Int.toNat x3)) = (M 67 (Int.toNat (w32 ((w32 (40 * a1)) + x3)))) →
    K13 (w32 (x3 + 1)) M) ∧ (¬ (M 60 (Int.toNat x3)) = (M 67 (Int.toNat (w32 ((w32 (40 * a1)) + x3)))) →
    Q x3 M)))))))
def B_X10_firstOther (n : Nat) (a1 : Int) (a2 : Int) (M : Mem) (Q : Int → Mem → Prop) (K13 : Int → Mem → Prop) : Prop :=
  ((0 ≤ a1 ∧ a1 < 4) ∧ Con n md_X10_turnsFrom [vR 51, vI a2, vI (M 66 (Int.toNat a1))] M (fun _ M2 =>
  K13 0 M2))
set_option maxHeartbeats 4000000 in
set_option maxRecDepth 20000 in
theorem g_X10_firstOther {n : Nat} {a1 : Int} {a2 : Int} {M : Mem} {Q : Int → Mem → Prop}  (h : ∀ (K13 : Int → Mem → Prop), (∀ (x3 : Int) (M : Mem), B_X10_firstOther_13 n a1 a2 x3 M Q K13 → K13 x3 M) → B_X10_firstOther n a1 a2 M Q K13) : Con (n + 1) md_X10_firstOther [vR 51, vI a1, vI a2] M Q := by
  refine Con.ofF (n := n + 1) (Nat.succ_pos n) pl_X10_firstOther (Nat.le_of_ble_eq_true rfl) (fun X C E hnL => ?_)
  have C : Cx X cX10_firstOther RX10 n := C
  show WM X 0 [(0, vR 51), (1, vI a1), (2, vI a2)] [] M
  have hb13 : ∀ (x3 : Int) (M : Mem), B_X10_firstOther_13 n a1 a2 x3 M Q (fun (x3 : Int) (M : Mem) => WM X 13 [(0, vR 51), (1, vI a1), (2, vI a2), (3, vI x3)] [] M) → WM X 13 [(0, vR 51), (1, vI a1), (2, vI a2), (3, vI x3)] [] M := by
    intro x3 M h
    unfold B_X10_firstOther_13 at h
    refine m_iload_n C 3 dX10_firstOther_13 rfl rfl ?_
    refine m_aload_n C 0 dX10_firstOther_14 rfl rfl ?_
    refine m_getR C (k := 44) cl_X10 (by decide) so_51 rfl fl_X10_63 dX10_firstOther_15 ?_
    refine m_iload_n C 1 dX10_firstOther_18 rfl rfl ?_
    refine m_iald C (N := 4) sa_66 h.1 dX10_firstOther_19 ?_
    have h := h.2
    refine m_icmp_ge C (tgt := 51) dX10_firstOther_20 (by decide) (fun e => ?_) (fun e => ?_)
    · have h := h.1 e
      refine m_iconst C dX10_firstOther_51 (r32_of rfl) ?_
      exact m_iret C E (Or.inl rfl) dX10_firstOther_52 h
    · have h := h.2 e
      refine m_aload_n C 0 dX10_firstOther_23 rfl rfl ?_
      refine m_getR C (k := 33) cl_X10 (by decide) so_51 rfl fl_X10_41 dX10_firstOther_24 ?_
      refine m_iload_n C 3 dX10_firstOther_27 rfl rfl ?_
      refine m_iald C (N := 20) sa_60 h.1 dX10_firstOther_28 ?_
      have h := h.2
      refine m_aload_n C 0 dX10_firstOther_29 rfl rfl ?_
      refine m_getR C (k := 45) cl_X10 (by decide) so_51 rfl fl_X10_66 dX10_firstOther_30 ?_
      refine m_bipush C dX10_firstOther_33 (r32_of rfl) (by decide) ?_
      refine m_iload_n C 1 dX10_firstOther_35 rfl rfl ?_
      refine m_imul C dX10_firstOther_36 ?_
      refine m_iload_n C 3 dX10_firstOther_37 rfl rfl ?_
      refine m_iadd C dX10_firstOther_38 ?_
      refine m_iald C (N := 160) sa_67 h.1 dX10_firstOther_39 ?_
      have h := h.2
      refine m_icmp_eq C (tgt := 45) dX10_firstOther_40 (by decide) (fun e => ?_) (fun e => ?_)
      · have h := h.1 e
        refine m_iinc C (L' := [(3, vI (w32 (x3 + 1))), (0, vR 51), (1, vI a1), (2, vI a2)]) 3 dX10_firstOther_45 rfl (by rw [hnL]; decide) rfl ?_
        refine m_goto C (tgt := 13) dX10_firstOther_48 (by decide) ?_
        exact m_sub [1, 2, 3, 0] rfl h
      · have h := h.2 e
        refine m_iload_n C 3 dX10_firstOther_43 rfl rfl ?_
        exact m_iret C E (Or.inl rfl) dX10_firstOther_44 h
  have h := h (fun (x3 : Int) (M : Mem) => WM X 13 [(0, vR 51), (1, vI a1), (2, vI a2), (3, vI x3)] [] M) hb13
  unfold B_X10_firstOther at h
  refine m_aload_n C 0 dX10_firstOther_0 rfl rfl ?_
  refine m_iload_n C 2 dX10_firstOther_1 rfl rfl ?_
  refine m_aload_n C 0 dX10_firstOther_2 rfl rfl ?_
  refine m_getR C (k := 44) cl_X10 (by decide) so_51 rfl fl_X10_63 dX10_firstOther_3 ?_
  refine m_iload_n C 1 dX10_firstOther_6 rfl rfl ?_
  refine m_iald C (N := 4) sa_66 h.1 dX10_firstOther_7 ?_
  have h := h.2
  refine m_callVv C (as := [vI a2, vI (M 66 (Int.toNat a1))]) (rest := []) ok_X10_turnsFrom ml_X10_318 so_51 rfl rfl rfl (Nat.le_of_ble_eq_true rfl) (fun _ => rfl) dX10_firstOther_8 (Con.mono h (fun _ M2 _ _ h => ?_))
  refine m_iconst C dX10_firstOther_11 (r32_of rfl) ?_
  refine m_istore_n C (L' := [(3, vI 0), (0, vR 51), (1, vI a1), (2, vI a2)]) dX10_firstOther_12 rfl (by rw [hnL]; decide) rfl ?_
  exact m_sub [1, 2, 3, 0] rfl h
def B_X10_tells_169 (n : Nat) (a1 : Int) (a2 : Int) (a3 : Int) (x4 : Int) (x5 : Int) (x6 : Int) (x7 : Int) (x8 : Int) (M : Mem) (Q : Int → Mem → Prop) (K169 : Int → Int → Int → Int → Int → Mem → Prop) : Prop :=
  ((x6 < x8 →
  Con n md_X10_lays [vR 51, vI x4, vI a2, vI x5] M (fun _ M2 =>
    Q x7 M2)) ∧ (¬ x6 < x8 →
  Con n md_X10_lays [vR 51, vI x4, vI a2, vI x8] M (fun _ M4 =>
    Con n md_X10_firstOther [vR 51, vI a1, vI a2] M4 (fun r5 M6 =>
    ((r5 = (-1) →
    K169 x4 x5 x6 (o_r x7 (sh_l 1 x8)) (w32 (x8 + 1)) M6) ∧ (¬ r5 = (-1) →
    K169 x4 x5 x6 (o_r x7 (sh_l 0 x8)) (w32 (x8 + 1)) M6))))))
def B_X10_tells (n : Nat) (a1 : Int) (a2 : Int) (a3 : Int) (M : Mem) (Q : Int → Mem → Prop) (K169 : Int → Int → Int → Int → Int → Mem → Prop) : Prop :=
  Con n md_X10_isSheet [vI a1] M (fun r7 M8 =>
  ((r7 = 0 →
  Q (-2) M8) ∧ (¬ r7 = 0 →
  Con n md_X10_isFlower [vR 51, vI a2] M8 (fun r9 M10 =>
    ((r9 = 0 →
    Q (-2) M10) ∧ (¬ r9 = 0 →
    Con n md_X10_in [vL a3, vL 0, vL 5] M10 (fun r11 M12 =>
      ((r11 = 0 →
      Q (-2) M12) ∧ (¬ r11 = 0 →
      ((0 ≤ a1 ∧ a1 < 4) ∧ (((M12 64 (Int.toNat a1)) = 0 →
        Q (-11) M12) ∧ (¬ (M12 64 (Int.toNat a1)) = 0 →
        ((0 ≤ a1 ∧ a1 < 4) ∧ (((M12 66 (Int.toNat a1)) ≤ 20 →
          ((a3 = 0 →
            Con n md_X10_firstOther [vR 51, vI a1, vI a2] M12 (fun r43 M44 =>
              Q r43 M44)) ∧ (¬ a3 = 0 →
            ((a3 = 1 →
              (((5 : Int) = 6 →
                (((5 : Int) = 6 →
                  K169 5 (M12 51 4) (w32 ((M12 51 3) - 1)) 0 0 M12) ∧ (¬ (5 : Int) = 6 →
                  (((5 : Int) = 5 →
                    K169 5 (M12 51 4) 5 0 0 M12) ∧ (¬ (5 : Int) = 5 →
                    Con n md_X10_mostOf [vI 5] M12 (fun r41 M42 =>
                      K169 5 (M12 51 4) r41 0 0 M42)))))) ∧ (¬ (5 : Int) = 6 →
                Con n md_X10_told [vR 51, vI a2, vI 5] M12 (fun r37 M38 =>
                  (((5 : Int) = 6 →
                  K169 5 r37 (w32 ((M38 51 3) - 1)) 0 0 M38) ∧ (¬ (5 : Int) = 6 →
                  (((5 : Int) = 5 →
                    K169 5 r37 5 0 0 M38) ∧ (¬ (5 : Int) = 5 →
                    Con n md_X10_mostOf [vI 5] M38 (fun r39 M40 =>
                      K169 5 r37 r39 0 0 M40))))))))) ∧ (¬ a3 = 1 →
              ((a3 = 2 →
                (((2 : Int) = 6 →
                  (((2 : Int) = 6 →
                    K169 2 (M12 51 4) (w32 ((M12 51 3) - 1)) 0 0 M12) ∧ (¬ (2 : Int) = 6 →
                    (((2 : Int) = 5 →
                      K169 2 (M12 51 4) 5 0 0 M12) ∧ (¬ (2 : Int) = 5 →
                      Con n md_X10_mostOf [vI 2] M12 (fun r35 M36 =>
                        K169 2 (M12 51 4) r35 0 0 M36)))))) ∧ (¬ (2 : Int) = 6 →
                  Con n md_X10_told [vR 51, vI a2, vI 2] M12 (fun r31 M32 =>
                    (((2 : Int) = 6 →
                    K169 2 r31 (w32 ((M32 51 3) - 1)) 0 0 M32) ∧ (¬ (2 : Int) = 6 →
                    (((2 : Int) = 5 →
                      K169 2 r31 5 0 0 M32) ∧ (¬ (2 : Int) = 5 →
                      Con n md_X10_mostOf [vI 2] M32 (fun r33 M34 =>
                        K169 2 r31 r33 0 0 M34))))))))) ∧ (¬ a3 = 2 →
                ((a3 = 3 →
                  (((3 : Int) = 6 →
                    (((3 : Int) = 6 →
                      K169 3 (M12 51 4) (w32 ((M12 51 3) - 1)) 0 0 M12) ∧ (¬ (3 : Int) = 6 →
                      (((3 : Int) = 5 →
                        K169 3 (M12 51 4) 5 0 0 M12) ∧ (¬ (3 : Int) = 5 →
                        Con n md_X10_mostOf [vI 3] M12 (fun r29 M30 =>
                          K169 3 (M12 51 4) r29 0 0 M30)))))) ∧ (¬ (3 : Int) = 6 →
                    Con n md_X10_told [vR 51, vI a2, vI 3] M12 (fun r25 M26 =>
                      (((3 : Int) = 6 →
                      K169 3 r25 (w32 ((M26 51 3) - 1)) 0 0 M26) ∧ (¬ (3 : Int) = 6 →
                      (((3 : Int) = 5 →
                        K169 3 r25 5 0 0 M26) ∧ (¬ (3 : Int) = 5 →
                        Con n md_X10_mostOf [vI 3] M26 (fun r27 M28 =>
                          K169 3 r25 r27 0 0 M28))))))))) ∧ (¬ a3 = 3 →
                  ((a3 = 4 →
                    (((1 : Int) = 6 →
                      (((1 : Int) = 6 →
                        K169 1 (M12 51 4) (w32 ((M12 51 3) - 1)) 0 0 M12) ∧ (¬ (1 : Int) = 6 →
                        (((1 : Int) = 5 →
                          K169 1 (M12 51 4) 5 0 0 M12) ∧ (¬ (1 : Int) = 5 →
                          Con n md_X10_mostOf [vI 1] M12 (fun r23 M24 =>
                            K169 1 (M12 51 4) r23 0 0 M24)))))) ∧ (¬ (1 : Int) = 6 →
                      Con n md_X10_told [vR 51, vI a2, vI 1] M12 (fun r19 M20 =>
                        (((1 : Int) = 6 →
                        K169 1 r19 (w32 ((M20 51 3) - 1)) 0 0 M20) ∧ (¬ (1 : Int) = 6 →
                        (((1 : Int) = 5 →
                          K169 1 r19 5 0 0 M20) ∧ (¬ (1 : Int) = 5 →
                          Con n md_X10_mostOf [vI 1] M20 (fun r21 M22 =>
                            K169 1 r19 r21 0 0 M22))))))))) ∧ (¬ a3 = 4 →
                    (((6 : Int) = 6 →
                      (((6 : Int) = 6 →
                        K169 6 (M12 51 4) (w32 ((M12 51 3) - 1)) 0 0 M12) ∧ (¬ (6 : Int) = 6 →
                        (((6 : Int) = 5 →
                          K169 6 (M12 51 4) 5 0 0 M12) ∧ (¬ (6 : Int) = 5 →
                          Con n md_X10_mostOf [vI 6] M12 (fun r17 M18 =>
                            K169 6 (M12 51 4) r17 0 0 M18)))))) ∧ (¬ (6 : Int) = 6 →
                      Con n md_X10_told [vR 51, vI a2, vI 6] M12 (fun r13 M14 =>
                        (((6 : Int) = 6 →
                        K169 6 r13 (w32 ((M14 51 3) - 1)) 0 0 M14) ∧ (¬ (6 : Int) = 6 →
                        (((6 : Int) = 5 →
                          K169 6 r13 5 0 0 M14) ∧ (¬ (6 : Int) = 5 →
                          Con n md_X10_mostOf [vI 6] M14 (fun r15 M16 =>
                            K169 6 r13 r15 0 0 M16))))))))))))))))))) ∧ (¬ (M12 66 (Int.toNat a1)) ≤ 20 →
          Q (-2) M12)))))))))))))))
set_option maxHeartbeats 4000000 in
set_option maxRecDepth 20000 in
theorem g_X10_tells {n : Nat} {a1 : Int} {a2 : Int} {a3 : Int} {M : Mem} {Q : Int → Mem → Prop}  (h : ∀ (K169 : Int → Int → Int → Int → Int → Mem → Prop), (∀ (x4 : Int) (x5 : Int) (x6 : Int) (x7 : Int) (x8 : Int) (M : Mem), B_X10_tells_169 n a1 a2 a3 x4 x5 x6 x7 x8 M Q K169 → K169 x4 x5 x6 x7 x8 M) → B_X10_tells n a1 a2 a3 M Q K169) : Con (n + 1) md_X10_tells [vR 51, vI a1, vI a2, vI a3] M Q := by
  refine Con.ofF (n := n + 1) (Nat.succ_pos n) pl_X10_tells (Nat.le_of_ble_eq_true rfl) (fun X C E hnL => ?_)
  have C : Cx X cX10_tells RX10 n := C
  show WM X 0 [(0, vR 51), (1, vI a1), (2, vI a2), (3, vI a3)] [] M
  have hb169 : ∀ (x4 : Int) (x5 : Int) (x6 : Int) (x7 : Int) (x8 : Int) (M : Mem), B_X10_tells_169 n a1 a2 a3 x4 x5 x6 x7 x8 M Q (fun (x4 : Int) (x5 : Int) (x6 : Int) (x7 : Int) (x8 : Int) (M : Mem) => WM X 169 [(0, vR 51), (1, vI a1), (2, vI a2), (3, vI a3), (4, vI x4), (5, vI x5), (6, vI x6), (7, vI x7), (8, vI x8)] [] M) → WM X 169 [(0, vR 51), (1, vI a1), (2, vI a2), (3, vI a3), (4, vI x4), (5, vI x5), (6, vI x6), (7, vI x7), (8, vI x8)] [] M := by
    intro x4 x5 x6 x7 x8 M h
    unfold B_X10_tells_169 at h
    refine m_iload C 8 dX10_tells_169 rfl ?_
    refine m_iload C 6 dX10_tells_171 rfl ?_
    refine m_icmp_gt C (tgt := 214) dX10_tells_173 (by decide) (fun e => ?_) (fun e => ?_)
    · have h := h.1 e
      refine m_aload_n C 0 dX10_tells_214 rfl rfl ?_
      refine m_iload C 4 dX10_tells_215 rfl ?_
      refine m_iload_n C 2 dX10_tells_217 rfl rfl ?_
      refine m_iload C 5 dX10_tells_218 rfl ?_
      refine m_callVv C (as := [vI x4, vI a2, vI x5]) (rest := []) ok_X10_lays ml_X10_97 so_51 rfl rfl rfl (Nat.le_of_ble_eq_true rfl) (fun _ => rfl) dX10_tells_220 (Con.mono h (fun _ M2 _ _ h => ?_))
      refine m_iload C 7 dX10_tells_223 rfl ?_
      exact m_iret C E (Or.inl rfl) dX10_tells_225 h
    · have h := h.2 e
      refine m_aload_n C 0 dX10_tells_176 rfl rfl ?_
      refine m_iload C 4 dX10_tells_177 rfl ?_
      refine m_iload_n C 2 dX10_tells_179 rfl rfl ?_
      refine m_iload C 8 dX10_tells_180 rfl ?_
      refine m_callVv C (as := [vI x4, vI a2, vI x8]) (rest := []) ok_X10_lays ml_X10_97 so_51 rfl rfl rfl (Nat.le_of_ble_eq_true rfl) (fun _ => rfl) dX10_tells_182 (Con.mono h (fun _ M4 _ _ h => ?_))
      refine m_iload C 7 dX10_tells_185 rfl ?_
      refine m_aload_n C 0 dX10_tells_187 rfl rfl ?_
      refine m_iload_n C 1 dX10_tells_188 rfl rfl ?_
      refine m_iload_n C 2 dX10_tells_189 rfl rfl ?_
      refine m_callVi C (as := [vI a1, vI a2]) (rest := [vI x7]) ok_X10_firstOther ml_X10_322 so_51 rfl rfl rfl (Nat.le_of_ble_eq_true rfl) (fun _ => rfl) dX10_tells_190 (Con.mono h (fun r5 M6 _ _ h => ?_))
      refine m_iconst C dX10_tells_193 (r32_of rfl) ?_
      refine m_icmp_ne C (tgt := 201) dX10_tells_194 (by decide) (fun e => ?_) (fun e => ?_)
      · have h := h.2 e
        refine m_iconst C dX10_tells_201 (r32_of rfl) ?_
        refine m_iload C 8 dX10_tells_202 rfl ?_
        refine m_ishl C dX10_tells_204 ?_
        refine m_ior C dX10_tells_205 ?_
        refine m_istore C (L' := [(7, vI (o_r x7 (sh_l 0 x8))), (0, vR 51), (1, vI a1), (2, vI a2), (3, vI a3), (4, vI x4), (5, vI x5), (6, vI x6), (8, vI x8)]) dX10_tells_206 (by rw [hnL]; decide) rfl ?_
        refine m_iinc C (L' := [(8, vI (w32 (x8 + 1))), (7, vI (o_r x7 (sh_l 0 x8))), (0, vR 51), (1, vI a1), (2, vI a2), (3, vI a3), (4, vI x4), (5, vI x5), (6, vI x6)]) 8 dX10_tells_208 rfl (by rw [hnL]; decide) rfl ?_
        refine m_goto C (tgt := 169) dX10_tells_211 (by decide) ?_
        exact m_sub [2, 3, 4, 5, 6, 7, 8, 1, 0] rfl h
      · have h := h.1 e
        refine m_iconst C dX10_tells_197 (r32_of rfl) ?_
        refine m_goto C (tgt := 202) dX10_tells_198 (by decide) ?_
        refine m_iload C 8 dX10_tells_202 rfl ?_
        refine m_ishl C dX10_tells_204 ?_
        refine m_ior C dX10_tells_205 ?_
        refine m_istore C (L' := [(7, vI (o_r x7 (sh_l 1 x8))), (0, vR 51), (1, vI a1), (2, vI a2), (3, vI a3), (4, vI x4), (5, vI x5), (6, vI x6), (8, vI x8)]) dX10_tells_206 (by rw [hnL]; decide) rfl ?_
        refine m_iinc C (L' := [(8, vI (w32 (x8 + 1))), (7, vI (o_r x7 (sh_l 1 x8))), (0, vR 51), (1, vI a1), (2, vI a2), (3, vI a3), (4, vI x4), (5, vI x5), (6, vI x6)]) 8 dX10_tells_208 rfl (by rw [hnL]; decide) rfl ?_
        refine m_goto C (tgt := 169) dX10_tells_211 (by decide) ?_
        exact m_sub [2, 3, 4, 5, 6, 7, 8, 1, 0] rfl h
  have h := h (fun (x4 : Int) (x5 : Int) (x6 : Int) (x7 : Int) (x8 : Int) (M : Mem) => WM X 169 [(0, vR 51), (1, vI a1), (2, vI a2), (3, vI a3), (4, vI x4), (5, vI x5), (6, vI x6), (7, vI x7), (8, vI x8)] [] M) hb169
  unfold B_X10_tells at h
  refine m_iload_n C 1 dX10_tells_0 rfl rfl ?_
  refine m_callSi C (as := [vI a1]) (rest := []) ok_X10_isSheet ml_X10_310 rfl rfl (Nat.le_of_ble_eq_true rfl) (fun _ => rfl) dX10_tells_1 (Con.mono h (fun r7 M8 _ _ h => ?_))
  refine m_if_eq C (tgt := 27) dX10_tells_4 (by decide) (fun e => ?_) (fun e => ?_)
  · have h := h.1 e
    refine m_bipush C dX10_tells_27 (r32_of rfl) (by decide) ?_
    exact m_iret C E (Or.inl rfl) dX10_tells_29 h
  · have h := h.2 e
    refine m_aload_n C 0 dX10_tells_7 rfl rfl ?_
    refine m_iload_n C 2 dX10_tells_8 rfl rfl ?_
    refine m_callVi C (as := [vI a2]) (rest := []) ok_X10_isFlower ml_X10_85 so_51 rfl rfl rfl (Nat.le_of_ble_eq_true rfl) (fun _ => rfl) dX10_tells_9 (Con.mono h (fun r9 M10 _ _ h => ?_))
    refine m_if_eq C (tgt := 27) dX10_tells_12 (by decide) (fun e => ?_) (fun e => ?_)
    · have h := h.1 e
      refine m_bipush C dX10_tells_27 (r32_of rfl) (by decide) ?_
      exact m_iret C E (Or.inl rfl) dX10_tells_29 h
    · have h := h.2 e
      refine m_iload_n C 3 dX10_tells_15 rfl rfl ?_
      refine m_i2l C dX10_tells_16 ?_
      refine m_lconst C (x := 0) dX10_tells_17 (by decide) (r64_of rfl) ?_
      refine m_ldc2 C (v := 5) dX10_tells_18 kc_X10_107 (r64_of rfl) ?_
      refine m_callSi C (as := [vL a3, vL 0, vL 5]) (rest := []) ok_X10_in ml_X10_79 rfl rfl (Nat.le_of_ble_eq_true rfl) (fun _ => rfl) dX10_tells_21 (Con.mono h (fun r11 M12 _ _ h => ?_))
      refine m_if_ne C (tgt := 30) dX10_tells_24 (by decide) (fun e => ?_) (fun e => ?_)
      · have h := h.2 e
        refine m_aload_n C 0 dX10_tells_30 rfl rfl ?_
        refine m_getR C (k := 42) cl_X10 (by decide) so_51 rfl fl_X10_56 dX10_tells_31 ?_
        refine m_iload_n C 1 dX10_tells_34 rfl rfl ?_
        refine m_zald C (N := 4) sa_64 h.1 dX10_tells_35 ?_
        have h := h.2
        refine m_if_ne C (tgt := 42) dX10_tells_36 (by decide) (fun e => ?_) (fun e => ?_)
        · have h := h.2 e
          refine m_aload_n C 0 dX10_tells_42 rfl rfl ?_
          refine m_getR C (k := 44) cl_X10 (by decide) so_51 rfl fl_X10_63 dX10_tells_43 ?_
          refine m_iload_n C 1 dX10_tells_46 rfl rfl ?_
          refine m_iald C (N := 4) sa_66 h.1 dX10_tells_47 ?_
          have h := h.2
          refine m_bipush C dX10_tells_48 (r32_of rfl) (by decide) ?_
          refine m_icmp_le C (tgt := 56) dX10_tells_50 (by decide) (fun e => ?_) (fun e => ?_)
          · have h := h.1 e
            refine m_iload_n C 3 dX10_tells_56 rfl rfl ?_
            refine m_if_ne C (tgt := 67) dX10_tells_57 (by decide) (fun e => ?_) (fun e => ?_)
            · have h := h.2 e
              refine m_iload_n C 3 dX10_tells_67 rfl rfl ?_
              refine m_iconst C dX10_tells_68 (r32_of rfl) ?_
              refine m_icmp_ne C (tgt := 76) dX10_tells_69 (by decide) (fun e => ?_) (fun e => ?_)
              · have h := h.2 e
                refine m_iload_n C 3 dX10_tells_76 rfl rfl ?_
                refine m_iconst C dX10_tells_77 (r32_of rfl) ?_
                refine m_icmp_ne C (tgt := 85) dX10_tells_78 (by decide) (fun e => ?_) (fun e => ?_)
                · have h := h.2 e
                  refine m_iload_n C 3 dX10_tells_85 rfl rfl ?_
                  refine m_iconst C dX10_tells_86 (r32_of rfl) ?_
                  refine m_icmp_ne C (tgt := 94) dX10_tells_87 (by decide) (fun e => ?_) (fun e => ?_)
                  · have h := h.2 e
                    refine m_iload_n C 3 dX10_tells_94 rfl rfl ?_
                    refine m_iconst C dX10_tells_95 (r32_of rfl) ?_
                    refine m_icmp_ne C (tgt := 103) dX10_tells_96 (by decide) (fun e => ?_) (fun e => ?_)
                    · have h := h.2 e
                      refine m_bipush C dX10_tells_103 (r32_of rfl) (by decide) ?_
                      refine m_istore C (L' := [(4, vI 6), (0, vR 51), (1, vI a1), (2, vI a2), (3, vI a3)]) dX10_tells_105 (by rw [hnL]; decide) rfl ?_
                      refine m_iload C 0 dX10_tells_107 rfl ?_
                      refine m_bipush C dX10_tells_109 (r32_of rfl) (by decide) ?_
                      refine m_icmp_ne C (tgt := 121) dX10_tells_111 (by decide) (fun e => ?_) (fun e => ?_)
                      · have h := h.2 e
                        refine m_aload_n C 1 dX10_tells_121 rfl rfl ?_
                        refine m_iload_n C 3 dX10_tells_122 rfl rfl ?_
                        refine m_iload C 0 dX10_tells_123 rfl ?_
                        refine m_callVi C (as := [vI a2, vI 6]) (rest := []) ok_X10_told ml_X10_93 so_51 rfl rfl rfl (Nat.le_of_ble_eq_true rfl) (fun _ => rfl) dX10_tells_125 (Con.mono h (fun r13 M14 _ _ h => ?_))
                        refine m_istore C (L' := [(5, vI r13), (4, vI 6), (0, vR 51), (1, vI a1), (2, vI a2), (3, vI a3)]) dX10_tells_128 (by rw [hnL]; decide) rfl ?_
                        refine m_iload C 1 dX10_tells_130 rfl ?_
                        refine m_bipush C dX10_tells_132 (r32_of rfl) (by decide) ?_
                        refine m_icmp_ne C (tgt := 146) dX10_tells_134 (by decide) (fun e => ?_) (fun e => ?_)
                        · have h := h.2 e
                          refine m_iload C 1 dX10_tells_146 rfl ?_
                          refine m_iconst C dX10_tells_148 (r32_of rfl) ?_
                          refine m_icmp_ne C (tgt := 156) dX10_tells_149 (by decide) (fun e => ?_) (fun e => ?_)
                          · have h := h.2 e
                            refine m_iload C 1 dX10_tells_156 rfl ?_
                            refine m_callSi C (as := [vI 6]) (rest := []) ok_X10_mostOf ml_X10_89 rfl rfl (Nat.le_of_ble_eq_true rfl) (fun _ => rfl) dX10_tells_158 (Con.mono h (fun r15 M16 _ _ h => ?_))
                            refine m_istore C (L' := [(6, vI r15), (5, vI r13), (4, vI 6), (0, vR 51), (1, vI a1), (2, vI a2), (3, vI a3)]) dX10_tells_161 (by rw [hnL]; decide) rfl ?_
                            refine m_iconst C dX10_tells_163 (r32_of rfl) ?_
                            refine m_istore C (L' := [(7, vI 0), (6, vI r15), (5, vI r13), (4, vI 6), (0, vR 51), (1, vI a1), (2, vI a2), (3, vI a3)]) dX10_tells_164 (by rw [hnL]; decide) rfl ?_
                            refine m_iconst C dX10_tells_166 (r32_of rfl) ?_
                            refine m_istore C (L' := [(8, vI 0), (7, vI 0), (6, vI r15), (5, vI r13), (4, vI 6), (0, vR 51), (1, vI a1), (2, vI a2), (3, vI a3)]) dX10_tells_167 (by rw [hnL]; decide) rfl ?_
                            exact m_sub [5, 6, 7, 8, 4, 3, 2, 1, 0] rfl h
                          · have h := h.1 e
                            refine m_iconst C dX10_tells_152 (r32_of rfl) ?_
                            refine m_goto C (tgt := 161) dX10_tells_153 (by decide) ?_
                            refine m_istore C (L' := [(6, vI 5), (5, vI r13), (4, vI 6), (0, vR 51), (1, vI a1), (2, vI a2), (3, vI a3)]) dX10_tells_161 (by rw [hnL]; decide) rfl ?_
                            refine m_iconst C dX10_tells_163 (r32_of rfl) ?_
                            refine m_istore C (L' := [(7, vI 0), (6, vI 5), (5, vI r13), (4, vI 6), (0, vR 51), (1, vI a1), (2, vI a2), (3, vI a3)]) dX10_tells_164 (by rw [hnL]; decide) rfl ?_
                            refine m_iconst C dX10_tells_166 (r32_of rfl) ?_
                            refine m_istore C (L' := [(8, vI 0), (7, vI 0), (6, vI 5), (5, vI r13), (4, vI 6), (0, vR 51), (1, vI a1), (2, vI a2), (3, vI a3)]) dX10_tells_167 (by rw [hnL]; decide) rfl ?_
                            exact m_sub [5, 6, 7, 8, 4, 3, 2, 1, 0] rfl h
                        · have h := h.1 e
                          refine m_aload_n C 2 dX10_tells_137 rfl rfl ?_
                          refine m_getI C (k := 3) cl_X10 (by decide) so_51 rfl fl_X10_73 dX10_tells_138 ?_
                          refine m_iconst C dX10_tells_141 (r32_of rfl) ?_
                          refine m_isub C dX10_tells_142 ?_
                          refine m_goto C (tgt := 161) dX10_tells_143 (by decide) ?_
                          refine m_istore C (L' := [(6, vI (w32 ((M14 51 3) - 1))), (5, vI r13), (4, vI 6), (0, vR 51), (1, vI a1), (2, vI a2), (3, vI a3)]) dX10_tells_161 (by rw [hnL]; decide) rfl ?_
                          refine m_iconst C dX10_tells_163 (r32_of rfl) ?_
                          refine m_istore C (L' := [(7, vI 0), (6, vI (w32 ((M14 51 3) - 1))), (5, vI r13), (4, vI 6), (0, vR 51), (1, vI a1), (2, vI a2), (3, vI a3)]) dX10_tells_164 (by rw [hnL]; decide) rfl ?_
                          refine m_iconst C dX10_tells_166 (r32_of rfl) ?_
                          refine m_istore C (L' := [(8, vI 0), (7, vI 0), (6, vI (w32 ((M14 51 3) - 1))), (5, vI r13), (4, vI 6), (0, vR 51), (1, vI a1), (2, vI a2), (3, vI a3)]) dX10_tells_167 (by rw [hnL]; decide) rfl ?_
                          exact m_sub [5, 6, 7, 8, 4, 3, 2, 1, 0] rfl h
                      · have h := h.1 e
                        refine m_aload_n C 1 dX10_tells_114 rfl rfl ?_
                        refine m_getI C (k := 4) cl_X10 (by decide) so_51 rfl fl_X10_104 dX10_tells_115 ?_
                        refine m_goto C (tgt := 128) dX10_tells_118 (by decide) ?_
                        refine m_istore C (L' := [(5, vI (M12 51 4)), (4, vI 6), (0, vR 51), (1, vI a1), (2, vI a2), (3, vI a3)]) dX10_tells_128 (by rw [hnL]; decide) rfl ?_
                        refine m_iload C 1 dX10_tells_130 rfl ?_
                        refine m_bipush C dX10_tells_132 (r32_of rfl) (by decide) ?_
                        refine m_icmp_ne C (tgt := 146) dX10_tells_134 (by decide) (fun e => ?_) (fun e => ?_)
                        · have h := h.2 e
                          refine m_iload C 1 dX10_tells_146 rfl ?_
                          refine m_iconst C dX10_tells_148 (r32_of rfl) ?_
                          refine m_icmp_ne C (tgt := 156) dX10_tells_149 (by decide) (fun e => ?_) (fun e => ?_)
                          · have h := h.2 e
                            refine m_iload C 1 dX10_tells_156 rfl ?_
                            refine m_callSi C (as := [vI 6]) (rest := []) ok_X10_mostOf ml_X10_89 rfl rfl (Nat.le_of_ble_eq_true rfl) (fun _ => rfl) dX10_tells_158 (Con.mono h (fun r17 M18 _ _ h => ?_))
                            refine m_istore C (L' := [(6, vI r17), (5, vI (M12 51 4)), (4, vI 6), (0, vR 51), (1, vI a1), (2, vI a2), (3, vI a3)]) dX10_tells_161 (by rw [hnL]; decide) rfl ?_
                            refine m_iconst C dX10_tells_163 (r32_of rfl) ?_
                            refine m_istore C (L' := [(7, vI 0), (6, vI r17), (5, vI (M12 51 4)), (4, vI 6), (0, vR 51), (1, vI a1), (2, vI a2), (3, vI a3)]) dX10_tells_164 (by rw [hnL]; decide) rfl ?_
                            refine m_iconst C dX10_tells_166 (r32_of rfl) ?_
                            refine m_istore C (L' := [(8, vI 0), (7, vI 0), (6, vI r17), (5, vI (M12 51 4)), (4, vI 6), (0, vR 51), (1, vI a1), (2, vI a2), (3, vI a3)]) dX10_tells_167 (by rw [hnL]; decide) rfl ?_
                            exact m_sub [5, 6, 7, 8, 4, 3, 2, 1, 0] rfl h
                          · have h := h.1 e
                            refine m_iconst C dX10_tells_152 (r32_of rfl) ?_
                            refine m_goto C (tgt := 161) dX10_tells_153 (by decide) ?_
                            refine m_istore C (L' := [(6, vI 5), (5, vI (M12 51 4)), (4, vI 6), (0, vR 51), (1, vI a1), (2, vI a2), (3, vI a3)]) dX10_tells_161 (by rw [hnL]; decide) rfl ?_
                            refine m_iconst C dX10_tells_163 (r32_of rfl) ?_
                            refine m_istore C (L' := [(7, vI 0), (6, vI 5), (5, vI (M12 51 4)), (4, vI 6), (0, vR 51), (1, vI a1), (2, vI a2), (3, vI a3)]) dX10_tells_164 (by rw [hnL]; decide) rfl ?_
                            refine m_iconst C dX10_tells_166 (r32_of rfl) ?_
                            refine m_istore C (L' := [(8, vI 0), (7, vI 0), (6, vI 5), (5, vI (M12 51 4)), (4, vI 6), (0, vR 51), (1, vI a1), (2, vI a2), (3, vI a3)]) dX10_tells_167 (by rw [hnL]; decide) rfl ?_
                            exact m_sub [5, 6, 7, 8, 4, 3, 2, 1, 0] rfl h
                        · have h := h.1 e
                          refine m_aload_n C 2 dX10_tells_137 rfl rfl ?_
                          refine m_getI C (k := 3) cl_X10 (by decide) so_51 rfl fl_X10_73 dX10_tells_138 ?_
                          refine m_iconst C dX10_tells_141 (r32_of rfl) ?_
                          refine m_isub C dX10_tells_142 ?_
                          refine m_goto C (tgt := 161) dX10_tells_143 (by decide) ?_
                          refine m_istore C (L' := [(6, vI (w32 ((M12 51 3) - 1))), (5, vI (M12 51 4)), (4, vI 6), (0, vR 51), (1, vI a1), (2, vI a2), (3, vI a3)]) dX10_tells_161 (by rw [hnL]; decide) rfl ?_
                          refine m_iconst C dX10_tells_163 (r32_of rfl) ?_
                          refine m_istore C (L' := [(7, vI 0), (6, vI (w32 ((M12 51 3) - 1))), (5, vI (M12 51 4)), (4, vI 6), (0, vR 51), (1, vI a1), (2, vI a2), (3, vI a3)]) dX10_tells_164 (by rw [hnL]; decide) rfl ?_
                          refine m_iconst C dX10_tells_166 (r32_of rfl) ?_
                          refine m_istore C (L' := [(8, vI 0), (7, vI 0), (6, vI (w32 ((M12 51 3) - 1))), (5, vI (M12 51 4)), (4, vI 6), (0, vR 51), (1, vI a1), (2, vI a2), (3, vI a3)]) dX10_tells_167 (by rw [hnL]; decide) rfl ?_
                          exact m_sub [5, 6, 7, 8, 4, 3, 2, 1, 0] rfl h
                    · have h := h.1 e
                      refine m_iconst C dX10_tells_99 (r32_of rfl) ?_
                      refine m_goto C (tgt := 105) dX10_tells_100 (by decide) ?_
                      refine m_istore C (L' := [(4, vI 1), (0, vR 51), (1, vI a1), (2, vI a2), (3, vI a3)]) dX10_tells_105 (by rw [hnL]; decide) rfl ?_
                      refine m_iload C 0 dX10_tells_107 rfl ?_
                      refine m_bipush C dX10_tells_109 (r32_of rfl) (by decide) ?_
                      refine m_icmp_ne C (tgt := 121) dX10_tells_111 (by decide) (fun e => ?_) (fun e => ?_)
                      · have h := h.2 e
                        refine m_aload_n C 1 dX10_tells_121 rfl rfl ?_
                        refine m_iload_n C 3 dX10_tells_122 rfl rfl ?_
                        refine m_iload C 0 dX10_tells_123 rfl ?_
                        refine m_callVi C (as := [vI a2, vI 1]) (rest := []) ok_X10_told ml_X10_93 so_51 rfl rfl rfl (Nat.le_of_ble_eq_true rfl) (fun _ => rfl) dX10_tells_125 (Con.mono h (fun r19 M20 _ _ h => ?_))
                        refine m_istore C (L' := [(5, vI r19), (4, vI 1), (0, vR 51), (1, vI a1), (2, vI a2), (3, vI a3)]) dX10_tells_128 (by rw [hnL]; decide) rfl ?_
                        refine m_iload C 1 dX10_tells_130 rfl ?_
                        refine m_bipush C dX10_tells_132 (r32_of rfl) (by decide) ?_
                        refine m_icmp_ne C (tgt := 146) dX10_tells_134 (by decide) (fun e => ?_) (fun e => ?_)
                        · have h := h.2 e
                          refine m_iload C 1 dX10_tells_146 rfl ?_
                          refine m_iconst C dX10_tells_148 (r32_of rfl) ?_
                          refine m_icmp_ne C (tgt := 156) dX10_tells_149 (by decide) (fun e => ?_) (fun e => ?_)
                          · have h := h.2 e
                            refine m_iload C 1 dX10_tells_156 rfl ?_
                            refine m_callSi C (as := [vI 1]) (rest := []) ok_X10_mostOf ml_X10_89 rfl rfl (Nat.le_of_ble_eq_true rfl) (fun _ => rfl) dX10_tells_158 (Con.mono h (fun r21 M22 _ _ h => ?_))
                            refine m_istore C (L' := [(6, vI r21), (5, vI r19), (4, vI 1), (0, vR 51), (1, vI a1), (2, vI a2), (3, vI a3)]) dX10_tells_161 (by rw [hnL]; decide) rfl ?_
                            refine m_iconst C dX10_tells_163 (r32_of rfl) ?_
                            refine m_istore C (L' := [(7, vI 0), (6, vI r21), (5, vI r19), (4, vI 1), (0, vR 51), (1, vI a1), (2, vI a2), (3, vI a3)]) dX10_tells_164 (by rw [hnL]; decide) rfl ?_
                            refine m_iconst C dX10_tells_166 (r32_of rfl) ?_
                            refine m_istore C (L' := [(8, vI 0), (7, vI 0), (6, vI r21), (5, vI r19), (4, vI 1), (0, vR 51), (1, vI a1), (2, vI a2), (3, vI a3)]) dX10_tells_167 (by rw [hnL]; decide) rfl ?_
                            exact m_sub [5, 6, 7, 8, 4, 3, 2, 1, 0] rfl h
                          · have h := h.1 e
                            refine m_iconst C dX10_tells_152 (r32_of rfl) ?_
                            refine m_goto C (tgt := 161) dX10_tells_153 (by decide) ?_
                            refine m_istore C (L' := [(6, vI 5), (5, vI r19), (4, vI 1), (0, vR 51), (1, vI a1), (2, vI a2), (3, vI a3)]) dX10_tells_161 (by rw [hnL]; decide) rfl ?_
                            refine m_iconst C dX10_tells_163 (r32_of rfl) ?_
                            refine m_istore C (L' := [(7, vI 0), (6, vI 5), (5, vI r19), (4, vI 1), (0, vR 51), (1, vI a1), (2, vI a2), (3, vI a3)]) dX10_tells_164 (by rw [hnL]; decide) rfl ?_
                            refine m_iconst C dX10_tells_166 (r32_of rfl) ?_
                            refine m_istore C (L' := [(8, vI 0), (7, vI 0), (6, vI 5), (5, vI r19), (4, vI 1), (0, vR 51), (1, vI a1), (2, vI a2), (3, vI a3)]) dX10_tells_167 (by rw [hnL]; decide) rfl ?_
                            exact m_sub [5, 6, 7, 8, 4, 3, 2, 1, 0] rfl h
                        · have h := h.1 e
                          refine m_aload_n C 2 dX10_tells_137 rfl rfl ?_
                          refine m_getI C (k := 3) cl_X10 (by decide) so_51 rfl fl_X10_73 dX10_tells_138 ?_
                          refine m_iconst C dX10_tells_141 (r32_of rfl) ?_
                          refine m_isub C dX10_tells_142 ?_
                          refine m_goto C (tgt := 161) dX10_tells_143 (by decide) ?_
                          refine m_istore C (L' := [(6, vI (w32 ((M20 51 3) - 1))), (5, vI r19), (4, vI 1), (0, vR 51), (1, vI a1), (2, vI a2), (3, vI a3)]) dX10_tells_161 (by rw [hnL]; decide) rfl ?_
                          refine m_iconst C dX10_tells_163 (r32_of rfl) ?_
                          refine m_istore C (L' := [(7, vI 0), (6, vI (w32 ((M20 51 3) - 1))), (5, vI r19), (4, vI 1), (0, vR 51), (1, vI a1), (2, vI a2), (3, vI a3)]) dX10_tells_164 (by rw [hnL]; decide) rfl ?_
                          refine m_iconst C dX10_tells_166 (r32_of rfl) ?_
                          refine m_istore C (L' := [(8, vI 0), (7, vI 0), (6, vI (w32 ((M20 51 3) - 1))), (5, vI r19), (4, vI 1), (0, vR 51), (1, vI a1), (2, vI a2), (3, vI a3)]) dX10_tells_167 (by rw [hnL]; decide) rfl ?_
                          exact m_sub [5, 6, 7, 8, 4, 3, 2, 1, 0] rfl h
                      · have h := h.1 e
                        refine m_aload_n C 1 dX10_tells_114 rfl rfl ?_
                        refine m_getI C (k := 4) cl_X10 (by decide) so_51 rfl fl_X10_104 dX10_tells_115 ?_
                        refine m_goto C (tgt := 128) dX10_tells_118 (by decide) ?_
                        refine m_istore C (L' := [(5, vI (M12 51 4)), (4, vI 1), (0, vR 51), (1, vI a1), (2, vI a2), (3, vI a3)]) dX10_tells_128 (by rw [hnL]; decide) rfl ?_
                        refine m_iload C 1 dX10_tells_130 rfl ?_
                        refine m_bipush C dX10_tells_132 (r32_of rfl) (by decide) ?_
                        refine m_icmp_ne C (tgt := 146) dX10_tells_134 (by decide) (fun e => ?_) (fun e => ?_)
                        · have h := h.2 e
                          refine m_iload C 1 dX10_tells_146 rfl ?_
                          refine m_iconst C dX10_tells_148 (r32_of rfl) ?_
                          refine m_icmp_ne C (tgt := 156) dX10_tells_149 (by decide) (fun e => ?_) (fun e => ?_)
                          · have h := h.2 e
                            refine m_iload C 1 dX10_tells_156 rfl ?_
                            refine m_callSi C (as := [vI 1]) (rest := []) ok_X10_mostOf ml_X10_89 rfl rfl (Nat.le_of_ble_eq_true rfl) (fun _ => rfl) dX10_tells_158 (Con.mono h (fun r23 M24 _ _ h => ?_))
                            refine m_istore C (L' := [(6, vI r23), (5, vI (M12 51 4)), (4, vI 1), (0, vR 51), (1, vI a1), (2, vI a2), (3, vI a3)]) dX10_tells_161 (by rw [hnL]; decide) rfl ?_
                            refine m_iconst C dX10_tells_163 (r32_of rfl) ?_
                            refine m_istore C (L' := [(7, vI 0), (6, vI r23), (5, vI (M12 51 4)), (4, vI 1), (0, vR 51), (1, vI a1), (2, vI a2), (3, vI a3)]) dX10_tells_164 (by rw [hnL]; decide) rfl ?_
                            refine m_iconst C dX10_tells_166 (r32_of rfl) ?_
                            refine m_istore C (L' := [(8, vI 0), (7, vI 0), (6, vI r23), (5, vI (M12 51 4)), (4, vI 1), (0, vR 51), (1, vI a1), (2, vI a2), (3, vI a3)]) dX10_tells_167 (by rw [hnL]; decide) rfl ?_
                            exact m_sub [5, 6, 7, 8, 4, 3, 2, 1, 0] rfl h
                          · have h := h.1 e
                            refine m_iconst C dX10_tells_152 (r32_of rfl) ?_
                            refine m_goto C (tgt := 161) dX10_tells_153 (by decide) ?_
                            refine m_istore C (L' := [(6, vI 5), (5, vI (M12 51 4)), (4, vI 1), (0, vR 51), (1, vI a1), (2, vI a2), (3, vI a3)]) dX10_tells_161 (by rw [hnL]; decide) rfl ?_
                            refine m_iconst C dX10_tells_163 (r32_of rfl) ?_
                            refine m_istore C (L' := [(7, vI 0), (6, vI 5), (5, vI (M12 51 4)), (4, vI 1), (0, vR 51), (1, vI a1), (2, vI a2), (3, vI a3)]) dX10_tells_164 (by rw [hnL]; decide) rfl ?_
                            refine m_iconst C dX10_tells_166 (r32_of rfl) ?_
                            refine m_istore C (L' := [(8, vI 0), (7, vI 0), (6, vI 5), (5, vI (M12 51 4)), (4, vI 1), (0, vR 51), (1, vI a1), (2, vI a2), (3, vI a3)]) dX10_tells_167 (by rw [hnL]; decide) rfl ?_
                            exact m_sub [5, 6, 7, 8, 4, 3, 2, 1, 0] rfl h
                        · have h := h.1 e
                          refine m_aload_n C 2 dX10_tells_137 rfl rfl ?_
                          refine m_getI C (k := 3) cl_X10 (by decide) so_51 rfl fl_X10_73 dX10_tells_138 ?_
                          refine m_iconst C dX10_tells_141 (r32_of rfl) ?_
                          refine m_isub C dX10_tells_142 ?_
                          refine m_goto C (tgt := 161) dX10_tells_143 (by decide) ?_
                          refine m_istore C (L' := [(6, vI (w32 ((M12 51 3) - 1))), (5, vI (M12 51 4)), (4, vI 1), (0, vR 51), (1, vI a1), (2, vI a2), (3, vI a3)]) dX10_tells_161 (by rw [hnL]; decide) rfl ?_
                          refine m_iconst C dX10_tells_163 (r32_of rfl) ?_
                          refine m_istore C (L' := [(7, vI 0), (6, vI (w32 ((M12 51 3) - 1))), (5, vI (M12 51 4)), (4, vI 1), (0, vR 51), (1, vI a1), (2, vI a2), (3, vI a3)]) dX10_tells_164 (by rw [hnL]; decide) rfl ?_
                          refine m_iconst C dX10_tells_166 (r32_of rfl) ?_
                          refine m_istore C (L' := [(8, vI 0), (7, vI 0), (6, vI (w32 ((M12 51 3) - 1))), (5, vI (M12 51 4)), (4, vI 1), (0, vR 51), (1, vI a1), (2, vI a2), (3, vI a3)]) dX10_tells_167 (by rw [hnL]; decide) rfl ?_
                          exact m_sub [5, 6, 7, 8, 4, 3, 2, 1, 0] rfl h
                  · have h := h.1 e
                    refine m_iconst C dX10_tells_90 (r32_of rfl) ?_
                    refine m_goto C (tgt := 105) dX10_tells_91 (by decide) ?_
                    refine m_istore C (L' := [(4, vI 3), (0, vR 51), (1, vI a1), (2, vI a2), (3, vI a3)]) dX10_tells_105 (by rw [hnL]; decide) rfl ?_
                    refine m_iload C 0 dX10_tells_107 rfl ?_
                    refine m_bipush C dX10_tells_109 (r32_of rfl) (by decide) ?_
                    refine m_icmp_ne C (tgt := 121) dX10_tells_111 (by decide) (fun e => ?_) (fun e => ?_)
                    · have h := h.2 e
                      refine m_aload_n C 1 dX10_tells_121 rfl rfl ?_
                      refine m_iload_n C 3 dX10_tells_122 rfl rfl ?_
                      refine m_iload C 0 dX10_tells_123 rfl ?_
                      refine m_callVi C (as := [vI a2, vI 3]) (rest := []) ok_X10_told ml_X10_93 so_51 rfl rfl rfl (Nat.le_of_ble_eq_true rfl) (fun _ => rfl) dX10_tells_125 (Con.mono h (fun r25 M26 _ _ h => ?_))
                      refine m_istore C (L' := [(5, vI r25), (4, vI 3), (0, vR 51), (1, vI a1), (2, vI a2), (3, vI a3)]) dX10_tells_128 (by rw [hnL]; decide) rfl ?_
                      refine m_iload C 1 dX10_tells_130 rfl ?_
                      refine m_bipush C dX10_tells_132 (r32_of rfl) (by decide) ?_
                      refine m_icmp_ne C (tgt := 146) dX10_tells_134 (by decide) (fun e => ?_) (fun e => ?_)
                      · have h := h.2 e
                        refine m_iload C 1 dX10_tells_146 rfl ?_
                        refine m_iconst C dX10_tells_148 (r32_of rfl) ?_
                        refine m_icmp_ne C (tgt := 156) dX10_tells_149 (by decide) (fun e => ?_) (fun e => ?_)
                        · have h := h.2 e
                          refine m_iload C 1 dX10_tells_156 rfl ?_
                          refine m_callSi C (as := [vI 3]) (rest := []) ok_X10_mostOf ml_X10_89 rfl rfl (Nat.le_of_ble_eq_true rfl) (fun _ => rfl) dX10_tells_158 (Con.mono h (fun r27 M28 _ _ h => ?_))
                          refine m_istore C (L' := [(6, vI r27), (5, vI r25), (4, vI 3), (0, vR 51), (1, vI a1), (2, vI a2), (3, vI a3)]) dX10_tells_161 (by rw [hnL]; decide) rfl ?_
                          refine m_iconst C dX10_tells_163 (r32_of rfl) ?_
                          refine m_istore C (L' := [(7, vI 0), (6, vI r27), (5, vI r25), (4, vI 3), (0, vR 51), (1, vI a1), (2, vI a2), (3, vI a3)]) dX10_tells_164 (by rw [hnL]; decide) rfl ?_
                          refine m_iconst C dX10_tells_166 (r32_of rfl) ?_
                          refine m_istore C (L' := [(8, vI 0), (7, vI 0), (6, vI r27), (5, vI r25), (4, vI 3), (0, vR 51), (1, vI a1), (2, vI a2), (3, vI a3)]) dX10_tells_167 (by rw [hnL]; decide) rfl ?_
                          exact m_sub [5, 6, 7, 8, 4, 3, 2, 1, 0] rfl h
                        · have h := h.1 e
                          refine m_iconst C dX10_tells_152 (r32_of rfl) ?_
                          refine m_goto C (tgt := 161) dX10_tells_153 (by decide) ?_
                          refine m_istore C (L' := [(6, vI 5), (5, vI r25), (4, vI 3), (0, vR 51), (1, vI a1), (2, vI a2), (3, vI a3)]) dX10_tells_161 (by rw [hnL]; decide) rfl ?_
                          refine m_iconst C dX10_tells_163 (r32_of rfl) ?_
                          refine m_istore C (L' := [(7, vI 0), (6, vI 5), (5, vI r25), (4, vI 3), (0, vR 51), (1, vI a1), (2, vI a2), (3, vI a3)]) dX10_tells_164 (by rw [hnL]; decide) rfl ?_
                          refine m_iconst C dX10_tells_166 (r32_of rfl) ?_
                          refine m_istore C (L' := [(8, vI 0), (7, vI 0), (6, vI 5), (5, vI r25), (4, vI 3), (0, vR 51), (1, vI a1), (2, vI a2), (3, vI a3)]) dX10_tells_167 (by rw [hnL]; decide) rfl ?_
                          exact m_sub [5, 6, 7, 8, 4, 3, 2, 1, 0] rfl h
                      · have h := h.1 e
                        refine m_aload_n C 2 dX10_tells_137 rfl rfl ?_
                        refine m_getI C (k := 3) cl_X10 (by decide) so_51 rfl fl_X10_73 dX10_tells_138 ?_
                        refine m_iconst C dX10_tells_141 (r32_of rfl) ?_
                        refine m_isub C dX10_tells_142 ?_
                        refine m_goto C (tgt := 161) dX10_tells_143 (by decide) ?_
                        refine m_istore C (L' := [(6, vI (w32 ((M26 51 3) - 1))), (5, vI r25), (4, vI 3), (0, vR 51), (1, vI a1), (2, vI a2), (3, vI a3)]) dX10_tells_161 (by rw [hnL]; decide) rfl ?_
                        refine m_iconst C dX10_tells_163 (r32_of rfl) ?_
                        refine m_istore C (L' := [(7, vI 0), (6, vI (w32 ((M26 51 3) - 1))), (5, vI r25), (4, vI 3), (0, vR 51), (1, vI a1), (2, vI a2), (3, vI a3)]) dX10_tells_164 (by rw [hnL]; decide) rfl ?_
                        refine m_iconst C dX10_tells_166 (r32_of rfl) ?_
                        refine m_istore C (L' := [(8, vI 0), (7, vI 0), (6, vI (w32 ((M26 51 3) - 1))), (5, vI r25), (4, vI 3), (0, vR 51), (1, vI a1), (2, vI a2), (3, vI a3)]) dX10_tells_167 (by rw [hnL]; decide) rfl ?_
                        exact m_sub [5, 6, 7, 8, 4, 3, 2, 1, 0] rfl h
                    · have h := h.1 e
                      refine m_aload_n C 1 dX10_tells_114 rfl rfl ?_
                      refine m_getI C (k := 4) cl_X10 (by decide) so_51 rfl fl_X10_104 dX10_tells_115 ?_
                      refine m_goto C (tgt := 128) dX10_tells_118 (by decide) ?_
                      refine m_istore C (L' := [(5, vI (M12 51 4)), (4, vI 3), (0, vR 51), (1, vI a1), (2, vI a2), (3, vI a3)]) dX10_tells_128 (by rw [hnL]; decide) rfl ?_
                      refine m_iload C 1 dX10_tells_130 rfl ?_
                      refine m_bipush C dX10_tells_132 (r32_of rfl) (by decide) ?_
                      refine m_icmp_ne C (tgt := 146) dX10_tells_134 (by decide) (fun e => ?_) (fun e => ?_)
                      · have h := h.2 e
                        refine m_iload C 1 dX10_tells_146 rfl ?_
                        refine m_iconst C dX10_tells_148 (r32_of rfl) ?_
                        refine m_icmp_ne C (tgt := 156) dX10_tells_149 (by decide) (fun e => ?_) (fun e => ?_)
                        · have h := h.2 e
                          refine m_iload C 1 dX10_tells_156 rfl ?_
                          refine m_callSi C (as := [vI 3]) (rest := []) ok_X10_mostOf ml_X10_89 rfl rfl (Nat.le_of_ble_eq_true rfl) (fun _ => rfl) dX10_tells_158 (Con.mono h (fun r29 M30 _ _ h => ?_))
                          refine m_istore C (L' := [(6, vI r29), (5, vI (M12 51 4)), (4, vI 3), (0, vR 51), (1, vI a1), (2, vI a2), (3, vI a3)]) dX10_tells_161 (by rw [hnL]; decide) rfl ?_
                          refine m_iconst C dX10_tells_163 (r32_of rfl) ?_
                          refine m_istore C (L' := [(7, vI 0), (6, vI r29), (5, vI (M12 51 4)), (4, vI 3), (0, vR 51), (1, vI a1), (2, vI a2), (3, vI a3)]) dX10_tells_164 (by rw [hnL]; decide) rfl ?_
                          refine m_iconst C dX10_tells_166 (r32_of rfl) ?_
                          refine m_istore C (L' := [(8, vI 0), (7, vI 0), (6, vI r29), (5, vI (M12 51 4)), (4, vI 3), (0, vR 51), (1, vI a1), (2, vI a2), (3, vI a3)]) dX10_tells_167 (by rw [hnL]; decide) rfl ?_
                          exact m_sub [5, 6, 7, 8, 4, 3, 2, 1, 0] rfl h
                        · have h := h.1 e
                          refine m_iconst C dX10_tells_152 (r32_of rfl) ?_
                          refine m_goto C (tgt := 161) dX10_tells_153 (by decide) ?_
                          refine m_istore C (L' := [(6, vI 5), (5, vI (M12 51 4)), (4, vI 3), (0, vR 51), (1, vI a1), (2, vI a2), (3, vI a3)]) dX10_tells_161 (by rw [hnL]; decide) rfl ?_
                          refine m_iconst C dX10_tells_163 (r32_of rfl) ?_
                          refine m_istore C (L' := [(7, vI 0), (6, vI 5), (5, vI (M12 51 4)), (4, vI 3), (0, vR 51), (1, vI a1), (2, vI a2), (3, vI a3)]) dX10_tells_164 (by rw [hnL]; decide) rfl ?_
                          refine m_iconst C dX10_tells_166 (r32_of rfl) ?_
                          refine m_istore C (L' := [(8, vI 0), (7, vI 0), (6, vI 5), (5, vI (M12 51 4)), (4, vI 3), (0, vR 51), (1, vI a1), (2, vI a2), (3, vI a3)]) dX10_tells_167 (by rw [hnL]; decide) rfl ?_
                          exact m_sub [5, 6, 7, 8, 4, 3, 2, 1, 0] rfl h
                      · have h := h.1 e
                        refine m_aload_n C 2 dX10_tells_137 rfl rfl ?_
                        refine m_getI C (k := 3) cl_X10 (by decide) so_51 rfl fl_X10_73 dX10_tells_138 ?_
                        refine m_iconst C dX10_tells_141 (r32_of rfl) ?_
                        refine m_isub C dX10_tells_142 ?_
                        refine m_goto C (tgt := 161) dX10_tells_143 (by decide) ?_
                        refine m_istore C (L' := [(6, vI (w32 ((M12 51 3) - 1))), (5, vI (M12 51 4)), (4, vI 3), (0, vR 51), (1, vI a1), (2, vI a2), (3, vI a3)]) dX10_tells_161 (by rw [hnL]; decide) rfl ?_
                        refine m_iconst C dX10_tells_163 (r32_of rfl) ?_
                        refine m_istore C (L' := [(7, vI 0), (6, vI (w32 ((M12 51 3) - 1))), (5, vI (M12 51 4)), (4, vI 3), (0, vR 51), (1, vI a1), (2, vI a2), (3, vI a3)]) dX10_tells_164 (by rw [hnL]; decide) rfl ?_
                        refine m_iconst C dX10_tells_166 (r32_of rfl) ?_
                        refine m_istore C (L' := [(8, vI 0), (7, vI 0), (6, vI (w32 ((M12 51 3) - 1))), (5, vI (M12 51 4)), (4, vI 3), (0, vR 51), (1, vI a1), (2, vI a2), (3, vI a3)]) dX10_tells_167 (by rw [hnL]; decide) rfl ?_
                        exact m_sub [5, 6, 7, 8, 4, 3, 2, 1, 0] rfl h
                · have h := h.1 e
                  refine m_iconst C dX10_tells_81 (r32_of rfl) ?_
                  refine m_goto C (tgt := 105) dX10_tells_82 (by decide) ?_
                  refine m_istore C (L' := [(4, vI 2), (0, vR 51), (1, vI a1), (2, vI a2), (3, vI a3)]) dX10_tells_105 (by rw [hnL]; decide) rfl ?_
                  refine m_iload C 0 dX10_tells_107 rfl ?_
                  refine m_bipush C dX10_tells_109 (r32_of rfl) (by decide) ?_
                  refine m_icmp_ne C (tgt := 121) dX10_tells_111 (by decide) (fun e => ?_) (fun e => ?_)
                  · have h := h.2 e
                    refine m_aload_n C 1 dX10_tells_121 rfl rfl ?_
                    refine m_iload_n C 3 dX10_tells_122 rfl rfl ?_
                    refine m_iload C 0 dX10_tells_123 rfl ?_
                    refine m_callVi C (as := [vI a2, vI 2]) (rest := []) ok_X10_told ml_X10_93 so_51 rfl rfl rfl (Nat.le_of_ble_eq_true rfl) (fun _ => rfl) dX10_tells_125 (Con.mono h (fun r31 M32 _ _ h => ?_))
                    refine m_istore C (L' := [(5, vI r31), (4, vI 2), (0, vR 51), (1, vI a1), (2, vI a2), (3, vI a3)]) dX10_tells_128 (by rw [hnL]; decide) rfl ?_
                    refine m_iload C 1 dX10_tells_130 rfl ?_
                    refine m_bipush C dX10_tells_132 (r32_of rfl) (by decide) ?_
                    refine m_icmp_ne C (tgt := 146) dX10_tells_134 (by decide) (fun e => ?_) (fun e => ?_)
                    · have h := h.2 e
                      refine m_iload C 1 dX10_tells_146 rfl ?_
                      refine m_iconst C dX10_tells_148 (r32_of rfl) ?_
                      refine m_icmp_ne C (tgt := 156) dX10_tells_149 (by decide) (fun e => ?_) (fun e => ?_)
                      · have h := h.2 e
                        refine m_iload C 1 dX10_tells_156 rfl ?_
                        refine m_callSi C (as := [vI 2]) (rest := []) ok_X10_mostOf ml_X10_89 rfl rfl (Nat.le_of_ble_eq_true rfl) (fun _ => rfl) dX10_tells_158 (Con.mono h (fun r33 M34 _ _ h => ?_))
                        refine m_istore C (L' := [(6, vI r33), (5, vI r31), (4, vI 2), (0, vR 51), (1, vI a1), (2, vI a2), (3, vI a3)]) dX10_tells_161 (by rw [hnL]; decide) rfl ?_
                        refine m_iconst C dX10_tells_163 (r32_of rfl) ?_
                        refine m_istore C (L' := [(7, vI 0), (6, vI r33), (5, vI r31), (4, vI 2), (0, vR 51), (1, vI a1), (2, vI a2), (3, vI a3)]) dX10_tells_164 (by rw [hnL]; decide) rfl ?_
                        refine m_iconst C dX10_tells_166 (r32_of rfl) ?_
                        refine m_istore C (L' := [(8, vI 0), (7, vI 0), (6, vI r33), (5, vI r31), (4, vI 2), (0, vR 51), (1, vI a1), (2, vI a2), (3, vI a3)]) dX10_tells_167 (by rw [hnL]; decide) rfl ?_
                        exact m_sub [5, 6, 7, 8, 4, 3, 2, 1, 0] rfl h
                      · have h := h.1 e
                        refine m_iconst C dX10_tells_152 (r32_of rfl) ?_
                        refine m_goto C (tgt := 161) dX10_tells_153 (by decide) ?_
                        refine m_istore C (L' := [(6, vI 5), (5, vI r31), (4, vI 2), (0, vR 51), (1, vI a1), (2, vI a2), (3, vI a3)]) dX10_tells_161 (by rw [hnL]; decide) rfl ?_
                        refine m_iconst C dX10_tells_163 (r32_of rfl) ?_
                        refine m_istore C (L' := [(7, vI 0), (6, vI 5), (5, vI r31), (4, vI 2), (0, vR 51), (1, vI a1), (2, vI a2), (3, vI a3)]) dX10_tells_164 (by rw [hnL]; decide) rfl ?_
                        refine m_iconst C dX10_tells_166 (r32_of rfl) ?_
                        refine m_istore C (L' := [(8, vI 0), (7, vI 0), (6, vI 5), (5, vI r31), (4, vI 2), (0, vR 51), (1, vI a1), (2, vI a2), (3, vI a3)]) dX10_tells_167 (by rw [hnL]; decide) rfl ?_
                        exact m_sub [5, 6, 7, 8, 4, 3, 2, 1, 0] rfl h
                    · have h := h.1 e
                      refine m_aload_n C 2 dX10_tells_137 rfl rfl ?_
                      refine m_getI C (k := 3) cl_X10 (by decide) so_51 rfl fl_X10_73 dX10_tells_138 ?_
                      refine m_iconst C dX10_tells_141 (r32_of rfl) ?_
                      refine m_isub C dX10_tells_142 ?_
                      refine m_goto C (tgt := 161) dX10_tells_143 (by decide) ?_
                      refine m_istore C (L' := [(6, vI (w32 ((M32 51 3) - 1))), (5, vI r31), (4, vI 2), (0, vR 51), (1, vI a1), (2, vI a2), (3, vI a3)]) dX10_tells_161 (by rw [hnL]; decide) rfl ?_
                      refine m_iconst C dX10_tells_163 (r32_of rfl) ?_
                      refine m_istore C (L' := [(7, vI 0), (6, vI (w32 ((M32 51 3) - 1))), (5, vI r31), (4, vI 2), (0, vR 51), (1, vI a1), (2, vI a2), (3, vI a3)]) dX10_tells_164 (by rw [hnL]; decide) rfl ?_
                      refine m_iconst C dX10_tells_166 (r32_of rfl) ?_
                      refine m_istore C (L' := [(8, vI 0), (7, vI 0), (6, vI (w32 ((M32 51 3) - 1))), (5, vI r31), (4, vI 2), (0, vR 51), (1, vI a1), (2, vI a2), (3, vI a3)]) dX10_tells_167 (by rw [hnL]; decide) rfl ?_
                      exact m_sub [5, 6, 7, 8, 4, 3, 2, 1, 0] rfl h
                  · have h := h.1 e
                    refine m_aload_n C 1 dX10_tells_114 rfl rfl ?_
                    refine m_getI C (k := 4) cl_X10 (by decide) so_51 rfl fl_X10_104 dX10_tells_115 ?_
                    refine m_goto C (tgt := 128) dX10_tells_118 (by decide) ?_
                    refine m_istore C (L' := [(5, vI (M12 51 4)), (4, vI 2), (0, vR 51), (1, vI a1), (2, vI a2), (3, vI a3)]) dX10_tells_128 (by rw [hnL]; decide) rfl ?_
                    refine m_iload C 1 dX10_tells_130 rfl ?_
                    refine m_bipush C dX10_tells_132 (r32_of rfl) (by decide) ?_
                    refine m_icmp_ne C (tgt := 146) dX10_tells_134 (by decide) (fun e => ?_) (fun e => ?_)
                    · have h := h.2 e
                      refine m_iload C 1 dX10_tells_146 rfl ?_
                      refine m_iconst C dX10_tells_148 (r32_of rfl) ?_
                      refine m_icmp_ne C (tgt := 156) dX10_tells_149 (by decide) (fun e => ?_) (fun e => ?_)
                      · have h := h.2 e
                        refine m_iload C 1 dX10_tells_156 rfl ?_
                        refine m_callSi C (as := [vI 2]) (rest := []) ok_X10_mostOf ml_X10_89 rfl rfl (Nat.le_of_ble_eq_true rfl) (fun _ => rfl) dX10_tells_158 (Con.mono h (fun r35 M36 _ _ h => ?_))
                        refine m_istore C (L' := [(6, vI r35), (5, vI (M12 51 4)), (4, vI 2), (0, vR 51), (1, vI a1), (2, vI a2), (3, vI a3)]) dX10_tells_161 (by rw [hnL]; decide) rfl ?_
                        refine m_iconst C dX10_tells_163 (r32_of rfl) ?_
                        refine m_istore C (L' := [(7, vI 0), (6, vI r35), (5, vI (M12 51 4)), (4, vI 2), (0, vR 51), (1, vI a1), (2, vI a2), (3, vI a3)]) dX10_tells_164 (by rw [hnL]; decide) rfl ?_
                        refine m_iconst C dX10_tells_166 (r32_of rfl) ?_
                        refine m_istore C (L' := [(8, vI 0), (7, vI 0), (6, vI r35), (5, vI (M12 51 4)), (4, vI 2), (0, vR 51), (1, vI a1), (2, vI a2), (3, vI a3)]) dX10_tells_167 (by rw [hnL]; decide) rfl ?_
                        exact m_sub [5, 6, 7, 8, 4, 3, 2, 1, 0] rfl h
                      · have h := h.1 e
                        refine m_iconst C dX10_tells_152 (r32_of rfl) ?_
                        refine m_goto C (tgt := 161) dX10_tells_153 (by decide) ?_
                        refine m_istore C (L' := [(6, vI 5), (5, vI (M12 51 4)), (4, vI 2), (0, vR 51), (1, vI a1), (2, vI a2), (3, vI a3)]) dX10_tells_161 (by rw [hnL]; decide) rfl ?_
                        refine m_iconst C dX10_tells_163 (r32_of rfl) ?_
                        refine m_istore C (L' := [(7, vI 0), (6, vI 5), (5, vI (M12 51 4)), (4, vI 2), (0, vR 51), (1, vI a1), (2, vI a2), (3, vI a3)]) dX10_tells_164 (by rw [hnL]; decide) rfl ?_
                        refine m_iconst C dX10_tells_166 (r32_of rfl) ?_
                        refine m_istore C (L' := [(8, vI 0), (7, vI 0), (6, vI 5), (5, vI (M12 51 4)), (4, vI 2), (0, vR 51), (1, vI a1), (2, vI a2), (3, vI a3)]) dX10_tells_167 (by rw [hnL]; decide) rfl ?_
                        exact m_sub [5, 6, 7, 8, 4, 3, 2, 1, 0] rfl h
                    · have h := h.1 e
                      refine m_aload_n C 2 dX10_tells_137 rfl rfl ?_
                      refine m_getI C (k := 3) cl_X10 (by decide) so_51 rfl fl_X10_73 dX10_tells_138 ?_
                      refine m_iconst C dX10_tells_141 (r32_of rfl) ?_
                      refine m_isub C dX10_tells_142 ?_
                      refine m_goto C (tgt := 161) dX10_tells_143 (by decide) ?_
                      refine m_istore C (L' := [(6, vI (w32 ((M12 51 3) - 1))), (5, vI (M12 51 4)), (4, vI 2), (0, vR 51), (1, vI a1), (2, vI a2), (3, vI a3)]) dX10_tells_161 (by rw [hnL]; decide) rfl ?_
                      refine m_iconst C dX10_tells_163 (r32_of rfl) ?_
                      refine m_istore C (L' := [(7, vI 0), (6, vI (w32 ((M12 51 3) - 1))), (5, vI (M12 51 4)), (4, vI 2), (0, vR 51), (1, vI a1), (2, vI a2), (3, vI a3)]) dX10_tells_164 (by rw [hnL]; decide) rfl ?_
                      refine m_iconst C dX10_tells_166 (r32_of rfl) ?_
                      refine m_istore C (L' := [(8, vI 0), (7, vI 0), (6, vI (w32 ((M12 51 3) - 1))), (5, vI (M12 51 4)), (4, vI 2), (0, vR 51), (1, vI a1), (2, vI a2), (3, vI a3)]) dX10_tells_167 (by rw [hnL]; decide) rfl ?_
                      exact m_sub [5, 6, 7, 8, 4, 3, 2, 1, 0] rfl h
              · have h := h.1 e
                refine m_iconst C dX10_tells_72 (r32_of rfl) ?_
                refine m_goto C (tgt := 105) dX10_tells_73 (by decide) ?_
                refine m_istore C (L' := [(4, vI 5), (0, vR 51), (1, vI a1), (2, vI a2), (3, vI a3)]) dX10_tells_105 (by rw [hnL]; decide) rfl ?_
                refine m_iload C 0 dX10_tells_107 rfl ?_
                refine m_bipush C dX10_tells_109 (r32_of rfl) (by decide) ?_
                refine m_icmp_ne C (tgt := 121) dX10_tells_111 (by decide) (fun e => ?_) (fun e => ?_)
                · have h := h.2 e
                  refine m_aload_n C 1 dX10_tells_121 rfl rfl ?_
                  refine m_iload_n C 3 dX10_tells_122 rfl rfl ?_
                  refine m_iload C 0 dX10_tells_123 rfl ?_
                  refine m_callVi C (as := [vI a2, vI 5]) (rest := []) ok_X10_told ml_X10_93 so_51 rfl rfl rfl (Nat.le_of_ble_eq_true rfl) (fun _ => rfl) dX10_tells_125 (Con.mono h (fun r37 M38 _ _ h => ?_))
                  refine m_istore C (L' := [(5, vI r37), (4, vI 5), (0, vR 51), (1, vI a1), (2, vI a2), (3, vI a3)]) dX10_tells_128 (by rw [hnL]; decide) rfl ?_
                  refine m_iload C 1 dX10_tells_130 rfl ?_
                  refine m_bipush C dX10_tells_132 (r32_of rfl) (by decide) ?_
                  refine m_icmp_ne C (tgt := 146) dX10_tells_134 (by decide) (fun e => ?_) (fun e => ?_)
                  · have h := h.2 e
                    refine m_iload C 1 dX10_tells_146 rfl ?_
                    refine m_iconst C dX10_tells_148 (r32_of rfl) ?_
                    refine m_icmp_ne C (tgt := 156) dX10_tells_149 (by decide) (fun e => ?_) (fun e => ?_)
                    · have h := h.2 e
                      refine m_iload C 1 dX10_tells_156 rfl ?_
                      refine m_callSi C (as := [vI 5]) (rest := []) ok_X10_mostOf ml_X10_89 rfl rfl (Nat.le_of_ble_eq_true rfl) (fun _ => rfl) dX10_tells_158 (Con.mono h (fun r39 M40 _ _ h => ?_))
                      refine m_istore C (L' := [(6, vI r39), (5, vI r37), (4, vI 5), (0, vR 51), (1, vI a1), (2, vI a2), (3, vI a3)]) dX10_tells_161 (by rw [hnL]; decide) rfl ?_
                      refine m_iconst C dX10_tells_163 (r32_of rfl) ?_
                      refine m_istore C (L' := [(7, vI 0), (6, vI r39), (5, vI r37), (4, vI 5), (0, vR 51), (1, vI a1), (2, vI a2), (3, vI a3)]) dX10_tells_164 (by rw [hnL]; decide) rfl ?_
                      refine m_iconst C dX10_tells_166 (r32_of rfl) ?_
                      refine m_istore C (L' := [(8, vI 0), (7, vI 0), (6, vI r39), (5, vI r37), (4, vI 5), (0, vR 51), (1, vI a1), (2, vI a2), (3, vI a3)]) dX10_tells_167 (by rw [hnL]; decide) rfl ?_
                      exact m_sub [5, 6, 7, 8, 4, 3, 2, 1, 0] rfl h
                    · have h := h.1 e
                      refine m_iconst C dX10_tells_152 (r32_of rfl) ?_
                      refine m_goto C (tgt := 161) dX10_tells_153 (by decide) ?_
                      refine m_istore C (L' := [(6, vI 5), (5, vI r37), (4, vI 5), (0, vR 51), (1, vI a1), (2, vI a2), (3, vI a3)]) dX10_tells_161 (by rw [hnL]; decide) rfl ?_
                      refine m_iconst C dX10_tells_163 (r32_of rfl) ?_
                      refine m_istore C (L' := [(7, vI 0), (6, vI 5), (5, vI r37), (4, vI 5), (0, vR 51), (1, vI a1), (2, vI a2), (3, vI a3)]) dX10_tells_164 (by rw [hnL]; decide) rfl ?_
                      refine m_iconst C dX10_tells_166 (r32_of rfl) ?_
                      refine m_istore C (L' := [(8, vI 0), (7, vI 0), (6, vI 5), (5, vI r37), (4, vI 5), (0, vR 51), (1, vI a1), (2, vI a2), (3, vI a3)]) dX10_tells_167 (by rw [hnL]; decide) rfl ?_
                      exact m_sub [5, 6, 7, 8, 4, 3, 2, 1, 0] rfl h
                  · have h := h.1 e
                    refine m_aload_n C 2 dX10_tells_137 rfl rfl ?_
                    refine m_getI C (k := 3) cl_X10 (by decide) so_51 rfl fl_X10_73 dX10_tells_138 ?_
                    refine m_iconst C dX10_tells_141 (r32_of rfl) ?_
                    refine m_isub C dX10_tells_142 ?_
                    refine m_goto C (tgt := 161) dX10_tells_143 (by decide) ?_
                    refine m_istore C (L' := [(6, vI (w32 ((M38 51 3) - 1))), (5, vI r37), (4, vI 5), (0, vR 51), (1, vI a1), (2, vI a2), (3, vI a3)]) dX10_tells_161 (by rw [hnL]; decide) rfl ?_
                    refine m_iconst C dX10_tells_163 (r32_of rfl) ?_
                    refine m_istore C (L' := [(7, vI 0), (6, vI (w32 ((M38 51 3) - 1))), (5, vI r37), (4, vI 5), (0, vR 51), (1, vI a1), (2, vI a2), (3, vI a3)]) dX10_tells_164 (by rw [hnL]; decide) rfl ?_
                    refine m_iconst C dX10_tells_166 (r32_of rfl) ?_
                    refine m_istore C (L' := [(8, vI 0), (7, vI 0), (6, vI (w32 ((M38 51 3) - 1))), (5, vI r37), (4, vI 5), (0, vR 51), (1, vI a1), (2, vI a2), (3, vI a3)]) dX10_tells_167 (by rw [hnL]; decide) rfl ?_
                    exact m_sub [5, 6, 7, 8, 4, 3, 2, 1, 0] rfl h
                · have h := h.1 e
                  refine m_aload_n C 1 dX10_tells_114 rfl rfl ?_
                  refine m_getI C (k := 4) cl_X10 (by decide) so_51 rfl fl_X10_104 dX10_tells_115 ?_
                  refine m_goto C (tgt := 128) dX10_tells_118 (by decide) ?_
                  refine m_istore C (L' := [(5, vI (M12 51 4)), (4, vI 5), (0, vR 51), (1, vI a1), (2, vI a2), (3, vI a3)]) dX10_tells_128 (by rw [hnL]; decide) rfl ?_
                  refine m_iload C 1 dX10_tells_130 rfl ?_
                  refine m_bipush C dX10_tells_132 (r32_of rfl) (by decide) ?_
                  refine m_icmp_ne C (tgt := 146) dX10_tells_134 (by decide) (fun e => ?_) (fun e => ?_)
                  · have h := h.2 e
                    refine m_iload C 1 dX10_tells_146 rfl ?_
                    refine m_iconst C dX10_tells_148 (r32_of rfl) ?_
                    refine m_icmp_ne C (tgt := 156) dX10_tells_149 (by decide) (fun e => ?_) (fun e => ?_)
                    · have h := h.2 e
                      refine m_iload C 1 dX10_tells_156 rfl ?_
                      refine m_callSi C (as := [vI 5]) (rest := []) ok_X10_mostOf ml_X10_89 rfl rfl (Nat.le_of_ble_eq_true rfl) (fun _ => rfl) dX10_tells_158 (Con.mono h (fun r41 M42 _ _ h => ?_))
                      refine m_istore C (L' := [(6, vI r41), (5, vI (M12 51 4)), (4, vI 5), (0, vR 51), (1, vI a1), (2, vI a2), (3, vI a3)]) dX10_tells_161 (by rw [hnL]; decide) rfl ?_
                      refine m_iconst C dX10_tells_163 (r32_of rfl) ?_
                      refine m_istore C (L' := [(7, vI 0), (6, vI r41), (5, vI (M12 51 4)), (4, vI 5), (0, vR 51), (1, vI a1), (2, vI a2), (3, vI a3)]) dX10_tells_164 (by rw [hnL]; decide) rfl ?_
                      refine m_iconst C dX10_tells_166 (r32_of rfl) ?_
                      refine m_istore C (L' := [(8, vI 0), (7, vI 0), (6, vI r41), (5, vI (M12 51 4)), (4, vI 5), (0, vR 51), (1, vI a1), (2, vI a2), (3, vI a3)]) dX10_tells_167 (by rw [hnL]; decide) rfl ?_
                      exact m_sub [5, 6, 7, 8, 4, 3, 2, 1, 0] rfl h
                    · have h := h.1 e
                      refine m_iconst C dX10_tells_152 (r32_of rfl) ?_
                      refine m_goto C (tgt := 161) dX10_tells_153 (by decide) ?_
                      refine m_istore C (L' := [(6, vI 5), (5, vI (M12 51 4)), (4, vI 5), (0, vR 51), (1, vI a1), (2, vI a2), (3, vI a3)]) dX10_tells_161 (by rw [hnL]; decide) rfl ?_
                      refine m_iconst C dX10_tells_163 (r32_of rfl) ?_
                      refine m_istore C (L' := [(7, vI 0), (6, vI 5), (5, vI (M12 51 4)), (4, vI 5), (0, vR 51), (1, vI a1), (2, vI a2), (3, vI a3)]) dX10_tells_164 (by rw [hnL]; decide) rfl ?_
                      refine m_iconst C dX10_tells_166 (r32_of rfl) ?_
                      refine m_istore C (L' := [(8, vI 0), (7, vI 0), (6, vI 5), (5, vI (M12 51 4)), (4, vI 5), (0, vR 51), (1, vI a1), (2, vI a2), (3, vI a3)]) dX10_tells_167 (by rw [hnL]; decide) rfl ?_
                      exact m_sub [5, 6, 7, 8, 4, 3, 2, 1, 0] rfl h
                  · have h := h.1 e
                    refine m_aload_n C 2 dX10_tells_137 rfl rfl ?_
                    refine m_getI C (k := 3) cl_X10 (by decide) so_51 rfl fl_X10_73 dX10_tells_138 ?_
                    refine m_iconst C dX10_tells_141 (r32_of rfl) ?_
                    refine m_isub C dX10_tells_142 ?_
                    refine m_goto C (tgt := 161) dX10_tells_143 (by decide) ?_
                    refine m_istore C (L' := [(6, vI (w32 ((M12 51 3) - 1))), (5, vI (M12 51 4)), (4, vI 5), (0, vR 51), (1, vI a1), (2, vI a2), (3, vI a3)]) dX10_tells_161 (by rw [hnL]; decide) rfl ?_
                    refine m_iconst C dX10_tells_163 (r32_of rfl) ?_
                    refine m_istore C (L' := [(7, vI 0), (6, vI (w32 ((M12 51 3) - 1))), (5, vI (M12 51 4)), (4, vI 5), (0, vR 51), (1, vI a1), (2, vI a2), (3, vI a3)]) dX10_tells_164 (by rw [hnL]; decide) rfl ?_
                    refine m_iconst C dX10_tells_166 (r32_of rfl) ?_
                    refine m_istore C (L' := [(8, vI 0), (7, vI 0), (6, vI (w32 ((M12 51 3) - 1))), (5, vI (M12 51 4)), (4, vI 5), (0, vR 51), (1, vI a1), (2, vI a2), (3, vI a3)]) dX10_tells_167 (by rw [hnL]; decide) rfl ?_
                    exact m_sub [5, 6, 7, 8, 4, 3, 2, 1, 0] rfl h
            · have h := h.1 e
              refine m_aload_n C 0 dX10_tells_60 rfl rfl ?_
              refine m_iload_n C 1 dX10_tells_61 rfl rfl ?_
              refine m_iload_n C 2 dX10_tells_62 rfl rfl ?_
              refine m_callVi C (as := [vI a1, vI a2]) (rest := []) ok_X10_firstOther ml_X10_322 so_51 rfl rfl rfl (Nat.le_of_ble_eq_true rfl) (fun _ => rfl) dX10_tells_63 (Con.mono h (fun r43 M44 _ _ h => ?_))
              exact m_iret C E (Or.inl rfl) dX10_tells_66 h
          · have h := h.2 e
            refine m_bipush C dX10_tells_53 (r32_of rfl) (by decide) ?_
            exact m_iret C E (Or.inl rfl) dX10_tells_55 h
        · have h := h.1 e
          refine m_bipush C dX10_tells_39 (r32_of rfl) (by decide) ?_
          exact m_iret C E (Or.inl rfl) dX10_tells_41 h
      · have h := h.1 e
        refine m_bipush C dX10_tells_27 (r32_of rfl) (by decide) ?_
        exact m_iret C E (Or.inl rfl) dX10_tells_29 h
def B_X10_film_47 (n : Nat) (a1 : Int) (a2 : Int) (a3 : Int) (x4 : Int) (M : Mem) (Q : Int → Mem → Prop) (K47 : Int → Mem → Prop) : Prop :=
  ((a3 ≤ x4 →
  Q a3 M) ∧ (¬ a3 ≤ x4 →
  ((0 ≤ x4 ∧ x4 < 20) ∧ ((0 ≤ (w32 ((w32 (40 * a1)) + x4)) ∧ (w32 ((w32 (40 * a1)) + x4)) < 160) ∧ (∀ M1 : Mem, M1 = up M 67 (Int.toNat (w32 ((w32 (40 * a1)) + x4))) (M 60 (Int.toNat x4)) →
    K47 (w32 (x4 + 1)) M1)))))
def B_X10_film (n : Nat) (a1 : Int) (a2 : Int) (a3 : Int) (M : Mem) (Q : Int → Mem → Prop) (K47 : Int → Mem → Prop) : Prop :=
  Con n md_X10_isSheet [vI a1] M (fun r2 M3 =>
  ((r2 = 0 →
  Q (-2) M3) ∧ (¬ r2 = 0 →
  Con n md_X10_isFlower [vR 51, vI a2] M3 (fun r4 M5 =>
    ((r4 = 0 →
    Q (-2) M5) ∧ (¬ r4 = 0 →
    Con n md_X10_in [vL a3, vL 0, vL 20] M5 (fun r6 M7 =>
      ((r6 = 0 →
      Q (-2) M7) ∧ (¬ r6 = 0 →
      Con n md_X10_turnsFrom [vR 51, vI a2, vI a3] M7 (fun _ M9 =>
        Con n md_X10_sheet [vR 51, vI a1, vI 0, vI a3] M9 (fun r10 M11 =>
        K47 0 M11)))))))))))
set_option maxHeartbeats 4000000 in
set_option maxRecDepth 20000 in
theorem g_X10_film {n : Nat} {a1 : Int} {a2 : Int} {a3 : Int} {M : Mem} {Q : Int → Mem → Prop}  (h : ∀ (K47 : Int → Mem → Prop), (∀ (x4 : Int) (M : Mem), B_X10_film_47 n a1 a2 a3 x4 M Q K47 → K47 x4 M) → B_X10_film n a1 a2 a3 M Q K47) : Con (n + 1) md_X10_film [vR 51, vI a1, vI a2, vI a3] M Q := by
  refine Con.ofF (n := n + 1) (Nat.succ_pos n) pl_X10_film (Nat.le_of_ble_eq_true rfl) (fun X C E hnL => ?_)
  have C : Cx X cX10_film RX10 n := C
  show WM X 0 [(0, vR 51), (1, vI a1), (2, vI a2), (3, vI a3)] [] M
  have hb47 : ∀ (x4 : Int) (M : Mem), B_X10_film_47 n a1 a2 a3 x4 M Q (fun (x4 : Int) (M : Mem) => WM X 47 [(0, vR 51), (1, vI a1), (2, vI a2), (3, vI a3), (4, vI x4)] [] M) → WM X 47 [(0, vR 51), (1, vI a1), (2, vI a2), (3, vI a3), (4, vI x4)] [] M := by
    intro x4 M h
    unfold B_X10_film_47 at h
    refine m_iload C 4 dX10_film_47 rfl ?_
    refine m_iload_n C 3 dX10_film_49 rfl rfl ?_
    refine m_icmp_ge C (tgt := 78) dX10_film_50 (by decide) (fun e => ?_) (fun e => ?_)
    · have h := h.1 e
      refine m_iload_n C 3 dX10_film_78 rfl rfl ?_
      exact m_iret C E (Or.inl rfl) dX10_film_79 h
    · have h := h.2 e
      refine m_aload_n C 0 dX10_film_53 rfl rfl ?_
      refine m_getR C (k := 45) cl_X10 (by decide) so_51 rfl fl_X10_66 dX10_film_54 ?_
      refine m_bipush C dX10_film_57 (r32_of rfl) (by decide) ?_
      refine m_iload_n C 1 dX10_film_59 rfl rfl ?_
      refine m_imul C dX10_film_60 ?_
      refine m_iload C 4 dX10_film_61 rfl ?_
      refine m_iadd C dX10_film_63 ?_
      refine m_aload_n C 0 dX10_film_64 rfl rfl ?_
      refine m_getR C (k := 33) cl_X10 (by decide) so_51 rfl fl_X10_41 dX10_film_65 ?_
      refine m_iload C 4 dX10_film_68 rfl ?_
      refine m_iald C (N := 20) sa_60 h.1 dX10_film_70 ?_
      have h := h.2
      refine m_iast C (N := 160) sa_67 h.1 dX10_film_71 ?_
      have h := h.2
      generalize eM1 : up M 67 (Int.toNat (w32 ((w32 (40 * a1)) + x4))) (M 60 (Int.toNat x4)) = M1
      have h := h M1 eM1.symm
      refine m_iinc C (L' := [(4, vI (w32 (x4 + 1))), (0, vR 51), (1, vI a1), (2, vI a2), (3, vI a3)]) 4 dX10_film_72 rfl (by rw [hnL]; decide) rfl ?_
      refine m_goto C (tgt := 47) dX10_film_75 (by decide) ?_
      exact m_sub [1, 2, 3, 4, 0] rfl h
  have h := h (fun (x4 : Int) (M : Mem) => WM X 47 [(0, vR 51), (1, vI a1), (2, vI a2), (3, vI a3), (4, vI x4)] [] M) hb47
  unfold B_X10_film at h
  refine m_iload_n C 1 dX10_film_0 rfl rfl ?_
  refine m_callSi C (as := [vI a1]) (rest := []) ok_X10_isSheet ml_X10_310 rfl rfl (Nat.le_of_ble_eq_true rfl) (fun _ => rfl) dX10_film_1 (Con.mono h (fun r2 M3 _ _ h => ?_))
  refine m_if_eq C (tgt := 27) dX10_film_4 (by decide) (fun e => ?_) (fun e => ?_)
  · have h := h.1 e
    refine m_bipush C dX10_film_27 (r32_of rfl) (by decide) ?_
    exact m_iret C E (Or.inl rfl) dX10_film_29 h
  · have h := h.2 e
    refine m_aload_n C 0 dX10_film_7 rfl rfl ?_
    refine m_iload_n C 2 dX10_film_8 rfl rfl ?_
    refine m_callVi C (as := [vI a2]) (rest := []) ok_X10_isFlower ml_X10_85 so_51 rfl rfl rfl (Nat.le_of_ble_eq_true rfl) (fun _ => rfl) dX10_film_9 (Con.mono h (fun r4 M5 _ _ h => ?_))
    refine m_if_eq C (tgt := 27) dX10_film_12 (by decide) (fun e => ?_) (fun e => ?_)
    · have h := h.1 e
      refine m_bipush C dX10_film_27 (r32_of rfl) (by decide) ?_
      exact m_iret C E (Or.inl rfl) dX10_film_29 h
    · have h := h.2 e
      refine m_iload_n C 3 dX10_film_15 rfl rfl ?_
      refine m_i2l C dX10_film_16 ?_
      refine m_lconst C (x := 0) dX10_film_17 (by decide) (r64_of rfl) ?_
      refine m_ldc2 C (v := 20) dX10_film_18 kc_X10_325 (r64_of rfl) ?_
      refine m_callSi C (as := [vL a3, vL 0, vL 20]) (rest := []) ok_X10_in ml_X10_79 rfl rfl (Nat.le_of_ble_eq_true rfl) (fun _ => rfl) dX10_film_21 (Con.mono h (fun r6 M7 _ _ h => ?_))
      refine m_if_ne C (tgt := 30) dX10_film_24 (by decide) (fun e => ?_) (fun e => ?_)
      · have h := h.2 e
        refine m_aload_n C 0 dX10_film_30 rfl rfl ?_
        refine m_iload_n C 2 dX10_film_31 rfl rfl ?_
        refine m_iload_n C 3 dX10_film_32 rfl rfl ?_
        refine m_callVv C (as := [vI a2, vI a3]) (rest := []) ok_X10_turnsFrom ml_X10_318 so_51 rfl rfl rfl (Nat.le_of_ble_eq_true rfl) (fun _ => rfl) dX10_film_33 (Con.mono h (fun _ M9 _ _ h => ?_))
        refine m_aload_n C 0 dX10_film_36 rfl rfl ?_
        refine m_iload_n C 1 dX10_film_37 rfl rfl ?_
        refine m_iconst C dX10_film_38 (r32_of rfl) ?_
        refine m_iload_n C 3 dX10_film_39 rfl rfl ?_
        refine m_callVi C (as := [vI a1, vI 0, vI a3]) (rest := []) ok_X10_sheet ml_X10_327 so_51 rfl rfl rfl (Nat.le_of_ble_eq_true rfl) (fun _ => rfl) dX10_film_40 (Con.mono h (fun r10 M11 _ _ h => ?_))
        refine m_popI C dX10_film_43 ?_
        refine m_iconst C dX10_film_44 (r32_of rfl) ?_
        refine m_istore C (L' := [(4, vI 0), (0, vR 51), (1, vI a1), (2, vI a2), (3, vI a3)]) dX10_film_45 (by rw [hnL]; decide) rfl ?_
        exact m_sub [1, 2, 3, 4, 0] rfl h
      · have h := h.1 e
        refine m_bipush C dX10_film_27 (r32_of rfl) (by decide) ?_
        exact m_iret C E (Or.inl rfl) dX10_film_29 h
def B_X10_draws_8 (n : Nat) (a1 : Int) (a2 : Int) (x3 : Int) (x4 : Int) (x5 : Int) (M : Mem) (Q : Int → Mem → Prop) (K8 : Int → Int → Int → Mem → Prop) (K69 : Int → Int → Int → Int → Mem → Prop) : Prop :=
  ((a2 ≤ x5 →
  Con n md_X10_touching [vR 51, vI (-1)] M (fun r1 M2 =>
    K69 x3 x4 r1 0 M2)) ∧ (¬ a2 ≤ x5 →
  ((M 51 11) ≠ 0 ∧ Con n md_X10_canLay [vR 51, vI (Int.tmod (us_r (w32 ((w32 (x3 * 1103515245)) + 12345)) 9) (M 51 11))] M (fun r3 M4 =>
    ((r3 = 0 →
    K8 (w32 ((w32 (x3 * 1103515245)) + 12345)) x4 (w32 (x5 + 1)) M4) ∧ (¬ r3 = 0 →
    Con n md_X10_puts [vR 51, vI (Int.tmod (us_r (w32 ((w32 (x3 * 1103515245)) + 12345)) 9) (M 51 11))] M4 (fun _ M6 =>
      K8 (w32 ((w32 (x3 * 1103515245)) + 12345)) (w32 (x4 + 1)) (w32 (x5 + 1)) M6)))))))
def B_X10_draws_69 (n : Nat) (a1 : Int) (a2 : Int) (x3 : Int) (x4 : Int) (x5 : Int) (x6 : Int) (M : Mem) (Q : Int → Mem → Prop) (K8 : Int → Int → Int → Mem → Prop) (K69 : Int → Int → Int → Int → Mem → Prop) : Prop :=
  ((x4 ≤ x6 →
  Q x5 M) ∧ (¬ x4 ≤ x6 →
  Con n md_X10_takesOff [vR 51] M (fun _ M8 =>
    K69 x3 x4 x5 (w32 (x6 + 1)) M8)))
def B_X10_draws (n : Nat) (a1 : Int) (a2 : Int) (M : Mem) (Q : Int → Mem → Prop) (K8 : Int → Int → Int → Mem → Prop) (K69 : Int → Int → Int → Int → Mem → Prop) : Prop :=
  K8 a1 0 0 M
set_option maxHeartbeats 4000000 in
set_option maxRecDepth 20000 in
theorem g_X10_draws {n : Nat} {a1 : Int} {a2 : Int} {M : Mem} {Q : Int → Mem → Prop}  (h : ∀ (K8 : Int → Int → Int → Mem → Prop) (K69 : Int → Int → Int → Int → Mem → Prop), (∀ (x3 : Int) (x4 : Int) (x5 : Int) (M : Mem), B_X10_draws_8 n a1 a2 x3 x4 x5 M Q K8 K69 → K8 x3 x4 x5 M) → (∀ (x3 : Int) (x4 : Int) (x5 : Int) (x6 : Int) (M : Mem), B_X10_draws_69 n a1 a2 x3 x4 x5 x6 M Q K8 K69 → K69 x3 x4 x5 x6 M) → B_X10_draws n a1 a2 M Q K8 K69) : Con (n + 1) md_X10_draws [vR 51, vI a1, vI a2] M Q := by
  refine Con.ofF (n := n + 1) (Nat.succ_pos n) pl_X10_draws (Nat.le_of_ble_eq_true rfl) (fun X C E hnL => ?_)
  have C : Cx X cX10_draws RX10 n := C
  show WM X 0 [(0, vR 51), (1, vI a1), (2, vI a2)] [] M
  have hb8 : ∀ (x3 : Int) (x4 : Int) (x5 : Int) (M : Mem), B_X10_draws_8 n a1 a2 x3 x4 x5 M Q (fun (x3 : Int) (x4 : Int) (x5 : Int) (M : Mem) => WM X 8 [(0, vR 51), (1, vI a1), (2, vI a2), (3, vI x3), (4, vI x4), (5, vI x5)] [] M) (fun (x3 : Int) (x4 : Int) (x5 : Int) (x6 : Int) (M : Mem) => WM X 69 [(0, vR 51), (1, vI a1), (2, vI a2), (3, vI x3), (4, vI x4), (5, vI x5), (6, vI x6)] [] M) → WM X 8 [(0, vR 51), (1, vI a1), (2, vI a2), (3, vI x3), (4, vI x4), (5, vI x5)] [] M := by
    intro x3 x4 x5 M h
    unfold B_X10_draws_8 at h
    refine m_iload C 5 dX10_draws_8 rfl ?_
    refine m_iload_n C 2 dX10_draws_10 rfl rfl ?_
    refine m_icmp_ge C (tgt := 59) dX10_draws_11 (by decide) (fun e => ?_) (fun e => ?_)
    · have h := h.1 e
      refine m_aload_n C 0 dX10_draws_59 rfl rfl ?_
      refine m_iconst C dX10_draws_60 (r32_of rfl) ?_
      refine m_callVi C (as := [vI (-1)]) (rest := []) ok_X10_touching ml_X10_279 so_51 rfl rfl rfl (Nat.le_of_ble_eq_true rfl) (fun _ => rfl) dX10_draws_61 (Con.mono h (fun r1 M2 _ _ h => ?_))
      refine m_istore C (L' := [(5, vI r1), (0, vR 51), (1, vI a1), (2, vI a2), (3, vI x3), (4, vI x4)]) dX10_draws_64 (by rw [hnL]; decide) rfl ?_
      refine m_iconst C dX10_draws_66 (r32_of rfl) ?_
      refine m_istore C (L' := [(6, vI 0), (5, vI r1), (0, vR 51), (1, vI a1), (2, vI a2), (3, vI x3), (4, vI x4)]) dX10_draws_67 (by rw [hnL]; decide) rfl ?_
      exact m_sub [2, 3, 4, 5, 6, 1, 0] rfl h
    · have h := h.2 e
      refine m_iload_n C 3 dX10_draws_14 rfl rfl ?_
      refine m_ldc_w C (v := 1103515245) dX10_draws_15 kc_X10_330 (r32_of rfl) ?_
      refine m_imul C dX10_draws_18 ?_
      refine m_sipush C dX10_draws_19 (r32_of rfl) (by decide) ?_
      refine m_iadd C dX10_draws_22 ?_
      refine m_istore_n C (L' := [(3, vI (w32 ((w32 (x3 * 1103515245)) + 12345))), (0, vR 51), (1, vI a1), (2, vI a2), (4, vI x4), (5, vI x5)]) dX10_draws_23 rfl (by rw [hnL]; decide) rfl ?_
      refine m_iload_n C 0 dX10_draws_24 rfl rfl ?_
      refine m_bipush C dX10_draws_25 (r32_of rfl) (by decide) ?_
      refine m_iushr C dX10_draws_27 ?_
      refine m_aload_n C 1 dX10_draws_28 rfl rfl ?_
      refine m_getI C (k := 11) cl_X10 (by decide) so_51 rfl fl_X10_76 dX10_draws_29 ?_
      refine m_irem C dX10_draws_32 h.1 ?_
      have h := h.2
      refine m_istore C (L' := [(6, vI (Int.tmod (us_r (w32 ((w32 (x3 * 1103515245)) + 12345)) 9) (M 51 11))), (3, vI (w32 ((w32 (x3 * 1103515245)) + 12345))), (0, vR 51), (1, vI a1), (2, vI a2), (4, vI x4), (5, vI x5)]) dX10_draws_33 (by rw [hnL]; decide) rfl ?_
      refine m_aload_n C 2 dX10_draws_35 rfl rfl ?_
      refine m_iload C 0 dX10_draws_36 rfl ?_
      refine m_callVi C (as := [vI (Int.tmod (us_r (w32 ((w32 (x3 * 1103515245)) + 12345)) 9) (M 51 11))]) (rest := []) ok_X10_canLay ml_X10_293 so_51 rfl rfl rfl (Nat.le_of_ble_eq_true rfl) (fun _ => rfl) dX10_draws_38 (Con.mono h (fun r3 M4 _ _ h => ?_))
      refine m_if_eq C (tgt := 53) dX10_draws_41 (by decide) (fun e => ?_) (fun e => ?_)
      · have h := h.1 e
        refine m_iinc C (L' := [(5, vI (w32 (x5 + 1))), (6, vI (Int.tmod (us_r (w32 ((w32 (x3 * 1103515245)) + 12345)) 9) (M 51 11))), (3, vI (w32 ((w32 (x3 * 1103515245)) + 12345))), (0, vR 51), (1, vI a1), (2, vI a2), (4, vI x4)]) 6 dX10_draws_53 rfl (by rw [hnL]; decide) rfl ?_
        refine m_goto C (tgt := 8) dX10_draws_56 (by decide) ?_
        exact m_sub [3, 4, 5, 2, 6, 0] rfl h
      · have h := h.2 e
        refine m_aload_n C 2 dX10_draws_44 rfl rfl ?_
        refine m_iload C 0 dX10_draws_45 rfl ?_
        refine m_callVv C (as := [vI (Int.tmod (us_r (w32 ((w32 (x3 * 1103515245)) + 12345)) 9) (M 51 11))]) (rest := []) ok_X10_puts ml_X10_265 so_51 rfl rfl rfl (Nat.le_of_ble_eq_true rfl) (fun _ => rfl) dX10_draws_47 (Con.mono h (fun _ M6 _ _ h => ?_))
        refine m_iinc C (L' := [(4, vI (w32 (x4 + 1))), (6, vI (Int.tmod (us_r (w32 ((w32 (x3 * 1103515245)) + 12345)) 9) (M 51 11))), (3, vI (w32 ((w32 (x3 * 1103515245)) + 12345))), (0, vR 51), (1, vI a1), (2, vI a2), (5, vI x5)]) 5 dX10_draws_50 rfl (by rw [hnL]; decide) rfl ?_
        refine m_iinc C (L' := [(5, vI (w32 (x5 + 1))), (4, vI (w32 (x4 + 1))), (6, vI (Int.tmod (us_r (w32 ((w32 (x3 * 1103515245)) + 12345)) 9) (M 51 11))), (3, vI (w32 ((w32 (x3 * 1103515245)) + 12345))), (0, vR 51), (1, vI a1), (2, vI a2)]) 6 dX10_draws_53 rfl (by rw [hnL]; decide) rfl ?_
        refine m_goto C (tgt := 8) dX10_draws_56 (by decide) ?_
        exact m_sub [4, 5, 6, 3, 1, 0] rfl h
  have hb69 : ∀ (x3 : Int) (x4 : Int) (x5 : Int) (x6 : Int) (M : Mem), B_X10_draws_69 n a1 a2 x3 x4 x5 x6 M Q (fun (x3 : Int) (x4 : Int) (x5 : Int) (M : Mem) => WM X 8 [(0, vR 51), (1, vI a1), (2, vI a2), (3, vI x3), (4, vI x4), (5, vI x5)] [] M) (fun (x3 : Int) (x4 : Int) (x5 : Int) (x6 : Int) (M : Mem) => WM X 69 [(0, vR 51), (1, vI a1), (2, vI a2), (3, vI x3), (4, vI x4), (5, vI x5), (6, vI x6)] [] M) → WM X 69 [(0, vR 51), (1, vI a1), (2, vI a2), (3, vI x3), (4, vI x4), (5, vI x5), (6, vI x6)] [] M := by
    intro x3 x4 x5 x6 M h
    unfold B_X10_draws_69 at h
    refine m_iload C 6 dX10_draws_69 rfl ?_
    refine m_iload C 4 dX10_draws_71 rfl ?_
    refine m_icmp_ge C (tgt := 86) dX10_draws_73 (by decide) (fun e => ?_) (fun e => ?_)
    · have h := h.1 e
      refine m_iload C 5 dX10_draws_86 rfl ?_
      exact m_iret C E (Or.inl rfl) dX10_draws_88 h
    · have h := h.2 e
      refine m_aload_n C 0 dX10_draws_76 rfl rfl ?_
      refine m_callVv C (as := []) (rest := []) ok_X10_takesOff ml_X10_296 so_51 rfl rfl rfl (Nat.le_of_ble_eq_true rfl) (fun _ => rfl) dX10_draws_77 (Con.mono h (fun _ M8 _ _ h => ?_))
      refine m_iinc C (L' := [(6, vI (w32 (x6 + 1))), (0, vR 51), (1, vI a1), (2, vI a2), (3, vI x3), (4, vI x4), (5, vI x5)]) 6 dX10_draws_80 rfl (by rw [hnL]; decide) rfl ?_
      refine m_goto C (tgt := 69) dX10_draws_83 (by decide) ?_
      exact m_sub [1, 2, 3, 4, 5, 6, 0] rfl h
  have h := h (fun (x3 : Int) (x4 : Int) (x5 : Int) (M : Mem) => WM X 8 [(0, vR 51), (1, vI a1), (2, vI a2), (3, vI x3), (4, vI x4), (5, vI x5)] [] M) (fun (x3 : Int) (x4 : Int) (x5 : Int) (x6 : Int) (M : Mem) => WM X 69 [(0, vR 51), (1, vI a1), (2, vI a2), (3, vI x3), (4, vI x4), (5, vI x5), (6, vI x6)] [] M) hb8 hb69
  unfold B_X10_draws at h
  refine m_iload_n C 1 dX10_draws_0 rfl rfl ?_
  refine m_istore_n C (L' := [(3, vI a1), (0, vR 51), (1, vI a1), (2, vI a2)]) dX10_draws_1 rfl (by rw [hnL]; decide) rfl ?_
  refine m_iconst C dX10_draws_2 (r32_of rfl) ?_
  refine m_istore C (L' := [(4, vI 0), (3, vI a1), (0, vR 51), (1, vI a1), (2, vI a2)]) dX10_draws_3 (by rw [hnL]; decide) rfl ?_
  refine m_iconst C dX10_draws_5 (r32_of rfl) ?_
  refine m_istore C (L' := [(5, vI 0), (4, vI 0), (3, vI a1), (0, vR 51), (1, vI a1), (2, vI a2)]) dX10_draws_6 (by rw [hnL]; decide) rfl ?_
  exact m_sub [3, 4, 5, 2, 1, 0] rfl h
def B_X10_drawn (n : Nat) (a1 : Int) (a2 : Int) (M : Mem) (Q : Int → Mem → Prop)  : Prop :=
  Con n md_X10_in [vL a2, vL 0, vL 40] M (fun r1 M2 =>
  ((r1 = 0 →
  Q (-2) M2) ∧ (¬ r1 = 0 →
  (((M2 51 11) = 0 →
    Q (-3) M2) ∧ (¬ (M2 51 11) = 0 →
    Con n md_X10_draws [vR 51, vI a1, vI a2] M2 (fun r3 M4 =>
      Q r3 M4))))))
set_option maxHeartbeats 4000000 in
set_option maxRecDepth 20000 in
theorem g_X10_drawn {n : Nat} {a1 : Int} {a2 : Int} {M : Mem} {Q : Int → Mem → Prop}  (h : B_X10_drawn n a1 a2 M Q) : Con (n + 1) md_X10_drawn [vR 51, vI a1, vI a2] M Q := by
  refine Con.ofF (n := n + 1) (Nat.succ_pos n) pl_X10_drawn (Nat.le_of_ble_eq_true rfl) (fun X C E hnL => ?_)
  have C : Cx X cX10_drawn RX10 n := C
  show WM X 0 [(0, vR 51), (1, vI a1), (2, vI a2)] [] M
  unfold B_X10_drawn at h
  refine m_iload_n C 2 dX10_drawn_0 rfl rfl ?_
  refine m_i2l C dX10_drawn_1 ?_
  refine m_lconst C (x := 0) dX10_drawn_2 (by decide) (r64_of rfl) ?_
  refine m_ldc2 C (v := 40) dX10_drawn_3 kc_X10_331 (r64_of rfl) ?_
  refine m_callSi C (as := [vL a2, vL 0, vL 40]) (rest := []) ok_X10_in ml_X10_79 rfl rfl (Nat.le_of_ble_eq_true rfl) (fun _ => rfl) dX10_drawn_6 (Con.mono h (fun r1 M2 _ _ h => ?_))
  refine m_if_ne C (tgt := 15) dX10_drawn_9 (by decide) (fun e => ?_) (fun e => ?_)
  · have h := h.2 e
    refine m_aload_n C 0 dX10_drawn_15 rfl rfl ?_
    refine m_getI C (k := 11) cl_X10 (by decide) so_51 rfl fl_X10_76 dX10_drawn_16 ?_
    refine m_if_ne C (tgt := 27) dX10_drawn_19 (by decide) (fun e => ?_) (fun e => ?_)
    · have h := h.2 e
      refine m_aload_n C 0 dX10_drawn_27 rfl rfl ?_
      refine m_iload_n C 1 dX10_drawn_28 rfl rfl ?_
      refine m_iload_n C 2 dX10_drawn_29 rfl rfl ?_
      refine m_callVi C (as := [vI a1, vI a2]) (rest := []) ok_X10_draws ml_X10_333 so_51 rfl rfl rfl (Nat.le_of_ble_eq_true rfl) (fun _ => rfl) dX10_drawn_30 (Con.mono h (fun r3 M4 _ _ h => ?_))
      exact m_iret C E (Or.inl rfl) dX10_drawn_33 h
    · have h := h.1 e
      refine m_bipush C dX10_drawn_22 (r32_of rfl) (by decide) ?_
      refine m_goto C (tgt := 33) dX10_drawn_24 (by decide) ?_
      exact m_iret C E (Or.inl rfl) dX10_drawn_33 h
  · have h := h.1 e
    refine m_bipush C dX10_drawn_12 (r32_of rfl) (by decide) ?_
    exact m_iret C E (Or.inl rfl) dX10_drawn_14 h
def B_X10_chance_52 (n : Nat) (a1 : Int) (a2 : Int) (a3 : Int) (a4 : Int) (x5 : Int) (x7 : Int) (M : Mem) (Q : Int → Mem → Prop) (K52 : Int → Int → Mem → Prop) (K96 : Int → Int → Int → Mem → Prop) : Prop :=
  ((a2 ≤ x7 →
  K96 x5 x5 a2 M) ∧ (¬ a2 ≤ x7 →
  Con n md_X10_draws [vR 51, vI (w32 (a1 + x7)), vI 20] M (fun r1 M2 =>
    ((a3 < r1 →
    K52 (w64 (x5 + 0)) (w32 (x7 + 1)) M2) ∧ (¬ a3 < r1 →
    K52 (w64 (x5 + 1)) (w32 (x7 + 1)) M2)))))
def B_X10_chance_96 (n : Nat) (a1 : Int) (a2 : Int) (a3 : Int) (a4 : Int) (x5 : Int) (x7 : Int) (x9 : Int) (M : Mem) (Q : Int → Mem → Prop) (K52 : Int → Int → Mem → Prop) (K96 : Int → Int → Int → Mem → Prop) : Prop :=
  (((l_c x9 0) = 0 →
  ((a4 = 0 →
    (x7 ≠ 0 ∧ Q (w64 (Int.tdiv x5 x7)) M)) ∧ (¬ a4 = 0 →
    (x7 ≠ 0 ∧ Q (w64 (Int.tdiv a2 x7)) M)))) ∧ (¬ (l_c x9 0) = 0 →
  (x9 ≠ 0 ∧ K96 x5 x9 (Int.tmod x7 x9) M)))
def B_X10_chance (n : Nat) (a1 : Int) (a2 : Int) (a3 : Int) (a4 : Int) (M : Mem) (Q : Int → Mem → Prop) (K52 : Int → Int → Mem → Prop) (K96 : Int → Int → Int → Mem → Prop) : Prop :=
  Con n md_X10_in [vL a2, vL 1, vL 20] M (fun r3 M4 =>
  ((r3 = 0 →
  Q (-4611686018427387904) M4) ∧ (¬ r3 = 0 →
  Con n md_X10_in [vL a3, vL 0, vL 999] M4 (fun r5 M6 =>
    ((r5 = 0 →
    Q (-4611686018427387904) M6) ∧ (¬ r5 = 0 →
    Con n md_X10_in [vL a4, vL 0, vL 1] M6 (fun r7 M8 =>
      ((r7 = 0 →
      Q (-4611686018427387904) M8) ∧ (¬ r7 = 0 →
      (((M8 51 11) = 0 →
        Q (-4611686018427387904) M8) ∧ (¬ (M8 51 11) = 0 →
        K52 0 0 M8)))))))))))
set_option maxHeartbeats 4000000 in
set_option maxRecDepth 20000 in
theorem g_X10_chance {n : Nat} {a1 : Int} {a2 : Int} {a3 : Int} {a4 : Int} {M : Mem} {Q : Int → Mem → Prop}  (h : ∀ (K52 : Int → Int → Mem → Prop) (K96 : Int → Int → Int → Mem → Prop), (∀ (x5 : Int) (x7 : Int) (M : Mem), B_X10_chance_52 n a1 a2 a3 a4 x5 x7 M Q K52 K96 → K52 x5 x7 M) → (∀ (x5 : Int) (x7 : Int) (x9 : Int) (M : Mem), B_X10_chance_96 n a1 a2 a3 a4 x5 x7 x9 M Q K52 K96 → K96 x5 x7 x9 M) → B_X10_chance n a1 a2 a3 a4 M Q K52 K96) : Con (n + 1) md_X10_chance [vR 51, vI a1, vI a2, vI a3, vI a4] M Q := by
  refine Con.ofF (n := n + 1) (Nat.succ_pos n) pl_X10_chance (Nat.le_of_ble_eq_true rfl) (fun X C E hnL => ?_)
  have C : Cx X cX10_chance RX10 n := C
  show WM X 0 [(0, vR 51), (1, vI a1), (2, vI a2), (3, vI a3), (4, vI a4)] [] M
  have hb52 : ∀ (x5 : Int) (x7 : Int) (M : Mem), B_X10_chance_52 n a1 a2 a3 a4 x5 x7 M Q (fun (x5 : Int) (x7 : Int) (M : Mem) => WM X 52 [(0, vR 51), (1, vI a1), (2, vI a2), (3, vI a3), (4, vI a4), (5, vL x5), (7, vI x7)] [] M) (fun (x5 : Int) (x7 : Int) (x9 : Int) (M : Mem) => WM X 96 [(0, vR 51), (1, vI a1), (2, vI a2), (3, vI a3), (4, vI a4), (5, vL x5), (7, vL x7), (9, vL x9)] [] M) → WM X 52 [(0, vR 51), (1, vI a1), (2, vI a2), (3, vI a3), (4, vI a4), (5, vL x5), (7, vI x7)] [] M := by
    intro x5 x7 M h
    unfold B_X10_chance_52 at h
    refine m_iload C 6 dX10_chance_52 rfl ?_
    refine m_iload_n C 2 dX10_chance_54 rfl rfl ?_
    refine m_icmp_ge C (tgt := 88) dX10_chance_55 (by decide) (fun e => ?_) (fun e => ?_)
    · have h := h.1 e
      refine m_lload C 5 dX10_chance_88 rfl ?_
      refine m_lstore C (L' := [(7, vL x5), (0, vR 51), (1, vI a1), (2, vI a2), (3, vI a3), (4, vI a4), (5, vL x5)]) dX10_chance_90 (by rw [hnL]; decide) rfl ?_
      refine m_iload_n C 3 dX10_chance_92 rfl rfl ?_
      refine m_i2l C dX10_chance_93 ?_
      refine m_lstore C (L' := [(9, vL a2), (7, vL x5), (0, vR 51), (1, vI a1), (2, vI a2), (3, vI a3), (4, vI a4), (5, vL x5)]) dX10_chance_94 (by rw [hnL]; decide) rfl ?_
      exact m_sub [2, 3, 4, 5, 6, 7, 1, 0] rfl h
    · have h := h.2 e
      refine m_lload C 5 dX10_chance_58 rfl ?_
      refine m_aload_n C 0 dX10_chance_60 rfl rfl ?_
      refine m_iload_n C 1 dX10_chance_61 rfl rfl ?_
      refine m_iload C 6 dX10_chance_62 rfl ?_
      refine m_iadd C dX10_chance_64 ?_
      refine m_bipush C dX10_chance_65 (r32_of rfl) (by decide) ?_
      refine m_callVi C (as := [vI (w32 (a1 + x7)), vI 20]) (rest := [vL x5]) ok_X10_draws ml_X10_333 so_51 rfl rfl rfl (Nat.le_of_ble_eq_true rfl) (fun _ => rfl) dX10_chance_67 (Con.mono h (fun r1 M2 _ _ h => ?_))
      refine m_iload_n C 3 dX10_chance_70 rfl rfl ?_
      refine m_icmp_gt C (tgt := 78) dX10_chance_71 (by decide) (fun e => ?_) (fun e => ?_)
      · have h := h.1 e
        refine m_lconst C (x := 0) dX10_chance_78 (by decide) (r64_of rfl) ?_
        refine m_ladd C dX10_chance_79 ?_
        refine m_lstore C (L' := [(5, vL (w64 (x5 + 0))), (0, vR 51), (1, vI a1), (2, vI a2), (3, vI a3), (4, vI a4), (7, vI x7)]) dX10_chance_80 (by rw [hnL]; decide) rfl ?_
        refine m_iinc C (L' := [(7, vI (w32 (x7 + 1))), (5, vL (w64 (x5 + 0))), (0, vR 51), (1, vI a1), (2, vI a2), (3, vI a3), (4, vI a4)]) 6 dX10_chance_82 rfl (by rw [hnL]; decide) rfl ?_
        refine m_goto C (tgt := 52) dX10_chance_85 (by decide) ?_
        exact m_sub [2, 3, 4, 5, 6, 1, 0] rfl h
      · have h := h.2 e
        refine m_lconst C (x := 1) dX10_chance_74 (by decide) (r64_of rfl) ?_
        refine m_goto C (tgt := 79) dX10_chance_75 (by decide) ?_
        refine m_ladd C dX10_chance_79 ?_
        refine m_lstore C (L' := [(5, vL (w64 (x5 + 1))), (0, vR 51), (1, vI a1), (2, vI a2), (3, vI a3), (4, vI a4), (7, vI x7)]) dX10_chance_80 (by rw [hnL]; decide) rfl ?_
        refine m_iinc C (L' := [(7, vI (w32 (x7 + 1))), (5, vL (w64 (x5 + 1))), (0, vR 51), (1, vI a1), (2, vI a2), (3, vI a3), (4, vI a4)]) 6 dX10_chance_82 rfl (by rw [hnL]; decide) rfl ?_
        refine m_goto C (tgt := 52) dX10_chance_85 (by decide) ?_
        exact m_sub [2, 3, 4, 5, 6, 1, 0] rfl h
  have hb96 : ∀ (x5 : Int) (x7 : Int) (x9 : Int) (M : Mem), B_X10_chance_96 n a1 a2 a3 a4 x5 x7 x9 M Q (fun (x5 : Int) (x7 : Int) (M : Mem) => WM X 52 [(0, vR 51), (1, vI a1), (2, vI a2), (3, vI a3), (4, vI a4), (5, vL x5), (7, vI x7)] [] M) (fun (x5 : Int) (x7 : Int) (x9 : Int) (M : Mem) => WM X 96 [(0, vR 51), (1, vI a1), (2, vI a2), (3, vI a3), (4, vI a4), (5, vL x5), (7, vL x7), (9, vL x9)] [] M) → WM X 96 [(0, vR 51), (1, vI a1), (2, vI a2), (3, vI a3), (4, vI a4), (5, vL x5), (7, vL x7), (9, vL x9)] [] M := by
    intro x5 x7 x9 M h
    unfold B_X10_chance_96 at h
    refine m_lload C 7 dX10_chance_96 rfl ?_
    refine m_lconst C (x := 0) dX10_chance_98 (by decide) (r64_of rfl) ?_
    refine m_lcmp C dX10_chance_99 ?_
    refine m_if_eq C (tgt := 121) dX10_chance_100 (by decide) (fun e => ?_) (fun e => ?_)
    · have h := h.1 e
      refine m_iload C 4 dX10_chance_121 rfl ?_
      refine m_if_ne C (tgt := 134) dX10_chance_123 (by decide) (fun e => ?_) (fun e => ?_)
      · have h := h.2 e
        refine m_iload_n C 2 dX10_chance_134 rfl rfl ?_
        refine m_i2l C dX10_chance_135 ?_
        refine m_lload C 6 dX10_chance_136 rfl ?_
        refine m_ldiv C dX10_chance_138 h.1 ?_
        have h := h.2
        exact m_lret C E dX10_chance_139 h
      · have h := h.1 e
        refine m_lload C 5 dX10_chance_126 rfl ?_
        refine m_lload C 6 dX10_chance_128 rfl ?_
        refine m_ldiv C dX10_chance_130 h.1 ?_
        have h := h.2
        refine m_goto C (tgt := 139) dX10_chance_131 (by decide) ?_
        exact m_lret C E dX10_chance_139 h
    · have h := h.2 e
      refine m_lload C 6 dX10_chance_103 rfl ?_
      refine m_lload C 7 dX10_chance_105 rfl ?_
      refine m_lrem C dX10_chance_107 h.1 ?_
      have h := h.2
      refine m_lstore C (L' := [(11, vL (Int.tmod x7 x9)), (0, vR 51), (1, vI a1), (2, vI a2), (3, vI a3), (4, vI a4), (5, vL x5), (7, vL x7), (9, vL x9)]) dX10_chance_108 (by rw [hnL]; decide) rfl ?_
      refine m_lload C 8 dX10_chance_110 rfl ?_
      refine m_lstore C (L' := [(7, vL x9), (11, vL (Int.tmod x7 x9)), (0, vR 51), (1, vI a1), (2, vI a2), (3, vI a3), (4, vI a4), (5, vL x5), (9, vL x9)]) dX10_chance_112 (by rw [hnL]; decide) rfl ?_
      refine m_lload C 1 dX10_chance_114 rfl ?_
      refine m_lstore C (L' := [(9, vL (Int.tmod x7 x9)), (7, vL x9), (11, vL (Int.tmod x7 x9)), (0, vR 51), (1, vI a1), (2, vI a2), (3, vI a3), (4, vI a4), (5, vL x5)]) dX10_chance_116 (by rw [hnL]; decide) rfl ?_
      refine m_goto C (tgt := 96) dX10_chance_118 (by decide) ?_
      exact m_sub [3, 4, 5, 6, 7, 8, 1, 0] rfl h
  have h := h (fun (x5 : Int) (x7 : Int) (M : Mem) => WM X 52 [(0, vR 51), (1, vI a1), (2, vI a2), (3, vI a3), (4, vI a4), (5, vL x5), (7, vI x7)] [] M) (fun (x5 : Int) (x7 : Int) (x9 : Int) (M : Mem) => WM X 96 [(0, vR 51), (1, vI a1), (2, vI a2), (3, vI a3), (4, vI a4), (5, vL x5), (7, vL x7), (9, vL x9)] [] M) hb52 hb96
  unfold B_X10_chance at h
  refine m_iload_n C 2 dX10_chance_0 rfl rfl ?_
  refine m_i2l C dX10_chance_1 ?_
  refine m_lconst C (x := 1) dX10_chance_2 (by decide) (r64_of rfl) ?_
  refine m_ldc2 C (v := 20) dX10_chance_3 kc_X10_325 (r64_of rfl) ?_
  refine m_callSi C (as := [vL a2, vL 1, vL 20]) (rest := []) ok_X10_in ml_X10_79 rfl rfl (Nat.le_of_ble_eq_true rfl) (fun _ => rfl) dX10_chance_6 (Con.mono h (fun r3 M4 _ _ h => ?_))
  refine m_if_eq C (tgt := 42) dX10_chance_9 (by decide) (fun e => ?_) (fun e => ?_)
  · have h := h.1 e
    refine m_ldc2 C (v := (-4611686018427387904)) dX10_chance_42 kc_X10_338 (r64_of rfl) ?_
    exact m_lret C E dX10_chance_45 h
  · have h := h.2 e
    refine m_iload_n C 3 dX10_chance_12 rfl rfl ?_
    refine m_i2l C dX10_chance_13 ?_
    refine m_lconst C (x := 0) dX10_chance_14 (by decide) (r64_of rfl) ?_
    refine m_ldc2 C (v := 999) dX10_chance_15 kc_X10_336 (r64_of rfl) ?_
    refine m_callSi C (as := [vL a3, vL 0, vL 999]) (rest := []) ok_X10_in ml_X10_79 rfl rfl (Nat.le_of_ble_eq_true rfl) (fun _ => rfl) dX10_chance_18 (Con.mono h (fun r5 M6 _ _ h => ?_))
    refine m_if_eq C (tgt := 42) dX10_chance_21 (by decide) (fun e => ?_) (fun e => ?_)
    · have h := h.1 e
      refine m_ldc2 C (v := (-4611686018427387904)) dX10_chance_42 kc_X10_338 (r64_of rfl) ?_
      exact m_lret C E dX10_chance_45 h
    · have h := h.2 e
      refine m_iload C 4 dX10_chance_24 rfl ?_
      refine m_i2l C dX10_chance_26 ?_
      refine m_lconst C (x := 0) dX10_chance_27 (by decide) (r64_of rfl) ?_
      refine m_lconst C (x := 1) dX10_chance_28 (by decide) (r64_of rfl) ?_
      refine m_callSi C (as := [vL a4, vL 0, vL 1]) (rest := []) ok_X10_in ml_X10_79 rfl rfl (Nat.le_of_ble_eq_true rfl) (fun _ => rfl) dX10_chance_29 (Con.mono h (fun r7 M8 _ _ h => ?_))
      refine m_if_eq C (tgt := 42) dX10_chance_32 (by decide) (fun e => ?_) (fun e => ?_)
      · have h := h.1 e
        refine m_ldc2 C (v := (-4611686018427387904)) dX10_chance_42 kc_X10_338 (r64_of rfl) ?_
        exact m_lret C E dX10_chance_45 h
      · have h := h.2 e
        refine m_aload_n C 0 dX10_chance_35 rfl rfl ?_
        refine m_getI C (k := 11) cl_X10 (by decide) so_51 rfl fl_X10_76 dX10_chance_36 ?_
        refine m_if_ne C (tgt := 46) dX10_chance_39 (by decide) (fun e => ?_) (fun e => ?_)
        · have h := h.2 e
          refine m_lconst C (x := 0) dX10_chance_46 (by decide) (r64_of rfl) ?_
          refine m_lstore C (L' := [(5, vL 0), (0, vR 51), (1, vI a1), (2, vI a2), (3, vI a3), (4, vI a4)]) dX10_chance_47 (by rw [hnL]; decide) rfl ?_
          refine m_iconst C dX10_chance_49 (r32_of rfl) ?_
          refine m_istore C (L' := [(7, vI 0), (5, vL 0), (0, vR 51), (1, vI a1), (2, vI a2), (3, vI a3), (4, vI a4)]) dX10_chance_50 (by rw [hnL]; decide) rfl ?_
          exact m_sub [2, 3, 4, 5, 6, 1, 0] rfl h
        · have h := h.1 e
          refine m_ldc2 C (v := (-4611686018427387904)) dX10_chance_42 kc_X10_338 (r64_of rfl) ?_
          exact m_lret C E dX10_chance_45 h
def B_X10_image_2 (n : Nat)  (x1 : Int) (M : Mem) (Q : Int → Mem → Prop) (K2 : Int → Mem → Prop) (K28 : Int → Mem → Prop) : Prop :=
  ((18 ≤ x1 →
  K28 0 M) ∧ (¬ 18 ≤ x1 →
  ((0 ≤ x1 ∧ x1 < 18) ∧ ((0 ≤ x1 ∧ x1 < 18) ∧ (∀ M1 : Mem, M1 = up M 61 (Int.toNat x1) (M 56 (Int.toNat x1)) →
    K2 (w32 (x1 + 1)) M1)))))
def B_X10_image_28 (n : Nat)  (x1 : Int) (M : Mem) (Q : Int → Mem → Prop) (K2 : Int → Mem → Prop) (K28 : Int → Mem → Prop) : Prop :=
  ((40 ≤ x1 →
  (∀ M2 : Mem, M2 = up M 51 37 (M 51 11) →
    (∀ M3 : Mem, M3 = up M2 51 38 (M2 51 7) →
    (∀ M4 : Mem, M4 = up M3 51 39 (M3 51 8) →
    (∀ M5 : Mem, M5 = up M4 51 40 (M4 51 14) →
    (∀ M6 : Mem, M6 = up M5 51 41 (M5 51 4) →
    Q (M6 51 11) M6)))))) ∧ (¬ 40 ≤ x1 →
  ((0 ≤ x1 ∧ x1 < 40) ∧ ((0 ≤ x1 ∧ x1 < 40) ∧ (∀ M7 : Mem, M7 = up M 62 (Int.toNat x1) (M 57 (Int.toNat x1)) →
    ((0 ≤ x1 ∧ x1 < 40) ∧ ((0 ≤ x1 ∧ x1 < 40) ∧ (∀ M8 : Mem, M8 = up M7 63 (Int.toNat x1) (M7 58 (Int.toNat x1)) →
    K28 (w32 (x1 + 1)) M8))))))))
def B_X10_image (n : Nat)  (M : Mem) (Q : Int → Mem → Prop) (K2 : Int → Mem → Prop) (K28 : Int → Mem → Prop) : Prop :=
  K2 0 M
set_option maxHeartbeats 4000000 in
set_option maxRecDepth 20000 in
theorem g_X10_image {n : Nat}  {M : Mem} {Q : Int → Mem → Prop}  (h : ∀ (K2 : Int → Mem → Prop) (K28 : Int → Mem → Prop), (∀ (x1 : Int) (M : Mem), B_X10_image_2 n  x1 M Q K2 K28 → K2 x1 M) → (∀ (x1 : Int) (M : Mem), B_X10_image_28 n  x1 M Q K2 K28 → K28 x1 M) → B_X10_image n  M Q K2 K28) : Con (n + 1) md_X10_image [vR 51] M Q := by
  refine Con.ofF (n := n + 1) (Nat.succ_pos n) pl_X10_image (Nat.le_of_ble_eq_true rfl) (fun X C E hnL => ?_)
  have C : Cx X cX10_image RX10 n := C
  show WM X 0 [(0, vR 51)] [] M
  have hb2 : ∀ (x1 : Int) (M : Mem), B_X10_image_2 n  x1 M Q (fun (x1 : Int) (M : Mem) => WM X 2 [(0, vR 51), (1, vI x1)] [] M) (fun (x1 : Int) (M : Mem) => WM X 28 [(0, vR 51), (1, vI x1)] [] M) → WM X 2 [(0, vR 51), (1, vI x1)] [] M := by
    intro x1 M h
    unfold B_X10_image_2 at h
    refine m_iload_n C 1 dX10_image_2 rfl rfl ?_
    refine m_bipush C dX10_image_3 (r32_of rfl) (by decide) ?_
    refine m_icmp_ge C (tgt := 26) dX10_image_5 (by decide) (fun e => ?_) (fun e => ?_)
    · have h := h.1 e
      refine m_iconst C dX10_image_26 (r32_of rfl) ?_
      refine m_istore_n C (L' := [(1, vI 0), (0, vR 51)]) dX10_image_27 rfl (by rw [hnL]; decide) rfl ?_
      exact m_sub [1, 0] rfl h
    · have h := h.2 e
      refine m_aload_n C 0 dX10_image_8 rfl rfl ?_
      refine m_getR C (k := 34) cl_X10 (by decide) so_51 rfl fl_X10_44 dX10_image_9 ?_
      refine m_iload_n C 1 dX10_image_12 rfl rfl ?_
      refine m_aload_n C 0 dX10_image_13 rfl rfl ?_
      refine m_getR C (k := 10) cl_X10 (by decide) so_51 rfl fl_X10_29 dX10_image_14 ?_
      refine m_iload_n C 1 dX10_image_17 rfl rfl ?_
      refine m_iald C (N := 18) sa_56 h.1 dX10_image_18 ?_
      have h := h.2
      refine m_iast C (N := 18) sa_61 h.1 dX10_image_19 ?_
      have h := h.2
      generalize eM1 : up M 61 (Int.toNat x1) (M 56 (Int.toNat x1)) = M1
      have h := h M1 eM1.symm
      refine m_iinc C (L' := [(1, vI (w32 (x1 + 1))), (0, vR 51)]) 1 dX10_image_20 rfl (by rw [hnL]; decide) rfl ?_
      refine m_goto C (tgt := 2) dX10_image_23 (by decide) ?_
      exact m_sub [1, 0] rfl h
  have hb28 : ∀ (x1 : Int) (M : Mem), B_X10_image_28 n  x1 M Q (fun (x1 : Int) (M : Mem) => WM X 2 [(0, vR 51), (1, vI x1)] [] M) (fun (x1 : Int) (M : Mem) => WM X 28 [(0, vR 51), (1, vI x1)] [] M) → WM X 28 [(0, vR 51), (1, vI x1)] [] M := by
    intro x1 M h
    unfold B_X10_image_28 at h
    refine m_iload_n C 1 dX10_image_28 rfl rfl ?_
    refine m_bipush C dX10_image_29 (r32_of rfl) (by decide) ?_
    refine m_icmp_ge C (tgt := 64) dX10_image_31 (by decide) (fun e => ?_) (fun e => ?_)
    · have h := h.1 e
      refine m_aload_n C 0 dX10_image_64 rfl rfl ?_
      refine m_aload_n C 0 dX10_image_65 rfl rfl ?_
      refine m_getI C (k := 11) cl_X10 (by decide) so_51 rfl fl_X10_76 dX10_image_66 ?_
      refine m_putI C (k := 37) cl_X10 (by decide) so_51 rfl rfl rfl fl_X10_53 dX10_image_69 ?_
      generalize eM2 : up M 51 37 (M 51 11) = M2
      have h := h M2 eM2.symm
      refine m_aload_n C 0 dX10_image_72 rfl rfl ?_
      refine m_aload_n C 0 dX10_image_73 rfl rfl ?_
      refine m_getI C (k := 7) cl_X10 (by decide) so_51 rfl fl_X10_23 dX10_image_74 ?_
      refine m_putI C (k := 38) cl_X10 (by decide) so_51 rfl rfl rfl fl_X10_340 dX10_image_77 ?_
      generalize eM3 : up M2 51 38 (M2 51 7) = M3
      have h := h M3 eM3.symm
      refine m_aload_n C 0 dX10_image_80 rfl rfl ?_
      refine m_aload_n C 0 dX10_image_81 rfl rfl ?_
      refine m_getI C (k := 8) cl_X10 (by decide) so_51 rfl fl_X10_101 dX10_image_82 ?_
      refine m_putI C (k := 39) cl_X10 (by decide) so_51 rfl rfl rfl fl_X10_343 dX10_image_85 ?_
      generalize eM4 : up M3 51 39 (M3 51 8) = M4
      have h := h M4 eM4.symm
      refine m_aload_n C 0 dX10_image_88 rfl rfl ?_
      refine m_aload_n C 0 dX10_image_89 rfl rfl ?_
      refine m_getI C (k := 14) cl_X10 (by decide) so_51 rfl fl_X10_246 dX10_image_90 ?_
      refine m_putI C (k := 40) cl_X10 (by decide) so_51 rfl rfl rfl fl_X10_346 dX10_image_93 ?_
      generalize eM5 : up M4 51 40 (M4 51 14) = M5
      have h := h M5 eM5.symm
      refine m_aload_n C 0 dX10_image_96 rfl rfl ?_
      refine m_aload_n C 0 dX10_image_97 rfl rfl ?_
      refine m_getI C (k := 4) cl_X10 (by decide) so_51 rfl fl_X10_104 dX10_image_98 ?_
      refine m_putI C (k := 41) cl_X10 (by decide) so_51 rfl rfl rfl fl_X10_349 dX10_image_101 ?_
      generalize eM6 : up M5 51 41 (M5 51 4) = M6
      have h := h M6 eM6.symm
      refine m_aload_n C 0 dX10_image_104 rfl rfl ?_
      refine m_getI C (k := 11) cl_X10 (by decide) so_51 rfl fl_X10_76 dX10_image_105 ?_
      exact m_iret C E (Or.inl rfl) dX10_image_108 h
    · have h := h.2 e
      refine m_aload_n C 0 dX10_image_34 rfl rfl ?_
      refine m_getR C (k := 35) cl_X10 (by decide) so_51 rfl fl_X10_47 dX10_image_35 ?_
      refine m_iload_n C 1 dX10_image_38 rfl rfl ?_
      refine m_aload_n C 0 dX10_image_39 rfl rfl ?_
      refine m_getR C (k := 12) cl_X10 (by decide) so_51 rfl fl_X10_32 dX10_image_40 ?_
      refine m_iload_n C 1 dX10_image_43 rfl rfl ?_
      refine m_iald C (N := 40) sa_57 h.1 dX10_image_44 ?_
      have h := h.2
      refine m_iast C (N := 40) sa_62 h.1 dX10_image_45 ?_
      have h := h.2
      generalize eM7 : up M 62 (Int.toNat x1) (M 57 (Int.toNat x1)) = M7
      have h := h M7 eM7.symm
      refine m_aload_n C 0 dX10_image_46 rfl rfl ?_
      refine m_getR C (k := 36) cl_X10 (by decide) so_51 rfl fl_X10_50 dX10_image_47 ?_
      refine m_iload_n C 1 dX10_image_50 rfl rfl ?_
      refine m_aload_n C 0 dX10_image_51 rfl rfl ?_
      refine m_getR C (k := 13) cl_X10 (by decide) so_51 rfl fl_X10_35 dX10_image_52 ?_
      refine m_iload_n C 1 dX10_image_55 rfl rfl ?_
      refine m_iald C (N := 40) sa_58 h.1 dX10_image_56 ?_
      have h := h.2
      refine m_iast C (N := 40) sa_63 h.1 dX10_image_57 ?_
      have h := h.2
      generalize eM8 : up M7 63 (Int.toNat x1) (M7 58 (Int.toNat x1)) = M8
      have h := h M8 eM8.symm
      refine m_iinc C (L' := [(1, vI (w32 (x1 + 1))), (0, vR 51)]) 1 dX10_image_58 rfl (by rw [hnL]; decide) rfl ?_
      refine m_goto C (tgt := 28) dX10_image_61 (by decide) ?_
      exact m_sub [1, 0] rfl h
  have h := h (fun (x1 : Int) (M : Mem) => WM X 2 [(0, vR 51), (1, vI x1)] [] M) (fun (x1 : Int) (M : Mem) => WM X 28 [(0, vR 51), (1, vI x1)] [] M) hb2 hb28
  unfold B_X10_image at h
  refine m_iconst C dX10_image_0 (r32_of rfl) ?_
  refine m_istore_n C (L' := [(1, vI 0), (0, vR 51)]) dX10_image_1 rfl (by rw [hnL]; decide) rfl ?_
  exact m_sub [1, 0] rfl h
def B_X10_back_13 (n : Nat)  (x1 : Int) (M : Mem) (Q : Int → Mem → Prop) (K13 : Int → Mem → Prop) (K39 : Int → Mem → Prop) : Prop :=
  ((18 ≤ x1 →
  K39 0 M) ∧ (¬ 18 ≤ x1 →
  ((0 ≤ x1 ∧ x1 < 18) ∧ ((0 ≤ x1 ∧ x1 < 18) ∧ (∀ M1 : Mem, M1 = up M 56 (Int.toNat x1) (M 61 (Int.toNat x1)) →
    K13 (w32 (x1 + 1)) M1)))))
def B_X10_back_39 (n : Nat)  (x1 : Int) (M : Mem) (Q : Int → Mem → Prop) (K13 : Int → Mem → Prop) (K39 : Int → Mem → Prop) : Prop :=
  ((40 ≤ x1 →
  (∀ M2 : Mem, M2 = up M 51 11 (M 51 37) →
    (∀ M3 : Mem, M3 = up M2 51 7 (M2 51 38) →
    (∀ M4 : Mem, M4 = up M3 51 8 (M3 51 39) →
    (∀ M5 : Mem, M5 = up M4 51 14 (M4 51 40) →
    (∀ M6 : Mem, M6 = up M5 51 4 (M5 51 41) →
    Q (M6 51 11) M6)))))) ∧ (¬ 40 ≤ x1 →
  ((0 ≤ x1 ∧ x1 < 40) ∧ ((0 ≤ x1 ∧ x1 < 40) ∧ (∀ M7 : Mem, M7 = up M 57 (Int.toNat x1) (M 62 (Int.toNat x1)) →
    ((0 ≤ x1 ∧ x1 < 40) ∧ ((0 ≤ x1 ∧ x1 < 40) ∧ (∀ M8 : Mem, M8 = up M7 58 (Int.toNat x1) (M7 63 (Int.toNat x1)) →
    K39 (w32 (x1 + 1)) M8))))))))
def B_X10_back (n : Nat)  (M : Mem) (Q : Int → Mem → Prop) (K13 : Int → Mem → Prop) (K39 : Int → Mem → Prop) : Prop :=
  (((M 51 37) = (-1) →
  Q (-3) M) ∧ (¬ (M 51 37) = (-1) →
  K13 0 M))
set_option maxHeartbeats 4000000 in
set_option maxRecDepth 20000 in
theorem g_X10_back {n : Nat}  {M : Mem} {Q : Int → Mem → Prop}  (h : ∀ (K13 : Int → Mem → Prop) (K39 : Int → Mem → Prop), (∀ (x1 : Int) (M : Mem), B_X10_back_13 n  x1 M Q K13 K39 → K13 x1 M) → (∀ (x1 : Int) (M : Mem), B_X10_back_39 n  x1 M Q K13 K39 → K39 x1 M) → B_X10_back n  M Q K13 K39) : Con (n + 1) md_X10_back [vR 51] M Q := by
  refine Con.ofF (n := n + 1) (Nat.succ_pos n) pl_X10_back (Nat.le_of_ble_eq_true rfl) (fun X C E hnL => ?_)
  have C : Cx X cX10_back RX10 n := C
  show WM X 0 [(0, vR 51)] [] M
  have hb13 : ∀ (x1 : Int) (M : Mem), B_X10_back_13 n  x1 M Q (fun (x1 : Int) (M : Mem) => WM X 13 [(0, vR 51), (1, vI x1)] [] M) (fun (x1 : Int) (M : Mem) => WM X 39 [(0, vR 51), (1, vI x1)] [] M) → WM X 13 [(0, vR 51), (1, vI x1)] [] M := by
    intro x1 M h
    unfold B_X10_back_13 at h
    refine m_iload_n C 1 dX10_back_13 rfl rfl ?_
    refine m_bipush C dX10_back_14 (r32_of rfl) (by decide) ?_
    refine m_icmp_ge C (tgt := 37) dX10_back_16 (by decide) (fun e => ?_) (fun e => ?_)
    · have h := h.1 e
      refine m_iconst C dX10_back_37 (r32_of rfl) ?_
      refine m_istore_n C (L' := [(1, vI 0), (0, vR 51)]) dX10_back_38 rfl (by rw [hnL]; decide) rfl ?_
      exact m_sub [1, 0] rfl h
    · have h := h.2 e
      refine m_aload_n C 0 dX10_back_19 rfl rfl ?_
      refine m_getR C (k := 10) cl_X10 (by decide) so_51 rfl fl_X10_29 dX10_back_20 ?_
      refine m_iload_n C 1 dX10_back_23 rfl rfl ?_
      refine m_aload_n C 0 dX10_back_24 rfl rfl ?_
      refine m_getR C (k := 34) cl_X10 (by decide) so_51 rfl fl_X10_44 dX10_back_25 ?_
      refine m_iload_n C 1 dX10_back_28 rfl rfl ?_
      refine m_iald C (N := 18) sa_61 h.1 dX10_back_29 ?_
      have h := h.2
      refine m_iast C (N := 18) sa_56 h.1 dX10_back_30 ?_
      have h := h.2
      generalize eM1 : up M 56 (Int.toNat x1) (M 61 (Int.toNat x1)) = M1
      have h := h M1 eM1.symm
      refine m_iinc C (L' := [(1, vI (w32 (x1 + 1))), (0, vR 51)]) 1 dX10_back_31 rfl (by rw [hnL]; decide) rfl ?_
      refine m_goto C (tgt := 13) dX10_back_34 (by decide) ?_
      exact m_sub [1, 0] rfl h
  have hb39 : ∀ (x1 : Int) (M : Mem), B_X10_back_39 n  x1 M Q (fun (x1 : Int) (M : Mem) => WM X 13 [(0, vR 51), (1, vI x1)] [] M) (fun (x1 : Int) (M : Mem) => WM X 39 [(0, vR 51), (1, vI x1)] [] M) → WM X 39 [(0, vR 51), (1, vI x1)] [] M := by
    intro x1 M h
    unfold B_X10_back_39 at h
    refine m_iload_n C 1 dX10_back_39 rfl rfl ?_
    refine m_bipush C dX10_back_40 (r32_of rfl) (by decide) ?_
    refine m_icmp_ge C (tgt := 75) dX10_back_42 (by decide) (fun e => ?_) (fun e => ?_)
    · have h := h.1 e
      refine m_aload_n C 0 dX10_back_75 rfl rfl ?_
      refine m_aload_n C 0 dX10_back_76 rfl rfl ?_
      refine m_getI C (k := 37) cl_X10 (by decide) so_51 rfl fl_X10_53 dX10_back_77 ?_
      refine m_putI C (k := 11) cl_X10 (by decide) so_51 rfl rfl rfl fl_X10_76 dX10_back_80 ?_
      generalize eM2 : up M 51 11 (M 51 37) = M2
      have h := h M2 eM2.symm
      refine m_aload_n C 0 dX10_back_83 rfl rfl ?_
      refine m_aload_n C 0 dX10_back_84 rfl rfl ?_
      refine m_getI C (k := 38) cl_X10 (by decide) so_51 rfl fl_X10_340 dX10_back_85 ?_
      refine m_putI C (k := 7) cl_X10 (by decide) so_51 rfl rfl rfl fl_X10_23 dX10_back_88 ?_
      generalize eM3 : up M2 51 7 (M2 51 38) = M3
      have h := h M3 eM3.symm
      refine m_aload_n C 0 dX10_back_91 rfl rfl ?_
      refine m_aload_n C 0 dX10_back_92 rfl rfl ?_
      refine m_getI C (k := 39) cl_X10 (by decide) so_51 rfl fl_X10_343 dX10_back_93 ?_
      refine m_putI C (k := 8) cl_X10 (by decide) so_51 rfl rfl rfl fl_X10_101 dX10_back_96 ?_
      generalize eM4 : up M3 51 8 (M3 51 39) = M4
      have h := h M4 eM4.symm
      refine m_aload_n C 0 dX10_back_99 rfl rfl ?_
      refine m_aload_n C 0 dX10_back_100 rfl rfl ?_
      refine m_getI C (k := 40) cl_X10 (by decide) so_51 rfl fl_X10_346 dX10_back_101 ?_
      refine m_putI C (k := 14) cl_X10 (by decide) so_51 rfl rfl rfl fl_X10_246 dX10_back_104 ?_
      generalize eM5 : up M4 51 14 (M4 51 40) = M5
      have h := h M5 eM5.symm
      refine m_aload_n C 0 dX10_back_107 rfl rfl ?_
      refine m_aload_n C 0 dX10_back_108 rfl rfl ?_
      refine m_getI C (k := 41) cl_X10 (by decide) so_51 rfl fl_X10_349 dX10_back_109 ?_
      refine m_putI C (k := 4) cl_X10 (by decide) so_51 rfl rfl rfl fl_X10_104 dX10_back_112 ?_
      generalize eM6 : up M5 51 4 (M5 51 41) = M6
      have h := h M6 eM6.symm
      refine m_aload_n C 0 dX10_back_115 rfl rfl ?_
      refine m_getI C (k := 11) cl_X10 (by decide) so_51 rfl fl_X10_76 dX10_back_116 ?_
      exact m_iret C E (Or.inl rfl) dX10_back_119 h
    · have h := h.2 e
      refine m_aload_n C 0 dX10_back_45 rfl rfl ?_
      refine m_getR C (k := 12) cl_X10 (by decide) so_51 rfl fl_X10_32 dX10_back_46 ?_
      refine m_iload_n C 1 dX10_back_49 rfl rfl ?_
      refine m_aload_n C 0 dX10_back_50 rfl rfl ?_
      refine m_getR C (k := 35) cl_X10 (by decide) so_51 rfl fl_X10_47 dX10_back_51 ?_
      refine m_iload_n C 1 dX10_back_54 rfl rfl ?_
      refine m_iald C (N := 40) sa_62 h.1 dX10_back_55 ?_
      have h := h.2
      refine m_iast C (N := 40) sa_57 h.1 dX10_back_56 ?_
      have h := h.2
      generalize eM7 : up M 57 (Int.toNat x1) (M 62 (Int.toNat x1)) = M7
      have h := h M7 eM7.symm
      refine m_aload_n C 0 dX10_back_57 rfl rfl ?_
      refine m_getR C (k := 13) cl_X10 (by decide) so_51 rfl fl_X10_35 dX10_back_58 ?_
      refine m_iload_n C 1 dX10_back_61 rfl rfl ?_
      refine m_aload_n C 0 dX10_back_62 rfl rfl ?_
      refine m_getR C (k := 36) cl_X10 (by decide) so_51 rfl fl_X10_50 dX10_back_63 ?_
      refine m_iload_n C 1 dX10_back_66 rfl rfl ?_
      refine m_iald C (N := 40) sa_63 h.1 dX10_back_67 ?_
      have h := h.2
      refine m_iast C (N := 40) sa_58 h.1 dX10_back_68 ?_
      have h := h.2
      generalize eM8 : up M7 58 (Int.toNat x1) (M7 63 (Int.toNat x1)) = M8
      have h := h M8 eM8.symm
      refine m_iinc C (L' := [(1, vI (w32 (x1 + 1))), (0, vR 51)]) 1 dX10_back_69 rfl (by rw [hnL]; decide) rfl ?_
      refine m_goto C (tgt := 39) dX10_back_72 (by decide) ?_
      exact m_sub [1, 0] rfl h
  have h := h (fun (x1 : Int) (M : Mem) => WM X 13 [(0, vR 51), (1, vI x1)] [] M) (fun (x1 : Int) (M : Mem) => WM X 39 [(0, vR 51), (1, vI x1)] [] M) hb13 hb39
  unfold B_X10_back at h
  refine m_aload_n C 0 dX10_back_0 rfl rfl ?_
  refine m_getI C (k := 37) cl_X10 (by decide) so_51 rfl fl_X10_53 dX10_back_1 ?_
  refine m_iconst C dX10_back_4 (r32_of rfl) ?_
  refine m_icmp_ne C (tgt := 11) dX10_back_5 (by decide) (fun e => ?_) (fun e => ?_)
  · have h := h.2 e
    refine m_iconst C dX10_back_11 (r32_of rfl) ?_
    refine m_istore_n C (L' := [(1, vI 0), (0, vR 51)]) dX10_back_12 rfl (by rw [hnL]; decide) rfl ?_
    exact m_sub [1, 0] rfl h
  · have h := h.1 e
    refine m_bipush C dX10_back_8 (r32_of rfl) (by decide) ?_
    exact m_iret C E (Or.inl rfl) dX10_back_10 h
def B_X10_count_76 (n : Nat) (a1 : Int) (x2 : Int) (x3 : Int) (M : Mem) (Q : Int → Mem → Prop) (K76 : Int → Int → Mem → Prop) : Prop :=
  (((M 51 11) ≤ x3 →
  Q x2 M) ∧ (¬ (M 51 11) ≤ x3 →
  ((0 ≤ (w32 ((w32 (3 * x3)) + 2)) ∧ (w32 ((w32 (3 * x3)) + 2)) < 18) ∧ K76 (w32 (x2 + (M 56 (Int.toNat (w32 ((w32 (3 * x3)) + 2)))))) (w32 (x3 + 1)) M)))
def B_X10_count (n : Nat) (a1 : Int) (M : Mem) (Q : Int → Mem → Prop) (K76 : Int → Int → Mem → Prop) : Prop :=
  Con n md_X10_in [vL a1, vL 0, vL 5] M (fun r1 M2 =>
  ((r1 = 0 →
  Q (-2) M2) ∧ (¬ r1 = 0 →
  ((a1 = 2 →
    K76 0 0 M2) ∧ (¬ a1 = 2 →
    ((a1 = 0 →
      Q (M2 51 11) M2) ∧ (¬ a1 = 0 →
      ((a1 = 1 →
        Q (M2 51 14) M2) ∧ (¬ a1 = 1 →
        ((a1 = 3 →
          Q (M2 51 3) M2) ∧ (¬ a1 = 3 →
          ((a1 = 4 →
            Q (M2 51 6) M2) ∧ (¬ a1 = 4 →
            Q (M2 51 4) M2)))))))))))))
set_option maxHeartbeats 4000000 in
set_option maxRecDepth 20000 in
theorem g_X10_count {n : Nat} {a1 : Int} {M : Mem} {Q : Int → Mem → Prop}  (h : ∀ (K76 : Int → Int → Mem → Prop), (∀ (x2 : Int) (x3 : Int) (M : Mem), B_X10_count_76 n a1 x2 x3 M Q K76 → K76 x2 x3 M) → B_X10_count n a1 M Q K76) : Con (n + 1) md_X10_count [vR 51, vI a1] M Q := by
  refine Con.ofF (n := n + 1) (Nat.succ_pos n) pl_X10_count (Nat.le_of_ble_eq_true rfl) (fun X C E hnL => ?_)
  have C : Cx X cX10_count RX10 n := C
  show WM X 0 [(0, vR 51), (1, vI a1)] [] M
  have hb76 : ∀ (x2 : Int) (x3 : Int) (M : Mem), B_X10_count_76 n a1 x2 x3 M Q (fun (x2 : Int) (x3 : Int) (M : Mem) => WM X 76 [(0, vR 51), (1, vI a1), (2, vI x2), (3, vI x3)] [] M) → WM X 76 [(0, vR 51), (1, vI a1), (2, vI x2), (3, vI x3)] [] M := by
    intro x2 x3 M h
    unfold B_X10_count_76 at h
    refine m_iload_n C 3 dX10_count_76 rfl rfl ?_
    refine m_aload_n C 0 dX10_count_77 rfl rfl ?_
    refine m_getI C (k := 11) cl_X10 (by decide) so_51 rfl fl_X10_76 dX10_count_78 ?_
    refine m_icmp_ge C (tgt := 103) dX10_count_81 (by decide) (fun e => ?_) (fun e => ?_)
    · have h := h.1 e
      refine m_iload_n C 2 dX10_count_103 rfl rfl ?_
      exact m_iret C E (Or.inl rfl) dX10_count_104 h
    · have h := h.2 e
      refine m_iload_n C 2 dX10_count_84 rfl rfl ?_
      refine m_aload_n C 0 dX10_count_85 rfl rfl ?_
      refine m_getR C (k := 10) cl_X10 (by decide) so_51 rfl fl_X10_29 dX10_count_86 ?_
      refine m_iconst C dX10_count_89 (r32_of rfl) ?_
      refine m_iload_n C 3 dX10_count_90 rfl rfl ?_
      refine m_imul C dX10_count_91 ?_
      refine m_iconst C dX10_count_92 (r32_of rfl) ?_
      refine m_iadd C dX10_count_93 ?_
      refine m_iald C (N := 18) sa_56 h.1 dX10_count_94 ?_
      have h := h.2
      refine m_iadd C dX10_count_95 ?_
      refine m_istore_n C (L' := [(2, vI (w32 (x2 + (M 56 (Int.toNat (w32 ((w32 (3 * x3)) + 2))))))), (0, vR 51), (1, vI a1), (3, vI x3)]) dX10_count_96 rfl (by rw [hnL]; decide) rfl ?_
      refine m_iinc C (L' := [(3, vI (w32 (x3 + 1))), (2, vI (w32 (x2 + (M 56 (Int.toNat (w32 ((w32 (3 * x3)) + 2))))))), (0, vR 51), (1, vI a1)]) 3 dX10_count_97 rfl (by rw [hnL]; decide) rfl ?_
      refine m_goto C (tgt := 76) dX10_count_100 (by decide) ?_
      exact m_sub [2, 3, 1, 0] rfl h
  have h := h (fun (x2 : Int) (x3 : Int) (M : Mem) => WM X 76 [(0, vR 51), (1, vI a1), (2, vI x2), (3, vI x3)] [] M) hb76
  unfold B_X10_count at h
  refine m_iload_n C 1 dX10_count_0 rfl rfl ?_
  refine m_i2l C dX10_count_1 ?_
  refine m_lconst C (x := 0) dX10_count_2 (by decide) (r64_of rfl) ?_
  refine m_ldc2 C (v := 5) dX10_count_3 kc_X10_107 (r64_of rfl) ?_
  refine m_callSi C (as := [vL a1, vL 0, vL 5]) (rest := []) ok_X10_in ml_X10_79 rfl rfl (Nat.le_of_ble_eq_true rfl) (fun _ => rfl) dX10_count_6 (Con.mono h (fun r1 M2 _ _ h => ?_))
  refine m_if_ne C (tgt := 15) dX10_count_9 (by decide) (fun e => ?_) (fun e => ?_)
  · have h := h.2 e
    refine m_iload_n C 1 dX10_count_15 rfl rfl ?_
    refine m_iconst C dX10_count_16 (r32_of rfl) ?_
    refine m_icmp_eq C (tgt := 72) dX10_count_17 (by decide) (fun e => ?_) (fun e => ?_)
    · have h := h.1 e
      refine m_iconst C dX10_count_72 (r32_of rfl) ?_
      refine m_istore_n C (L' := [(2, vI 0), (0, vR 51), (1, vI a1)]) dX10_count_73 rfl (by rw [hnL]; decide) rfl ?_
      refine m_iconst C dX10_count_74 (r32_of rfl) ?_
      refine m_istore_n C (L' := [(3, vI 0), (2, vI 0), (0, vR 51), (1, vI a1)]) dX10_count_75 rfl (by rw [hnL]; decide) rfl ?_
      exact m_sub [2, 3, 1, 0] rfl h
    · have h := h.2 e
      refine m_iload_n C 1 dX10_count_20 rfl rfl ?_
      refine m_if_ne C (tgt := 31) dX10_count_21 (by decide) (fun e => ?_) (fun e => ?_)
      · have h := h.2 e
        refine m_iload_n C 1 dX10_count_31 rfl rfl ?_
        refine m_iconst C dX10_count_32 (r32_of rfl) ?_
        refine m_icmp_ne C (tgt := 43) dX10_count_33 (by decide) (fun e => ?_) (fun e => ?_)
        · have h := h.2 e
          refine m_iload_n C 1 dX10_count_43 rfl rfl ?_
          refine m_iconst C dX10_count_44 (r32_of rfl) ?_
          refine m_icmp_ne C (tgt := 55) dX10_count_45 (by decide) (fun e => ?_) (fun e => ?_)
          · have h := h.2 e
            refine m_iload_n C 1 dX10_count_55 rfl rfl ?_
            refine m_iconst C dX10_count_56 (r32_of rfl) ?_
            refine m_icmp_ne C (tgt := 67) dX10_count_57 (by decide) (fun e => ?_) (fun e => ?_)
            · have h := h.2 e
              refine m_aload_n C 0 dX10_count_67 rfl rfl ?_
              refine m_getI C (k := 4) cl_X10 (by decide) so_51 rfl fl_X10_104 dX10_count_68 ?_
              exact m_iret C E (Or.inl rfl) dX10_count_71 h
            · have h := h.1 e
              refine m_aload_n C 0 dX10_count_60 rfl rfl ?_
              refine m_getI C (k := 6) cl_X10 (by decide) so_51 rfl fl_X10_129 dX10_count_61 ?_
              refine m_goto C (tgt := 71) dX10_count_64 (by decide) ?_
              exact m_iret C E (Or.inl rfl) dX10_count_71 h
          · have h := h.1 e
            refine m_aload_n C 0 dX10_count_48 rfl rfl ?_
            refine m_getI C (k := 3) cl_X10 (by decide) so_51 rfl fl_X10_73 dX10_count_49 ?_
            refine m_goto C (tgt := 71) dX10_count_52 (by decide) ?_
            exact m_iret C E (Or.inl rfl) dX10_count_71 h
        · have h := h.1 e
          refine m_aload_n C 0 dX10_count_36 rfl rfl ?_
          refine m_getI C (k := 14) cl_X10 (by decide) so_51 rfl fl_X10_246 dX10_count_37 ?_
          refine m_goto C (tgt := 71) dX10_count_40 (by decide) ?_
          exact m_iret C E (Or.inl rfl) dX10_count_71 h
      · have h := h.1 e
        refine m_aload_n C 0 dX10_count_24 rfl rfl ?_
        refine m_getI C (k := 11) cl_X10 (by decide) so_51 rfl fl_X10_76 dX10_count_25 ?_
        refine m_goto C (tgt := 71) dX10_count_28 (by decide) ?_
        exact m_iret C E (Or.inl rfl) dX10_count_71 h
  · have h := h.1 e
    refine m_bipush C dX10_count_12 (r32_of rfl) (by decide) ?_
    exact m_iret C E (Or.inl rfl) dX10_count_14 h
def B_X10_isSheet (n : Nat) (a1 : Int) (M : Mem) (Q : Int → Mem → Prop)  : Prop :=
  Con n md_X10_in [vL a1, vL 0, vL 3] M (fun r1 M2 =>
  ((r1 = 0 ∨ r1 = 1) ∧ Q r1 M2))
set_option maxHeartbeats 4000000 in
set_option maxRecDepth 20000 in
theorem g_X10_isSheet {n : Nat} {a1 : Int} {M : Mem} {Q : Int → Mem → Prop}  (h : B_X10_isSheet n a1 M Q) : Con (n + 1) md_X10_isSheet [vI a1] M Q := by
  refine Con.ofF (n := n + 1) (Nat.succ_pos n) pl_X10_isSheet (Nat.le_of_ble_eq_true rfl) (fun X C E hnL => ?_)
  have C : Cx X cX10_isSheet RX10 n := C
  show WM X 0 [(0, vI a1)] [] M
  unfold B_X10_isSheet at h
  refine m_iload_n C 0 dX10_isSheet_0 rfl rfl ?_
  refine m_i2l C dX10_isSheet_1 ?_
  refine m_lconst C (x := 0) dX10_isSheet_2 (by decide) (r64_of rfl) ?_
  refine m_ldc2 C (v := 3) dX10_isSheet_3 kc_X10_352 (r64_of rfl) ?_
  refine m_callSi C (as := [vL a1, vL 0, vL 3]) (rest := []) ok_X10_in ml_X10_79 rfl rfl (Nat.le_of_ble_eq_true rfl) (fun _ => rfl) dX10_isSheet_6 (Con.mono h (fun r1 M2 _ _ h => ?_))
  exact m_iret C E (Or.inr ⟨rfl, h.1⟩) dX10_isSheet_9 h.2
def B_X10_sheet_77 (n : Nat) (a1 : Int) (a2 : Int) (a3 : Int) (x4 : Int) (M : Mem) (Q : Int → Mem → Prop) (K77 : Int → Mem → Prop) : Prop :=
  ((a3 ≤ x4 →
  Q 1 M) ∧ (¬ a3 ≤ x4 →
  ((a2 < 0 →
    Q 1 M) ∧ (¬ a2 < 0 →
    ((0 ≤ (w32 ((w32 (40 * a1)) + x4)) ∧ (w32 ((w32 (40 * a1)) + x4)) < 160) ∧ (∀ M1 : Mem, M1 = up M 67 (Int.toNat (w32 ((w32 (40 * a1)) + x4))) 0 →
      K77 (w32 (x4 + 1)) M1))))))
def B_X10_sheet (n : Nat) (a1 : Int) (a2 : Int) (a3 : Int) (M : Mem) (Q : Int → Mem → Prop) (K77 : Int → Mem → Prop) : Prop :=
  Con n md_X10_isSheet [vI a1] M (fun r2 M3 =>
  ((r2 = 0 →
  Q (-2) M3) ∧ (¬ r2 = 0 →
  Con n md_X10_in [vL a2, vL (-1), vL 2] M3 (fun r4 M5 =>
    ((r4 = 0 →
    Q (-2) M5) ∧ (¬ r4 = 0 →
    ((a2 < 0 →
      ((a2 < 0 →
        ((a2 < 0 →
          ((0 ≤ a1 ∧ a1 < 4) ∧ (∀ M6 : Mem, M6 = up M5 64 (Int.toNat a1) 0 →
            ((0 ≤ a1 ∧ a1 < 4) ∧ (∀ M7 : Mem, M7 = up M6 65 (Int.toNat a1) a2 →
            ((0 ≤ a1 ∧ a1 < 4) ∧ (∀ M8 : Mem, M8 = up M7 66 (Int.toNat a1) a3 →
            K77 0 M8))))))) ∧ (¬ a2 < 0 →
          ((0 ≤ a1 ∧ a1 < 4) ∧ (∀ M9 : Mem, M9 = up M5 64 (Int.toNat a1) 1 →
            ((0 ≤ a1 ∧ a1 < 4) ∧ (∀ M10 : Mem, M10 = up M9 65 (Int.toNat a1) a2 →
            ((0 ≤ a1 ∧ a1 < 4) ∧ (∀ M11 : Mem, M11 = up M10 66 (Int.toNat a1) a3 →
            K77 0 M11))))))))) ∧ (¬ a2 < 0 →
        ((0 ≤ a3 →
          ((a2 < 0 →
            ((0 ≤ a1 ∧ a1 < 4) ∧ (∀ M12 : Mem, M12 = up M5 64 (Int.toNat a1) 0 →
              ((0 ≤ a1 ∧ a1 < 4) ∧ (∀ M13 : Mem, M13 = up M12 65 (Int.toNat a1) a2 →
              ((0 ≤ a1 ∧ a1 < 4) ∧ (∀ M14 : Mem, M14 = up M13 66 (Int.toNat a1) a3 →
              K77 0 M14))))))) ∧ (¬ a2 < 0 →
            ((0 ≤ a1 ∧ a1 < 4) ∧ (∀ M15 : Mem, M15 = up M5 64 (Int.toNat a1) 1 →
              ((0 ≤ a1 ∧ a1 < 4) ∧ (∀ M16 : Mem, M16 = up M15 65 (Int.toNat a1) a2 →
              ((0 ≤ a1 ∧ a1 < 4) ∧ (∀ M17 : Mem, M17 = up M16 66 (Int.toNat a1) a3 →
              K77 0 M17))))))))) ∧ (¬ 0 ≤ a3 →
          Q (-14) M5))))) ∧ (¬ a2 < 0 →
      ((a3 ≤ 40 →
        ((a2 < 0 →
          ((a2 < 0 →
            ((0 ≤ a1 ∧ a1 < 4) ∧ (∀ M18 : Mem, M18 = up M5 64 (Int.toNat a1) 0 →
              ((0 ≤ a1 ∧ a1 < 4) ∧ (∀ M19 : Mem, M19 = up M18 65 (Int.toNat a1) a2 →
              ((0 ≤ a1 ∧ a1 < 4) ∧ (∀ M20 : Mem, M20 = up M19 66 (Int.toNat a1) a3 →
              K77 0 M20))))))) ∧ (¬ a2 < 0 →
            ((0 ≤ a1 ∧ a1 < 4) ∧ (∀ M21 : Mem, M21 = up M5 64 (Int.toNat a1) 1 →
              ((0 ≤ a1 ∧ a1 < 4) ∧ (∀ M22 : Mem, M22 = up M21 65 (Int.toNat a1) a2 →
              ((0 ≤ a1 ∧ a1 < 4) ∧ (∀ M23 : Mem, M23 = up M22 66 (Int.toNat a1) a3 →
              K77 0 M23))))))))) ∧ (¬ a2 < 0 →
          ((0 ≤ a3 →
            ((a2 < 0 →
              ((0 ≤ a1 ∧ a1 < 4) ∧ (∀ M24 : Mem, M24 = up M5 64 (Int.toNat a1) 0 →
                ((0 ≤ a1 ∧ a1 < 4) ∧ (∀ M25 : Mem, M25 = up M24 65 (Int.toNat a1) a2 →
                ((0 ≤ a1 ∧ a1 < 4) ∧ (∀ M26 : Mem, M26 = up M25 66 (Int.toNat a1) a3 →
                K77 0 M26))))))) ∧ (¬ a2 < 0 →
              ((0 ≤ a1 ∧ a1 < 4) ∧ (∀ M27 : Mem, M27 = up M5 64 (Int.toNat a1) 1 →
                ((0 ≤ a1 ∧ a1 < 4) ∧ (∀ M28 : Mem, M28 = up M27 65 (Int.toNat a1) a2 →
                ((0 ≤ a1 ∧ a1 < 4) ∧ (∀ M29 : Mem, M29 = up M28 66 (Int.toNat a1) a3 →
                K77 0 M29))))))))) ∧ (¬ 0 ≤ a3 →
            Q (-14) M5))))) ∧ (¬ a3 ≤ 40 →
        Q (-2) M5))))))))))
set_option maxHeartbeats 4000000 in
set_option maxRecDepth 20000 in
theorem g_X10_sheet {n : Nat} {a1 : Int} {a2 : Int} {a3 : Int} {M : Mem} {Q : Int → Mem → Prop}  (h : ∀ (K77 : Int → Mem → Prop), (∀ (x4 : Int) (M : Mem), B_X10_sheet_77 n a1 a2 a3 x4 M Q K77 → K77 x4 M) → B_X10_sheet n a1 a2 a3 M Q K77) : Con (n + 1) md_X10_sheet [vR 51, vI a1, vI a2, vI a3] M Q := by
  refine Con.ofF (n := n + 1) (Nat.succ_pos n) pl_X10_sheet (Nat.le_of_ble_eq_true rfl) (fun X C E hnL => ?_)
  have C : Cx X cX10_sheet RX10 n := C
  show WM X 0 [(0, vR 51), (1, vI a1), (2, vI a2), (3, vI a3)] [] M
  have hb77 : ∀ (x4 : Int) (M : Mem), B_X10_sheet_77 n a1 a2 a3 x4 M Q (fun (x4 : Int) (M : Mem) => WM X 77 [(0, vR 51), (1, vI a1), (2, vI a2), (3, vI a3), (4, vI x4)] [] M) → WM X 77 [(0, vR 51), (1, vI a1), (2, vI a2), (3, vI a3), (4, vI x4)] [] M := by
    intro x4 M h
    unfold B_X10_sheet_77 at h
    refine m_iload C 4 dX10_sheet_77 rfl ?_
    refine m_iload_n C 3 dX10_sheet_79 rfl rfl ?_
    refine m_icmp_ge C (tgt := 106) dX10_sheet_80 (by decide) (fun e => ?_) (fun e => ?_)
    · have h := h.1 e
      refine m_iconst C dX10_sheet_106 (r32_of rfl) ?_
      exact m_iret C E (Or.inl rfl) dX10_sheet_107 h
    · have h := h.2 e
      refine m_iload_n C 2 dX10_sheet_83 rfl rfl ?_
      refine m_if_lt C (tgt := 106) dX10_sheet_84 (by decide) (fun e => ?_) (fun e => ?_)
      · have h := h.1 e
        refine m_iconst C dX10_sheet_106 (r32_of rfl) ?_
        exact m_iret C E (Or.inl rfl) dX10_sheet_107 h
      · have h := h.2 e
        refine m_aload_n C 0 dX10_sheet_87 rfl rfl ?_
        refine m_getR C (k := 45) cl_X10 (by decide) so_51 rfl fl_X10_66 dX10_sheet_88 ?_
        refine m_bipush C dX10_sheet_91 (r32_of rfl) (by decide) ?_
        refine m_iload_n C 1 dX10_sheet_93 rfl rfl ?_
        refine m_imul C dX10_sheet_94 ?_
        refine m_iload C 4 dX10_sheet_95 rfl ?_
        refine m_iadd C dX10_sheet_97 ?_
        refine m_iconst C dX10_sheet_98 (r32_of rfl) ?_
        refine m_iast C (N := 160) sa_67 h.1 dX10_sheet_99 ?_
        have h := h.2
        generalize eM1 : up M 67 (Int.toNat (w32 ((w32 (40 * a1)) + x4))) 0 = M1
        have h := h M1 eM1.symm
        refine m_iinc C (L' := [(4, vI (w32 (x4 + 1))), (0, vR 51), (1, vI a1), (2, vI a2), (3, vI a3)]) 4 dX10_sheet_100 rfl (by rw [hnL]; decide) rfl ?_
        refine m_goto C (tgt := 77) dX10_sheet_103 (by decide) ?_
        exact m_sub [1, 2, 3, 4, 0] rfl h
  have h := h (fun (x4 : Int) (M : Mem) => WM X 77 [(0, vR 51), (1, vI a1), (2, vI a2), (3, vI a3), (4, vI x4)] [] M) hb77
  unfold B_X10_sheet at h
  refine m_iload_n C 1 dX10_sheet_0 rfl rfl ?_
  refine m_callSi C (as := [vI a1]) (rest := []) ok_X10_isSheet ml_X10_310 rfl rfl (Nat.le_of_ble_eq_true rfl) (fun _ => rfl) dX10_sheet_1 (Con.mono h (fun r2 M3 _ _ h => ?_))
  refine m_if_eq C (tgt := 31) dX10_sheet_4 (by decide) (fun e => ?_) (fun e => ?_)
  · have h := h.1 e
    refine m_bipush C dX10_sheet_31 (r32_of rfl) (by decide) ?_
    exact m_iret C E (Or.inl rfl) dX10_sheet_33 h
  · have h := h.2 e
    refine m_iload_n C 2 dX10_sheet_7 rfl rfl ?_
    refine m_i2l C dX10_sheet_8 ?_
    refine m_ldc2 C (v := (-1)) dX10_sheet_9 kc_X10_354 (r64_of rfl) ?_
    refine m_ldc2 C (v := 2) dX10_sheet_12 kc_X10_356 (r64_of rfl) ?_
    refine m_callSi C (as := [vL a2, vL (-1), vL 2]) (rest := []) ok_X10_in ml_X10_79 rfl rfl (Nat.le_of_ble_eq_true rfl) (fun _ => rfl) dX10_sheet_15 (Con.mono h (fun r4 M5 _ _ h => ?_))
    refine m_if_eq C (tgt := 31) dX10_sheet_18 (by decide) (fun e => ?_) (fun e => ?_)
    · have h := h.1 e
      refine m_bipush C dX10_sheet_31 (r32_of rfl) (by decide) ?_
      exact m_iret C E (Or.inl rfl) dX10_sheet_33 h
    · have h := h.2 e
      refine m_iload_n C 2 dX10_sheet_21 rfl rfl ?_
      refine m_if_lt C (tgt := 34) dX10_sheet_22 (by decide) (fun e => ?_) (fun e => ?_)
      · have h := h.1 e
        refine m_iload_n C 2 dX10_sheet_34 rfl rfl ?_
        refine m_if_lt C (tgt := 45) dX10_sheet_35 (by decide) (fun e => ?_) (fun e => ?_)
        · have h := h.1 e
          refine m_aload_n C 0 dX10_sheet_45 rfl rfl ?_
          refine m_getR C (k := 42) cl_X10 (by decide) so_51 rfl fl_X10_56 dX10_sheet_46 ?_
          refine m_iload_n C 1 dX10_sheet_49 rfl rfl ?_
          refine m_iload_n C 2 dX10_sheet_50 rfl rfl ?_
          refine m_if_lt C (tgt := 58) dX10_sheet_51 (by decide) (fun e => ?_) (fun e => ?_)
          · have h := h.1 e
            refine m_iconst C dX10_sheet_58 (r32_of rfl) ?_
            refine m_zast C (N := 4) sa_64 h.1 (Or.inl rfl) dX10_sheet_59 ?_
            have h := h.2
            generalize eM6 : up M5 64 (Int.toNat a1) 0 = M6
            have h := h M6 eM6.symm
            refine m_aload_n C 0 dX10_sheet_60 rfl rfl ?_
            refine m_getR C (k := 43) cl_X10 (by decide) so_51 rfl fl_X10_60 dX10_sheet_61 ?_
            refine m_iload_n C 1 dX10_sheet_64 rfl rfl ?_
            refine m_iload_n C 2 dX10_sheet_65 rfl rfl ?_
            refine m_iast C (N := 4) sa_65 h.1 dX10_sheet_66 ?_
            have h := h.2
            generalize eM7 : up M6 65 (Int.toNat a1) a2 = M7
            have h := h M7 eM7.symm
            refine m_aload_n C 0 dX10_sheet_67 rfl rfl ?_
            refine m_getR C (k := 44) cl_X10 (by decide) so_51 rfl fl_X10_63 dX10_sheet_68 ?_
            refine m_iload_n C 1 dX10_sheet_71 rfl rfl ?_
            refine m_iload_n C 3 dX10_sheet_72 rfl rfl ?_
            refine m_iast C (N := 4) sa_66 h.1 dX10_sheet_73 ?_
            have h := h.2
            generalize eM8 : up M7 66 (Int.toNat a1) a3 = M8
            have h := h M8 eM8.symm
            refine m_iconst C dX10_sheet_74 (r32_of rfl) ?_
            refine m_istore C (L' := [(4, vI 0), (0, vR 51), (1, vI a1), (2, vI a2), (3, vI a3)]) dX10_sheet_75 (by rw [hnL]; decide) rfl ?_
            exact m_sub [1, 2, 3, 4, 0] rfl h
          · have h := h.2 e
            refine m_iconst C dX10_sheet_54 (r32_of rfl) ?_
            refine m_goto C (tgt := 59) dX10_sheet_55 (by decide) ?_
            refine m_zast C (N := 4) sa_64 h.1 (Or.inr rfl) dX10_sheet_59 ?_
            have h := h.2
            generalize eM9 : up M5 64 (Int.toNat a1) 1 = M9
            have h := h M9 eM9.symm
            refine m_aload_n C 0 dX10_sheet_60 rfl rfl ?_
            refine m_getR C (k := 43) cl_X10 (by decide) so_51 rfl fl_X10_60 dX10_sheet_61 ?_
            refine m_iload_n C 1 dX10_sheet_64 rfl rfl ?_
            refine m_iload_n C 2 dX10_sheet_65 rfl rfl ?_
            refine m_iast C (N := 4) sa_65 h.1 dX10_sheet_66 ?_
            have h := h.2
            generalize eM10 : up M9 65 (Int.toNat a1) a2 = M10
            have h := h M10 eM10.symm
            refine m_aload_n C 0 dX10_sheet_67 rfl rfl ?_
            refine m_getR C (k := 44) cl_X10 (by decide) so_51 rfl fl_X10_63 dX10_sheet_68 ?_
            refine m_iload_n C 1 dX10_sheet_71 rfl rfl ?_
            refine m_iload_n C 3 dX10_sheet_72 rfl rfl ?_
            refine m_iast C (N := 4) sa_66 h.1 dX10_sheet_73 ?_
            have h := h.2
            generalize eM11 : up M10 66 (Int.toNat a1) a3 = M11
            have h := h M11 eM11.symm
            refine m_iconst C dX10_sheet_74 (r32_of rfl) ?_
            refine m_istore C (L' := [(4, vI 0), (0, vR 51), (1, vI a1), (2, vI a2), (3, vI a3)]) dX10_sheet_75 (by rw [hnL]; decide) rfl ?_
            exact m_sub [1, 2, 3, 4, 0] rfl h
        · have h := h.2 e
          refine m_iload_n C 3 dX10_sheet_38 rfl rfl ?_
          refine m_if_ge C (tgt := 45) dX10_sheet_39 (by decide) (fun e => ?_) (fun e => ?_)
          · have h := h.1 e
            refine m_aload_n C 0 dX10_sheet_45 rfl rfl ?_
            refine m_getR C (k := 42) cl_X10 (by decide) so_51 rfl fl_X10_56 dX10_sheet_46 ?_
            refine m_iload_n C 1 dX10_sheet_49 rfl rfl ?_
            refine m_iload_n C 2 dX10_sheet_50 rfl rfl ?_
            refine m_if_lt C (tgt := 58) dX10_sheet_51 (by decide) (fun e => ?_) (fun e => ?_)
            · have h := h.1 e
              refine m_iconst C dX10_sheet_58 (r32_of rfl) ?_
              refine m_zast C (N := 4) sa_64 h.1 (Or.inl rfl) dX10_sheet_59 ?_
              have h := h.2
              generalize eM12 : up M5 64 (Int.toNat a1) 0 = M12
              have h := h M12 eM12.symm
              refine m_aload_n C 0 dX10_sheet_60 rfl rfl ?_
              refine m_getR C (k := 43) cl_X10 (by decide) so_51 rfl fl_X10_60 dX10_sheet_61 ?_
              refine m_iload_n C 1 dX10_sheet_64 rfl rfl ?_
              refine m_iload_n C 2 dX10_sheet_65 rfl rfl ?_
              refine m_iast C (N := 4) sa_65 h.1 dX10_sheet_66 ?_
              have h := h.2
              generalize eM13 : up M12 65 (Int.toNat a1) a2 = M13
              have h := h M13 eM13.symm
              refine m_aload_n C 0 dX10_sheet_67 rfl rfl ?_
              refine m_getR C (k := 44) cl_X10 (by decide) so_51 rfl fl_X10_63 dX10_sheet_68 ?_
              refine m_iload_n C 1 dX10_sheet_71 rfl rfl ?_
              refine m_iload_n C 3 dX10_sheet_72 rfl rfl ?_
              refine m_iast C (N := 4) sa_66 h.1 dX10_sheet_73 ?_
              have h := h.2
              generalize eM14 : up M13 66 (Int.toNat a1) a3 = M14
              have h := h M14 eM14.symm
              refine m_iconst C dX10_sheet_74 (r32_of rfl) ?_
              refine m_istore C (L' := [(4, vI 0), (0, vR 51), (1, vI a1), (2, vI a2), (3, vI a3)]) dX10_sheet_75 (by rw [hnL]; decide) rfl ?_
              exact m_sub [1, 2, 3, 4, 0] rfl h
            · have h := h.2 e
              refine m_iconst C dX10_sheet_54 (r32_of rfl) ?_
              refine m_goto C (tgt := 59) dX10_sheet_55 (by decide) ?_
              refine m_zast C (N := 4) sa_64 h.1 (Or.inr rfl) dX10_sheet_59 ?_
              have h := h.2
              generalize eM15 : up M5 64 (Int.toNat a1) 1 = M15
              have h := h M15 eM15.symm
              refine m_aload_n C 0 dX10_sheet_60 rfl rfl ?_
              refine m_getR C (k := 43) cl_X10 (by decide) so_51 rfl fl_X10_60 dX10_sheet_61 ?_
              refine m_iload_n C 1 dX10_sheet_64 rfl rfl ?_
              refine m_iload_n C 2 dX10_sheet_65 rfl rfl ?_
              refine m_iast C (N := 4) sa_65 h.1 dX10_sheet_66 ?_
              have h := h.2
              generalize eM16 : up M15 65 (Int.toNat a1) a2 = M16
              have h := h M16 eM16.symm
              refine m_aload_n C 0 dX10_sheet_67 rfl rfl ?_
              refine m_getR C (k := 44) cl_X10 (by decide) so_51 rfl fl_X10_63 dX10_sheet_68 ?_
              refine m_iload_n C 1 dX10_sheet_71 rfl rfl ?_
              refine m_iload_n C 3 dX10_sheet_72 rfl rfl ?_
              refine m_iast C (N := 4) sa_66 h.1 dX10_sheet_73 ?_
              have h := h.2
              generalize eM17 : up M16 66 (Int.toNat a1) a3 = M17
              have h := h M17 eM17.symm
              refine m_iconst C dX10_sheet_74 (r32_of rfl) ?_
              refine m_istore C (L' := [(4, vI 0), (0, vR 51), (1, vI a1), (2, vI a2), (3, vI a3)]) dX10_sheet_75 (by rw [hnL]; decide) rfl ?_
              exact m_sub [1, 2, 3, 4, 0] rfl h
          · have h := h.2 e
            refine m_bipush C dX10_sheet_42 (r32_of rfl) (by decide) ?_
            exact m_iret C E (Or.inl rfl) dX10_sheet_44 h
      · have h := h.2 e
        refine m_iload_n C 3 dX10_sheet_25 rfl rfl ?_
        refine m_bipush C dX10_sheet_26 (r32_of rfl) (by decide) ?_
        refine m_icmp_le C (tgt := 34) dX10_sheet_28 (by decide) (fun e => ?_) (fun e => ?_)
        · have h := h.1 e
          refine m_iload_n C 2 dX10_sheet_34 rfl rfl ?_
          refine m_if_lt C (tgt := 45) dX10_sheet_35 (by decide) (fun e => ?_) (fun e => ?_)
          · have h := h.1 e
            refine m_aload_n C 0 dX10_sheet_45 rfl rfl ?_
            refine m_getR C (k := 42) cl_X10 (by decide) so_51 rfl fl_X10_56 dX10_sheet_46 ?_
            refine m_iload_n C 1 dX10_sheet_49 rfl rfl ?_
            refine m_iload_n C 2 dX10_sheet_50 rfl rfl ?_
            refine m_if_lt C (tgt := 58) dX10_sheet_51 (by decide) (fun e => ?_) (fun e => ?_)
            · have h := h.1 e
              refine m_iconst C dX10_sheet_58 (r32_of rfl) ?_
              refine m_zast C (N := 4) sa_64 h.1 (Or.inl rfl) dX10_sheet_59 ?_
              have h := h.2
              generalize eM18 : up M5 64 (Int.toNat a1) 0 = M18
              have h := h M18 eM18.symm
              refine m_aload_n C 0 dX10_sheet_60 rfl rfl ?_
              refine m_getR C (k := 43) cl_X10 (by decide) so_51 rfl fl_X10_60 dX10_sheet_61 ?_
              refine m_iload_n C 1 dX10_sheet_64 rfl rfl ?_
              refine m_iload_n C 2 dX10_sheet_65 rfl rfl ?_
              refine m_iast C (N := 4) sa_65 h.1 dX10_sheet_66 ?_
              have h := h.2
              generalize eM19 : up M18 65 (Int.toNat a1) a2 = M19
              have h := h M19 eM19.symm
              refine m_aload_n C 0 dX10_sheet_67 rfl rfl ?_
              refine m_getR C (k := 44) cl_X10 (by decide) so_51 rfl fl_X10_63 dX10_sheet_68 ?_
              refine m_iload_n C 1 dX10_sheet_71 rfl rfl ?_
              refine m_iload_n C 3 dX10_sheet_72 rfl rfl ?_
              refine m_iast C (N := 4) sa_66 h.1 dX10_sheet_73 ?_
              have h := h.2
              generalize eM20 : up M19 66 (Int.toNat a1) a3 = M20
              have h := h M20 eM20.symm
              refine m_iconst C dX10_sheet_74 (r32_of rfl) ?_
              refine m_istore C (L' := [(4, vI 0), (0, vR 51), (1, vI a1), (2, vI a2), (3, vI a3)]) dX10_sheet_75 (by rw [hnL]; decide) rfl ?_
              exact m_sub [1, 2, 3, 4, 0] rfl h
            · have h := h.2 e
              refine m_iconst C dX10_sheet_54 (r32_of rfl) ?_
              refine m_goto C (tgt := 59) dX10_sheet_55 (by decide) ?_
              refine m_zast C (N := 4) sa_64 h.1 (Or.inr rfl) dX10_sheet_59 ?_
              have h := h.2
              generalize eM21 : up M5 64 (Int.toNat a1) 1 = M21
              have h := h M21 eM21.symm
              refine m_aload_n C 0 dX10_sheet_60 rfl rfl ?_
              refine m_getR C (k := 43) cl_X10 (by decide) so_51 rfl fl_X10_60 dX10_sheet_61 ?_
              refine m_iload_n C 1 dX10_sheet_64 rfl rfl ?_
              refine m_iload_n C 2 dX10_sheet_65 rfl rfl ?_
              refine m_iast C (N := 4) sa_65 h.1 dX10_sheet_66 ?_
              have h := h.2
              generalize eM22 : up M21 65 (Int.toNat a1) a2 = M22
              have h := h M22 eM22.symm
              refine m_aload_n C 0 dX10_sheet_67 rfl rfl ?_
              refine m_getR C (k := 44) cl_X10 (by decide) so_51 rfl fl_X10_63 dX10_sheet_68 ?_
              refine m_iload_n C 1 dX10_sheet_71 rfl rfl ?_
              refine m_iload_n C 3 dX10_sheet_72 rfl rfl ?_
              refine m_iast C (N := 4) sa_66 h.1 dX10_sheet_73 ?_
              have h := h.2
              generalize eM23 : up M22 66 (Int.toNat a1) a3 = M23
              have h := h M23 eM23.symm
              refine m_iconst C dX10_sheet_74 (r32_of rfl) ?_
              refine m_istore C (L' := [(4, vI 0), (0, vR 51), (1, vI a1), (2, vI a2), (3, vI a3)]) dX10_sheet_75 (by rw [hnL]; decide) rfl ?_
              exact m_sub [1, 2, 3, 4, 0] rfl h
          · have h := h.2 e
            refine m_iload_n C 3 dX10_sheet_38 rfl rfl ?_
            refine m_if_ge C (tgt := 45) dX10_sheet_39 (by decide) (fun e => ?_) (fun e => ?_)
            · have h := h.1 e
              refine m_aload_n C 0 dX10_sheet_45 rfl rfl ?_
              refine m_getR C (k := 42) cl_X10 (by decide) so_51 rfl fl_X10_56 dX10_sheet_46 ?_
              refine m_iload_n C 1 dX10_sheet_49 rfl rfl ?_
              refine m_iload_n C 2 dX10_sheet_50 rfl rfl ?_
              refine m_if_lt C (tgt := 58) dX10_sheet_51 (by decide) (fun e => ?_) (fun e => ?_)
              · have h := h.1 e
                refine m_iconst C dX10_sheet_58 (r32_of rfl) ?_
                refine m_zast C (N := 4) sa_64 h.1 (Or.inl rfl) dX10_sheet_59 ?_
                have h := h.2
                generalize eM24 : up M5 64 (Int.toNat a1) 0 = M24
                have h := h M24 eM24.symm
                refine m_aload_n C 0 dX10_sheet_60 rfl rfl ?_
                refine m_getR C (k := 43) cl_X10 (by decide) so_51 rfl fl_X10_60 dX10_sheet_61 ?_
                refine m_iload_n C 1 dX10_sheet_64 rfl rfl ?_
                refine m_iload_n C 2 dX10_sheet_65 rfl rfl ?_
                refine m_iast C (N := 4) sa_65 h.1 dX10_sheet_66 ?_
                have h := h.2
                generalize eM25 : up M24 65 (Int.toNat a1) a2 = M25
                have h := h M25 eM25.symm
                refine m_aload_n C 0 dX10_sheet_67 rfl rfl ?_
                refine m_getR C (k := 44) cl_X10 (by decide) so_51 rfl fl_X10_63 dX10_sheet_68 ?_
                refine m_iload_n C 1 dX10_sheet_71 rfl rfl ?_
                refine m_iload_n C 3 dX10_sheet_72 rfl rfl ?_
                refine m_iast C (N := 4) sa_66 h.1 dX10_sheet_73 ?_
                have h := h.2
                generalize eM26 : up M25 66 (Int.toNat a1) a3 = M26
                have h := h M26 eM26.symm
                refine m_iconst C dX10_sheet_74 (r32_of rfl) ?_
                refine m_istore C (L' := [(4, vI 0), (0, vR 51), (1, vI a1), (2, vI a2), (3, vI a3)]) dX10_sheet_75 (by rw [hnL]; decide) rfl ?_
                exact m_sub [1, 2, 3, 4, 0] rfl h
              · have h := h.2 e
                refine m_iconst C dX10_sheet_54 (r32_of rfl) ?_
                refine m_goto C (tgt := 59) dX10_sheet_55 (by decide) ?_
                refine m_zast C (N := 4) sa_64 h.1 (Or.inr rfl) dX10_sheet_59 ?_
                have h := h.2
                generalize eM27 : up M5 64 (Int.toNat a1) 1 = M27
                have h := h M27 eM27.symm
                refine m_aload_n C 0 dX10_sheet_60 rfl rfl ?_
                refine m_getR C (k := 43) cl_X10 (by decide) so_51 rfl fl_X10_60 dX10_sheet_61 ?_
                refine m_iload_n C 1 dX10_sheet_64 rfl rfl ?_
                refine m_iload_n C 2 dX10_sheet_65 rfl rfl ?_
                refine m_iast C (N := 4) sa_65 h.1 dX10_sheet_66 ?_
                have h := h.2
                generalize eM28 : up M27 65 (Int.toNat a1) a2 = M28
                have h := h M28 eM28.symm
                refine m_aload_n C 0 dX10_sheet_67 rfl rfl ?_
                refine m_getR C (k := 44) cl_X10 (by decide) so_51 rfl fl_X10_63 dX10_sheet_68 ?_
                refine m_iload_n C 1 dX10_sheet_71 rfl rfl ?_
                refine m_iload_n C 3 dX10_sheet_72 rfl rfl ?_
                refine m_iast C (N := 4) sa_66 h.1 dX10_sheet_73 ?_
                have h := h.2
                generalize eM29 : up M28 66 (Int.toNat a1) a3 = M29
                have h := h M29 eM29.symm
                refine m_iconst C dX10_sheet_74 (r32_of rfl) ?_
                refine m_istore C (L' := [(4, vI 0), (0, vR 51), (1, vI a1), (2, vI a2), (3, vI a3)]) dX10_sheet_75 (by rw [hnL]; decide) rfl ?_
                exact m_sub [1, 2, 3, 4, 0] rfl h
            · have h := h.2 e
              refine m_bipush C dX10_sheet_42 (r32_of rfl) (by decide) ?_
              exact m_iret C E (Or.inl rfl) dX10_sheet_44 h
        · have h := h.2 e
          refine m_bipush C dX10_sheet_31 (r32_of rfl) (by decide) ?_
          exact m_iret C E (Or.inl rfl) dX10_sheet_33 h
def B_X10_cell (n : Nat) (a1 : Int) (a2 : Int) (a3 : Int) (M : Mem) (Q : Int → Mem → Prop)  : Prop :=
  Con n md_X10_isSheet [vI a1] M (fun r1 M2 =>
  ((r1 = 0 →
  Q (-2) M2) ∧ (¬ r1 = 0 →
  ((0 ≤ a1 ∧ a1 < 4) ∧ (((M2 64 (Int.toNat a1)) = 0 →
    Q (-11) M2) ∧ (¬ (M2 64 (Int.toNat a1)) = 0 →
    ((0 ≤ a1 ∧ a1 < 4) ∧ Con n md_X10_in [vL a2, vL 0, vL (w32 ((M2 66 (Int.toNat a1)) - 1))] M2 (fun r3 M4 =>
      ((r3 = 0 →
      Q (-12) M4) ∧ (¬ r3 = 0 →
      ((0 ≤ a1 ∧ a1 < 4) ∧ (((M4 65 (Int.toNat a1)) = 0 →
        ((0 ≤ (w32 ((w32 (40 * a1)) + a2)) ∧ (w32 ((w32 (40 * a1)) + a2)) < 160) ∧ (∀ M7 : Mem, M7 = up M4 67 (Int.toNat (w32 ((w32 (40 * a1)) + a2))) (t_b a3) →
          Q 1 M7))) ∧ (¬ (M4 65 (Int.toNat a1)) = 0 →
        ((0 ≤ a1 ∧ a1 < 4) ∧ (((M4 65 (Int.toNat a1)) = 1 →
          ((0 ≤ (w32 ((w32 (40 * a1)) + a2)) ∧ (w32 ((w32 (40 * a1)) + a2)) < 160) ∧ (∀ M6 : Mem, M6 = up M4 67 (Int.toNat (w32 ((w32 (40 * a1)) + a2))) (t_s a3) →
            Q 1 M6))) ∧ (¬ (M4 65 (Int.toNat a1)) = 1 →
          ((0 ≤ (w32 ((w32 (40 * a1)) + a2)) ∧ (w32 ((w32 (40 * a1)) + a2)) < 160) ∧ (∀ M5 : Mem, M5 = up M4 67 (Int.toNat (w32 ((w32 (40 * a1)) + a2))) a3 →
            Q 1 M5))))))))))))))))))
set_option maxHeartbeats 4000000 in
set_option maxRecDepth 20000 in
theorem g_X10_cell {n : Nat} {a1 : Int} {a2 : Int} {a3 : Int} {M : Mem} {Q : Int → Mem → Prop}  (h : B_X10_cell n a1 a2 a3 M Q) : Con (n + 1) md_X10_cell [vR 51, vI a1, vI a2, vI a3] M Q := by
  refine Con.ofF (n := n + 1) (Nat.succ_pos n) pl_X10_cell (Nat.le_of_ble_eq_true rfl) (fun X C E hnL => ?_)
  have C : Cx X cX10_cell RX10 n := C
  show WM X 0 [(0, vR 51), (1, vI a1), (2, vI a2), (3, vI a3)] [] M
  unfold B_X10_cell at h
  refine m_iload_n C 1 dX10_cell_0 rfl rfl ?_
  refine m_callSi C (as := [vI a1]) (rest := []) ok_X10_isSheet ml_X10_310 rfl rfl (Nat.le_of_ble_eq_true rfl) (fun _ => rfl) dX10_cell_1 (Con.mono h (fun r1 M2 _ _ h => ?_))
  refine m_if_ne C (tgt := 10) dX10_cell_4 (by decide) (fun e => ?_) (fun e => ?_)
  · have h := h.2 e
    refine m_aload_n C 0 dX10_cell_10 rfl rfl ?_
    refine m_getR C (k := 42) cl_X10 (by decide) so_51 rfl fl_X10_56 dX10_cell_11 ?_
    refine m_iload_n C 1 dX10_cell_14 rfl rfl ?_
    refine m_zald C (N := 4) sa_64 h.1 dX10_cell_15 ?_
    have h := h.2
    refine m_if_ne C (tgt := 22) dX10_cell_16 (by decide) (fun e => ?_) (fun e => ?_)
    · have h := h.2 e
      refine m_iload_n C 2 dX10_cell_22 rfl rfl ?_
      refine m_i2l C dX10_cell_23 ?_
      refine m_lconst C (x := 0) dX10_cell_24 (by decide) (r64_of rfl) ?_
      refine m_aload_n C 0 dX10_cell_25 rfl rfl ?_
      refine m_getR C (k := 44) cl_X10 (by decide) so_51 rfl fl_X10_63 dX10_cell_26 ?_
      refine m_iload_n C 1 dX10_cell_29 rfl rfl ?_
      refine m_iald C (N := 4) sa_66 h.1 dX10_cell_30 ?_
      have h := h.2
      refine m_iconst C dX10_cell_31 (r32_of rfl) ?_
      refine m_isub C dX10_cell_32 ?_
      refine m_i2l C dX10_cell_33 ?_
      refine m_callSi C (as := [vL a2, vL 0, vL (w32 ((M2 66 (Int.toNat a1)) - 1))]) (rest := []) ok_X10_in ml_X10_79 rfl rfl (Nat.le_of_ble_eq_true rfl) (fun _ => rfl) dX10_cell_34 (Con.mono h (fun r3 M4 _ _ h => ?_))
      refine m_if_ne C (tgt := 43) dX10_cell_37 (by decide) (fun e => ?_) (fun e => ?_)
      · have h := h.2 e
        refine m_aload_n C 0 dX10_cell_43 rfl rfl ?_
        refine m_getR C (k := 45) cl_X10 (by decide) so_51 rfl fl_X10_66 dX10_cell_44 ?_
        refine m_bipush C dX10_cell_47 (r32_of rfl) (by decide) ?_
        refine m_iload_n C 1 dX10_cell_49 rfl rfl ?_
        refine m_imul C dX10_cell_50 ?_
        refine m_iload_n C 2 dX10_cell_51 rfl rfl ?_
        refine m_iadd C dX10_cell_52 ?_
        refine m_aload_n C 0 dX10_cell_53 rfl rfl ?_
        refine m_getR C (k := 43) cl_X10 (by decide) so_51 rfl fl_X10_60 dX10_cell_54 ?_
        refine m_iload_n C 1 dX10_cell_57 rfl rfl ?_
        refine m_iald C (N := 4) sa_65 h.1 dX10_cell_58 ?_
        have h := h.2
        refine m_if_ne C (tgt := 67) dX10_cell_59 (by decide) (fun e => ?_) (fun e => ?_)
        · have h := h.2 e
          refine m_aload_n C 0 dX10_cell_67 rfl rfl ?_
          refine m_getR C (k := 43) cl_X10 (by decide) so_51 rfl fl_X10_60 dX10_cell_68 ?_
          refine m_iload_n C 1 dX10_cell_71 rfl rfl ?_
          refine m_iald C (N := 4) sa_65 h.1 dX10_cell_72 ?_
          have h := h.2
          refine m_iconst C dX10_cell_73 (r32_of rfl) ?_
          refine m_icmp_ne C (tgt := 82) dX10_cell_74 (by decide) (fun e => ?_) (fun e => ?_)
          · have h := h.2 e
            refine m_iload_n C 3 dX10_cell_82 rfl rfl ?_
            refine m_iast C (N := 160) sa_67 h.1 dX10_cell_83 ?_
            have h := h.2
            generalize eM5 : up M4 67 (Int.toNat (w32 ((w32 (40 * a1)) + a2))) a3 = M5
            have h := h M5 eM5.symm
            refine m_iconst C dX10_cell_84 (r32_of rfl) ?_
            exact m_iret C E (Or.inl rfl) dX10_cell_85 h
          · have h := h.1 e
            refine m_iload_n C 3 dX10_cell_77 rfl rfl ?_
            refine m_i2s C dX10_cell_78 ?_
            refine m_goto C (tgt := 83) dX10_cell_79 (by decide) ?_
            refine m_iast C (N := 160) sa_67 h.1 dX10_cell_83 ?_
            have h := h.2
            generalize eM6 : up M4 67 (Int.toNat (w32 ((w32 (40 * a1)) + a2))) (t_s a3) = M6
            have h := h M6 eM6.symm
            refine m_iconst C dX10_cell_84 (r32_of rfl) ?_
            exact m_iret C E (Or.inl rfl) dX10_cell_85 h
        · have h := h.1 e
          refine m_iload_n C 3 dX10_cell_62 rfl rfl ?_
          refine m_i2b C dX10_cell_63 ?_
          refine m_goto C (tgt := 83) dX10_cell_64 (by decide) ?_
          refine m_iast C (N := 160) sa_67 h.1 dX10_cell_83 ?_
          have h := h.2
          generalize eM7 : up M4 67 (Int.toNat (w32 ((w32 (40 * a1)) + a2))) (t_b a3) = M7
          have h := h M7 eM7.symm
          refine m_iconst C dX10_cell_84 (r32_of rfl) ?_
          exact m_iret C E (Or.inl rfl) dX10_cell_85 h
      · have h := h.1 e
        refine m_bipush C dX10_cell_40 (r32_of rfl) (by decide) ?_
        exact m_iret C E (Or.inl rfl) dX10_cell_42 h
    · have h := h.1 e
      refine m_bipush C dX10_cell_19 (r32_of rfl) (by decide) ?_
      exact m_iret C E (Or.inl rfl) dX10_cell_21 h
  · have h := h.1 e
    refine m_bipush C dX10_cell_7 (r32_of rfl) (by decide) ?_
    exact m_iret C E (Or.inl rfl) dX10_cell_9 h
def B_X10_copy_121 (n : Nat) (a1 : Int) (a2 : Int) (a3 : Int) (a4 : Int) (a5 : Int) (x6 : Int) (x7 : Int) (M : Mem) (Q : Int → Mem → Prop) (K121 : Int → Int → Mem → Prop) : Prop :=
  ((a5 ≤ x7 →
  Q a5 M) ∧ (¬ a5 ≤ x7 →
  ((x6 = 0 →
    ((0 ≤ (w32 ((w32 ((w32 (40 * a1)) + a2)) + x7)) ∧ (w32 ((w32 ((w32 (40 * a1)) + a2)) + x7)) < 160) ∧ ((0 ≤ (w32 ((w32 ((w32 (40 * a3)) + a4)) + x7)) ∧ (w32 ((w32 ((w32 (40 * a3)) + a4)) + x7)) < 160) ∧ (∀ M1 : Mem, M1 = up M 67 (Int.toNat (w32 ((w32 ((w32 (40 * a3)) + a4)) + x7))) (M 67 (Int.toNat (w32 ((w32 ((w32 (40 * a1)) + a2)) + x7)))) →
      K121 x6 (w32 (x7 + 1)) M1)))) ∧ (¬ x6 = 0 →
    ((0 ≤ (w32 ((w32 ((w32 (40 * a1)) + a2)) + (w32 ((w32 (a5 - 1)) - x7)))) ∧ (w32 ((w32 ((w32 (40 * a1)) + a2)) + (w32 ((w32 (a5 - 1)) - x7)))) < 160) ∧ ((0 ≤ (w32 ((w32 ((w32 (40 * a3)) + a4)) + (w32 ((w32 (a5 - 1)) - x7)))) ∧ (w32 ((w32 ((w32 (40 * a3)) + a4)) + (w32 ((w32 (a5 - 1)) - x7)))) < 160) ∧ (∀ M2 : Mem, M2 = up M 67 (Int.toNat (w32 ((w32 ((w32 (40 * a3)) + a4)) + (w32 ((w32 (a5 - 1)) - x7))))) (M 67 (Int.toNat (w32 ((w32 ((w32 (40 * a1)) + a2)) + (w32 ((w32 (a5 - 1)) - x7)))))) →
      K121 x6 (w32 (x7 + 1)) M2)))))))
def B_X10_copy (n : Nat) (a1 : Int) (a2 : Int) (a3 : Int) (a4 : Int) (a5 : Int) (M : Mem) (Q : Int → Mem → Prop) (K121 : Int → Int → Mem → Prop) : Prop :=
  Con n md_X10_isSheet [vI a1] M (fun r3 M4 =>
  ((r3 = 0 →
  Q (-2) M4) ∧ (¬ r3 = 0 →
  Con n md_X10_isSheet [vI a3] M4 (fun r5 M6 =>
    ((r5 = 0 →
    Q (-2) M6) ∧ (¬ r5 = 0 →
    ((0 ≤ a1 ∧ a1 < 4) ∧ (((M6 64 (Int.toNat a1)) = 0 →
      Q (-11) M6) ∧ (¬ (M6 64 (Int.toNat a1)) = 0 →
      ((0 ≤ a3 ∧ a3 < 4) ∧ (((M6 64 (Int.toNat a3)) = 0 →
        Q (-11) M6) ∧ (¬ (M6 64 (Int.toNat a3)) = 0 →
        ((0 ≤ a1 ∧ a1 < 4) ∧ ((0 ≤ a3 ∧ a3 < 4) ∧ (((M6 65 (Int.toNat a1)) = (M6 65 (Int.toNat a3)) →
          ((a5 < 0 →
            Q (-12) M6) ∧ (¬ a5 < 0 →
            ((a2 < 0 →
              Q (-12) M6) ∧ (¬ a2 < 0 →
              ((a4 < 0 →
                Q (-12) M6) ∧ (¬ a4 < 0 →
                ((0 ≤ a1 ∧ a1 < 4) ∧ (((w32 ((M6 66 (Int.toNat a1)) - a5)) < a2 →
                  Q (-12) M6) ∧ (¬ (w32 ((M6 66 (Int.toNat a1)) - a5)) < a2 →
                  ((0 ≤ a3 ∧ a3 < 4) ∧ ((a4 ≤ (w32 ((M6 66 (Int.toNat a3)) - a5)) →
                    ((a1 = a3 →
                      ((a4 ≤ a2 →
                        K121 0 0 M6) ∧ (¬ a4 ≤ a2 →
                        K121 1 0 M6))) ∧ (¬ a1 = a3 →
                      K121 0 0 M6))) ∧ (¬ a4 ≤ (w32 ((M6 66 (Int.toNat a3)) - a5)) →
                    Q (-12) M6))))))))))))) ∧ (¬ (M6 65 (Int.toNat a1)) = (M6 65 (Int.toNat a3)) →
          Q (-13) M6))))))))))))))))
set_option maxHeartbeats 4000000 in
set_option maxRecDepth 20000 in
theorem g_X10_copy {n : Nat} {a1 : Int} {a2 : Int} {a3 : Int} {a4 : Int} {a5 : Int} {M : Mem} {Q : Int → Mem → Prop}  (h : ∀ (K121 : Int → Int → Mem → Prop), (∀ (x6 : Int) (x7 : Int) (M : Mem), B_X10_copy_121 n a1 a2 a3 a4 a5 x6 x7 M Q K121 → K121 x6 x7 M) → B_X10_copy n a1 a2 a3 a4 a5 M Q K121) : Con (n + 1) md_X10_copy [vR 51, vI a1, vI a2, vI a3, vI a4, vI a5] M Q := by
  refine Con.ofF (n := n + 1) (Nat.succ_pos n) pl_X10_copy (Nat.le_of_ble_eq_true rfl) (fun X C E hnL => ?_)
  have C : Cx X cX10_copy RX10 n := C
  show WM X 0 [(0, vR 51), (1, vI a1), (2, vI a2), (3, vI a3), (4, vI a4), (5, vI a5)] [] M
  have hb121 : ∀ (x6 : Int) (x7 : Int) (M : Mem), B_X10_copy_121 n a1 a2 a3 a4 a5 x6 x7 M Q (fun (x6 : Int) (x7 : Int) (M : Mem) => WM X 121 [(0, vR 51), (1, vI a1), (2, vI a2), (3, vI a3), (4, vI a4), (5, vI a5), (6, vI x6), (7, vI x7)] [] M) → WM X 121 [(0, vR 51), (1, vI a1), (2, vI a2), (3, vI a3), (4, vI a4), (5, vI a5), (6, vI x6), (7, vI x7)] [] M := by
    intro x6 x7 M h
    unfold B_X10_copy_121 at h
    refine m_iload C 7 dX10_copy_121 rfl ?_
    refine m_iload C 5 dX10_copy_123 rfl ?_
    refine m_icmp_ge C (tgt := 182) dX10_copy_125 (by decide) (fun e => ?_) (fun e => ?_)
    · have h := h.1 e
      refine m_iload C 5 dX10_copy_182 rfl ?_
      exact m_iret C E (Or.inl rfl) dX10_copy_184 h
    · have h := h.2 e
      refine m_iload C 6 dX10_copy_128 rfl ?_
      refine m_if_eq C (tgt := 143) dX10_copy_130 (by decide) (fun e => ?_) (fun e => ?_)
      · have h := h.1 e
        refine m_iload C 7 dX10_copy_143 rfl ?_
        refine m_istore C (L' := [(8, vI x7), (0, vR 51), (1, vI a1), (2, vI a2), (3, vI a3), (4, vI a4), (5, vI a5), (6, vI x6), (7, vI x7)]) dX10_copy_145 (by rw [hnL]; decide) rfl ?_
        refine m_aload_n C 1 dX10_copy_147 rfl rfl ?_
        refine m_getR C (k := 45) cl_X10 (by decide) so_51 rfl fl_X10_66 dX10_copy_148 ?_
        refine m_bipush C dX10_copy_151 (r32_of rfl) (by decide) ?_
        refine m_iload_n C 4 dX10_copy_153 rfl rfl ?_
        refine m_imul C dX10_copy_154 ?_
        refine m_iload C 5 dX10_copy_155 rfl ?_
        refine m_iadd C dX10_copy_157 ?_
        refine m_iload C 0 dX10_copy_158 rfl ?_
        refine m_iadd C dX10_copy_160 ?_
        refine m_aload_n C 1 dX10_copy_161 rfl rfl ?_
        refine m_getR C (k := 45) cl_X10 (by decide) so_51 rfl fl_X10_66 dX10_copy_162 ?_
        refine m_bipush C dX10_copy_165 (r32_of rfl) (by decide) ?_
        refine m_iload_n C 2 dX10_copy_167 rfl rfl ?_
        refine m_imul C dX10_copy_168 ?_
        refine m_iload_n C 3 dX10_copy_169 rfl rfl ?_
        refine m_iadd C dX10_copy_170 ?_
        refine m_iload C 0 dX10_copy_171 rfl ?_
        refine m_iadd C dX10_copy_173 ?_
        refine m_iald C (N := 160) sa_67 h.1 dX10_copy_174 ?_
        have h := h.2
        refine m_iast C (N := 160) sa_67 h.1 dX10_copy_175 ?_
        have h := h.2
        generalize eM1 : up M 67 (Int.toNat (w32 ((w32 ((w32 (40 * a3)) + a4)) + x7))) (M 67 (Int.toNat (w32 ((w32 ((w32 (40 * a1)) + a2)) + x7)))) = M1
        have h := h M1 eM1.symm
        refine m_iinc C (L' := [(7, vI (w32 (x7 + 1))), (8, vI x7), (0, vR 51), (1, vI a1), (2, vI a2), (3, vI a3), (4, vI a4), (5, vI a5), (6, vI x6)]) 8 dX10_copy_176 rfl (by rw [hnL]; decide) rfl ?_
        refine m_goto C (tgt := 121) dX10_copy_179 (by decide) ?_
        exact m_sub [2, 3, 4, 5, 6, 7, 8, 0] rfl h
      · have h := h.2 e
        refine m_iload C 5 dX10_copy_133 rfl ?_
        refine m_iconst C dX10_copy_135 (r32_of rfl) ?_
        refine m_isub C dX10_copy_136 ?_
        refine m_iload C 7 dX10_copy_137 rfl ?_
        refine m_isub C dX10_copy_139 ?_
        refine m_goto C (tgt := 145) dX10_copy_140 (by decide) ?_
        refine m_istore C (L' := [(8, vI (w32 ((w32 (a5 - 1)) - x7))), (0, vR 51), (1, vI a1), (2, vI a2), (3, vI a3), (4, vI a4), (5, vI a5), (6, vI x6), (7, vI x7)]) dX10_copy_145 (by rw [hnL]; decide) rfl ?_
        refine m_aload_n C 1 dX10_copy_147 rfl rfl ?_
        refine m_getR C (k := 45) cl_X10 (by decide) so_51 rfl fl_X10_66 dX10_copy_148 ?_
        refine m_bipush C dX10_copy_151 (r32_of rfl) (by decide) ?_
        refine m_iload_n C 4 dX10_copy_153 rfl rfl ?_
        refine m_imul C dX10_copy_154 ?_
        refine m_iload C 5 dX10_copy_155 rfl ?_
        refine m_iadd C dX10_copy_157 ?_
        refine m_iload C 0 dX10_copy_158 rfl ?_
        refine m_iadd C dX10_copy_160 ?_
        refine m_aload_n C 1 dX10_copy_161 rfl rfl ?_
        refine m_getR C (k := 45) cl_X10 (by decide) so_51 rfl fl_X10_66 dX10_copy_162 ?_
        refine m_bipush C dX10_copy_165 (r32_of rfl) (by decide) ?_
        refine m_iload_n C 2 dX10_copy_167 rfl rfl ?_
        refine m_imul C dX10_copy_168 ?_
        refine m_iload_n C 3 dX10_copy_169 rfl rfl ?_
        refine m_iadd C dX10_copy_170 ?_
        refine m_iload C 0 dX10_copy_171 rfl ?_
        refine m_iadd C dX10_copy_173 ?_
        refine m_iald C (N := 160) sa_67 h.1 dX10_copy_174 ?_
        have h := h.2
        refine m_iast C (N := 160) sa_67 h.1 dX10_copy_175 ?_
        have h := h.2
        generalize eM2 : up M 67 (Int.toNat (w32 ((w32 ((w32 (40 * a3)) + a4)) + (w32 ((w32 (a5 - 1)) - x7))))) (M 67 (Int.toNat (w32 ((w32 ((w32 (40 * a1)) + a2)) + (w32 ((w32 (a5 - 1)) - x7)))))) = M2
        have h := h M2 eM2.symm
        refine m_iinc C (L' := [(7, vI (w32 (x7 + 1))), (8, vI (w32 ((w32 (a5 - 1)) - x7))), (0, vR 51), (1, vI a1), (2, vI a2), (3, vI a3), (4, vI a4), (5, vI a5), (6, vI x6)]) 8 dX10_copy_176 rfl (by rw [hnL]; decide) rfl ?_
        refine m_goto C (tgt := 121) dX10_copy_179 (by decide) ?_
        exact m_sub [2, 3, 4, 5, 6, 7, 8, 0] rfl h
  have h := h (fun (x6 : Int) (x7 : Int) (M : Mem) => WM X 121 [(0, vR 51), (1, vI a1), (2, vI a2), (3, vI a3), (4, vI a4), (5, vI a5), (6, vI x6), (7, vI x7)] [] M) hb121
  unfold B_X10_copy at h
  refine m_iload_n C 1 dX10_copy_0 rfl rfl ?_
  refine m_callSi C (as := [vI a1]) (rest := []) ok_X10_isSheet ml_X10_310 rfl rfl (Nat.le_of_ble_eq_true rfl) (fun _ => rfl) dX10_copy_1 (Con.mono h (fun r3 M4 _ _ h => ?_))
  refine m_if_eq C (tgt := 14) dX10_copy_4 (by decide) (fun e => ?_) (fun e => ?_)
  · have h := h.1 e
    refine m_bipush C dX10_copy_14 (r32_of rfl) (by decide) ?_
    exact m_iret C E (Or.inl rfl) dX10_copy_16 h
  · have h := h.2 e
    refine m_iload_n C 3 dX10_copy_7 rfl rfl ?_
    refine m_callSi C (as := [vI a3]) (rest := []) ok_X10_isSheet ml_X10_310 rfl rfl (Nat.le_of_ble_eq_true rfl) (fun _ => rfl) dX10_copy_8 (Con.mono h (fun r5 M6 _ _ h => ?_))
    refine m_if_ne C (tgt := 17) dX10_copy_11 (by decide) (fun e => ?_) (fun e => ?_)
    · have h := h.2 e
      refine m_aload_n C 0 dX10_copy_17 rfl rfl ?_
      refine m_getR C (k := 42) cl_X10 (by decide) so_51 rfl fl_X10_56 dX10_copy_18 ?_
      refine m_iload_n C 1 dX10_copy_21 rfl rfl ?_
      refine m_zald C (N := 4) sa_64 h.1 dX10_copy_22 ?_
      have h := h.2
      refine m_if_eq C (tgt := 35) dX10_copy_23 (by decide) (fun e => ?_) (fun e => ?_)
      · have h := h.1 e
        refine m_bipush C dX10_copy_35 (r32_of rfl) (by decide) ?_
        exact m_iret C E (Or.inl rfl) dX10_copy_37 h
      · have h := h.2 e
        refine m_aload_n C 0 dX10_copy_26 rfl rfl ?_
        refine m_getR C (k := 42) cl_X10 (by decide) so_51 rfl fl_X10_56 dX10_copy_27 ?_
        refine m_iload_n C 3 dX10_copy_30 rfl rfl ?_
        refine m_zald C (N := 4) sa_64 h.1 dX10_copy_31 ?_
        have h := h.2
        refine m_if_ne C (tgt := 38) dX10_copy_32 (by decide) (fun e => ?_) (fun e => ?_)
        · have h := h.2 e
          refine m_aload_n C 0 dX10_copy_38 rfl rfl ?_
          refine m_getR C (k := 43) cl_X10 (by decide) so_51 rfl fl_X10_60 dX10_copy_39 ?_
          refine m_iload_n C 1 dX10_copy_42 rfl rfl ?_
          refine m_iald C (N := 4) sa_65 h.1 dX10_copy_43 ?_
          have h := h.2
          refine m_aload_n C 0 dX10_copy_44 rfl rfl ?_
          refine m_getR C (k := 43) cl_X10 (by decide) so_51 rfl fl_X10_60 dX10_copy_45 ?_
          refine m_iload_n C 3 dX10_copy_48 rfl rfl ?_
          refine m_iald C (N := 4) sa_65 h.1 dX10_copy_49 ?_
          have h := h.2
          refine m_icmp_eq C (tgt := 56) dX10_copy_50 (by decide) (fun e => ?_) (fun e => ?_)
          · have h := h.1 e
            refine m_iload C 5 dX10_copy_56 rfl ?_
            refine m_if_lt C (tgt := 97) dX10_copy_58 (by decide) (fun e => ?_) (fun e => ?_)
            · have h := h.1 e
              refine m_bipush C dX10_copy_97 (r32_of rfl) (by decide) ?_
              exact m_iret C E (Or.inl rfl) dX10_copy_99 h
            · have h := h.2 e
              refine m_iload_n C 2 dX10_copy_61 rfl rfl ?_
              refine m_if_lt C (tgt := 97) dX10_copy_62 (by decide) (fun e => ?_) (fun e => ?_)
              · have h := h.1 e
                refine m_bipush C dX10_copy_97 (r32_of rfl) (by decide) ?_
                exact m_iret C E (Or.inl rfl) dX10_copy_99 h
              · have h := h.2 e
                refine m_iload C 4 dX10_copy_65 rfl ?_
                refine m_if_lt C (tgt := 97) dX10_copy_67 (by decide) (fun e => ?_) (fun e => ?_)
                · have h := h.1 e
                  refine m_bipush C dX10_copy_97 (r32_of rfl) (by decide) ?_
                  exact m_iret C E (Or.inl rfl) dX10_copy_99 h
                · have h := h.2 e
                  refine m_iload_n C 2 dX10_copy_70 rfl rfl ?_
                  refine m_aload_n C 0 dX10_copy_71 rfl rfl ?_
                  refine m_getR C (k := 44) cl_X10 (by decide) so_51 rfl fl_X10_63 dX10_copy_72 ?_
                  refine m_iload_n C 1 dX10_copy_75 rfl rfl ?_
                  refine m_iald C (N := 4) sa_66 h.1 dX10_copy_76 ?_
                  have h := h.2
                  refine m_iload C 5 dX10_copy_77 rfl ?_
                  refine m_isub C dX10_copy_79 ?_
                  refine m_icmp_gt C (tgt := 97) dX10_copy_80 (by decide) (fun e => ?_) (fun e => ?_)
                  · have h := h.1 e
                    refine m_bipush C dX10_copy_97 (r32_of rfl) (by decide) ?_
                    exact m_iret C E (Or.inl rfl) dX10_copy_99 h
                  · have h := h.2 e
                    refine m_iload C 4 dX10_copy_83 rfl ?_
                    refine m_aload_n C 0 dX10_copy_85 rfl rfl ?_
                    refine m_getR C (k := 44) cl_X10 (by decide) so_51 rfl fl_X10_63 dX10_copy_86 ?_
                    refine m_iload_n C 3 dX10_copy_89 rfl rfl ?_
                    refine m_iald C (N := 4) sa_66 h.1 dX10_copy_90 ?_
                    have h := h.2
                    refine m_iload C 5 dX10_copy_91 rfl ?_
                    refine m_isub C dX10_copy_93 ?_
                    refine m_icmp_le C (tgt := 100) dX10_copy_94 (by decide) (fun e => ?_) (fun e => ?_)
                    · have h := h.1 e
                      refine m_iload_n C 1 dX10_copy_100 rfl rfl ?_
                      refine m_iload_n C 3 dX10_copy_101 rfl rfl ?_
                      refine m_icmp_ne C (tgt := 115) dX10_copy_102 (by decide) (fun e => ?_) (fun e => ?_)
                      · have h := h.2 e
                        refine m_iconst C dX10_copy_115 (r32_of rfl) ?_
                        refine m_istore C (L' := [(6, vI 0), (0, vR 51), (1, vI a1), (2, vI a2), (3, vI a3), (4, vI a4), (5, vI a5)]) dX10_copy_116 (by rw [hnL]; decide) rfl ?_
                        refine m_iconst C dX10_copy_118 (r32_of rfl) ?_
                        refine m_istore C (L' := [(7, vI 0), (6, vI 0), (0, vR 51), (1, vI a1), (2, vI a2), (3, vI a3), (4, vI a4), (5, vI a5)]) dX10_copy_119 (by rw [hnL]; decide) rfl ?_
                        exact m_sub [2, 3, 4, 5, 6, 7, 1, 0] rfl h
                      · have h := h.1 e
                        refine m_iload_n C 2 dX10_copy_105 rfl rfl ?_
                        refine m_iload C 4 dX10_copy_106 rfl ?_
                        refine m_icmp_ge C (tgt := 115) dX10_copy_108 (by decide) (fun e => ?_) (fun e => ?_)
                        · have h := h.1 e
                          refine m_iconst C dX10_copy_115 (r32_of rfl) ?_
                          refine m_istore C (L' := [(6, vI 0), (0, vR 51), (1, vI a1), (2, vI a2), (3, vI a3), (4, vI a4), (5, vI a5)]) dX10_copy_116 (by rw [hnL]; decide) rfl ?_
                          refine m_iconst C dX10_copy_118 (r32_of rfl) ?_
                          refine m_istore C (L' := [(7, vI 0), (6, vI 0), (0, vR 51), (1, vI a1), (2, vI a2), (3, vI a3), (4, vI a4), (5, vI a5)]) dX10_copy_119 (by rw [hnL]; decide) rfl ?_
                          exact m_sub [2, 3, 4, 5, 6, 7, 1, 0] rfl h
                        · have h := h.2 e
                          refine m_iconst C dX10_copy_111 (r32_of rfl) ?_
                          refine m_goto C (tgt := 116) dX10_copy_112 (by decide) ?_
                          refine m_istore C (L' := [(6, vI 1), (0, vR 51), (1, vI a1), (2, vI a2), (3, vI a3), (4, vI a4), (5, vI a5)]) dX10_copy_116 (by rw [hnL]; decide) rfl ?_
                          refine m_iconst C dX10_copy_118 (r32_of rfl) ?_
                          refine m_istore C (L' := [(7, vI 0), (6, vI 1), (0, vR 51), (1, vI a1), (2, vI a2), (3, vI a3), (4, vI a4), (5, vI a5)]) dX10_copy_119 (by rw [hnL]; decide) rfl ?_
                          exact m_sub [2, 3, 4, 5, 6, 7, 1, 0] rfl h
                    · have h := h.2 e
                      refine m_bipush C dX10_copy_97 (r32_of rfl) (by decide) ?_
                      exact m_iret C E (Or.inl rfl) dX10_copy_99 h
          · have h := h.2 e
            refine m_bipush C dX10_copy_53 (r32_of rfl) (by decide) ?_
            exact m_iret C E (Or.inl rfl) dX10_copy_55 h
        · have h := h.1 e
          refine m_bipush C dX10_copy_35 (r32_of rfl) (by decide) ?_
          exact m_iret C E (Or.inl rfl) dX10_copy_37 h
    · have h := h.1 e
      refine m_bipush C dX10_copy_14 (r32_of rfl) (by decide) ?_
      exact m_iret C E (Or.inl rfl) dX10_copy_16 h
def B_X10_flowers_75 (n : Nat) (a1 : Int) (a2 : Int) (a3 : Int) (a4 : Int) (x5 : Int) (x6 : Int) (M : Mem) (Q : Int → Mem → Prop) (K75 : Int → Int → Mem → Prop) : Prop :=
  ((a4 ≤ x6 →
  Q x5 M) ∧ (¬ a4 ≤ x6 →
  ((a3 < 0 →
    Q (-12) M) ∧ (¬ a3 < 0 →
    ((0 ≤ a1 ∧ a1 < 4) ∧ ((a3 ≤ (w32 ((w32 ((M 66 (Int.toNat a1)) - (w32 (2 * x6)))) - 2)) →
      ((0 ≤ (w32 ((w32 ((w32 (40 * a1)) + a3)) + (w32 (2 * x6)))) ∧ (w32 ((w32 ((w32 (40 * a1)) + a3)) + (w32 (2 * x6)))) < 160) ∧ ((0 ≤ (w32 ((w32 ((w32 ((w32 (40 * a1)) + a3)) + (w32 (2 * x6)))) + 1)) ∧ (w32 ((w32 ((w32 ((w32 (40 * a1)) + a3)) + (w32 (2 * x6)))) + 1)) < 160) ∧ Con n md_X10_flower [vR 51, vI (M 67 (Int.toNat (w32 ((w32 ((w32 (40 * a1)) + a3)) + (w32 (2 * x6)))))), vI (M 67 (Int.toNat (w32 ((w32 ((w32 ((w32 (40 * a1)) + a3)) + (w32 (2 * x6)))) + 1))))] M (fun r1 M2 =>
        ((r1 < 0 →
        K75 (w32 (x5 + 0)) (w32 (x6 + 1)) M2) ∧ (¬ r1 < 0 →
        K75 (w32 (x5 + 1)) (w32 (x6 + 1)) M2)))))) ∧ (¬ a3 ≤ (w32 ((w32 ((M 66 (Int.toNat a1)) - (w32 (2 * x6)))) - 2)) →
      Q (-12) M)))))))
def B_X10_flowers (n : Nat) (a1 : Int) (a2 : Int) (a3 : Int) (a4 : Int) (M : Mem) (Q : Int → Mem → Prop) (K75 : Int → Int → Mem → Prop) : Prop :=
  Con n md_X10_isSheet [vI a1] M (fun r3 M4 =>
  ((r3 = 0 →
  Q (-2) M4) ∧ (¬ r3 = 0 →
  Con n md_X10_in [vL a2, vL 0, vL 2] M4 (fun r5 M6 =>
    ((r5 = 0 →
    Q (-2) M6) ∧ (¬ r5 = 0 →
    Con n md_X10_in [vL a4, vL 0, vL 6] M6 (fun r7 M8 =>
      ((r7 = 0 →
      Q (-2) M8) ∧ (¬ r7 = 0 →
      ((0 ≤ a1 ∧ a1 < 4) ∧ (((M8 64 (Int.toNat a1)) = 0 →
        ((0 ≤ a1 ∧ a1 < 4) ∧ (((M8 64 (Int.toNat a1)) = 0 →
          Q (-11) M8) ∧ (¬ (M8 64 (Int.toNat a1)) = 0 →
          K75 0 0 M8)))) ∧ (¬ (M8 64 (Int.toNat a1)) = 0 →
        ((0 ≤ a1 ∧ a1 < 4) ∧ (((M8 65 (Int.toNat a1)) = a2 →
          ((0 ≤ a1 ∧ a1 < 4) ∧ (((M8 64 (Int.toNat a1)) = 0 →
            Q (-11) M8) ∧ (¬ (M8 64 (Int.toNat a1)) = 0 →
            K75 0 0 M8)))) ∧ (¬ (M8 65 (Int.toNat a1)) = a2 →
          Q (-13) M8)))))))))))))))
set_option maxHeartbeats 4000000 in
set_option maxRecDepth 20000 in
theorem g_X10_flowers {n : Nat} {a1 : Int} {a2 : Int} {a3 : Int} {a4 : Int} {M : Mem} {Q : Int → Mem → Prop}  (h : ∀ (K75 : Int → Int → Mem → Prop), (∀ (x5 : Int) (x6 : Int) (M : Mem), B_X10_flowers_75 n a1 a2 a3 a4 x5 x6 M Q K75 → K75 x5 x6 M) → B_X10_flowers n a1 a2 a3 a4 M Q K75) : Con (n + 1) md_X10_flowers [vR 51, vI a1, vI a2, vI a3, vI a4] M Q := by
  refine Con.ofF (n := n + 1) (Nat.succ_pos n) pl_X10_flowers (Nat.le_of_ble_eq_true rfl) (fun X C E hnL => ?_)
  have C : Cx X cX10_flowers RX10 n := C
  show WM X 0 [(0, vR 51), (1, vI a1), (2, vI a2), (3, vI a3), (4, vI a4)] [] M
  have hb75 : ∀ (x5 : Int) (x6 : Int) (M : Mem), B_X10_flowers_75 n a1 a2 a3 a4 x5 x6 M Q (fun (x5 : Int) (x6 : Int) (M : Mem) => WM X 75 [(0, vR 51), (1, vI a1), (2, vI a2), (3, vI a3), (4, vI a4), (5, vI x5), (6, vI x6)] [] M) → WM X 75 [(0, vR 51), (1, vI a1), (2, vI a2), (3, vI a3), (4, vI a4), (5, vI x5), (6, vI x6)] [] M := by
    intro x5 x6 M h
    unfold B_X10_flowers_75 at h
    refine m_iload C 6 dX10_flowers_75 rfl ?_
    refine m_iload C 4 dX10_flowers_77 rfl ?_
    refine m_icmp_ge C (tgt := 158) dX10_flowers_79 (by decide) (fun e => ?_) (fun e => ?_)
    · have h := h.1 e
      refine m_iload C 5 dX10_flowers_158 rfl ?_
      exact m_iret C E (Or.inl rfl) dX10_flowers_160 h
    · have h := h.2 e
      refine m_iload_n C 3 dX10_flowers_82 rfl rfl ?_
      refine m_if_lt C (tgt := 103) dX10_flowers_83 (by decide) (fun e => ?_) (fun e => ?_)
      · have h := h.1 e
        refine m_bipush C dX10_flowers_103 (r32_of rfl) (by decide) ?_
        exact m_iret C E (Or.inl rfl) dX10_flowers_105 h
      · have h := h.2 e
        refine m_iload_n C 3 dX10_flowers_86 rfl rfl ?_
        refine m_aload_n C 0 dX10_flowers_87 rfl rfl ?_
        refine m_getR C (k := 44) cl_X10 (by decide) so_51 rfl fl_X10_63 dX10_flowers_88 ?_
        refine m_iload_n C 1 dX10_flowers_91 rfl rfl ?_
        refine m_iald C (N := 4) sa_66 h.1 dX10_flowers_92 ?_
        have h := h.2
        refine m_iconst C dX10_flowers_93 (r32_of rfl) ?_
        refine m_iload C 6 dX10_flowers_94 rfl ?_
        refine m_imul C dX10_flowers_96 ?_
        refine m_isub C dX10_flowers_97 ?_
        refine m_iconst C dX10_flowers_98 (r32_of rfl) ?_
        refine m_isub C dX10_flowers_99 ?_
        refine m_icmp_le C (tgt := 106) dX10_flowers_100 (by decide) (fun e => ?_) (fun e => ?_)
        · have h := h.1 e
          refine m_bipush C dX10_flowers_106 (r32_of rfl) (by decide) ?_
          refine m_iload_n C 1 dX10_flowers_108 rfl rfl ?_
          refine m_imul C dX10_flowers_109 ?_
          refine m_iload_n C 3 dX10_flowers_110 rfl rfl ?_
          refine m_iadd C dX10_flowers_111 ?_
          refine m_iconst C dX10_flowers_112 (r32_of rfl) ?_
          refine m_iload C 6 dX10_flowers_113 rfl ?_
          refine m_imul C dX10_flowers_115 ?_
          refine m_iadd C dX10_flowers_116 ?_
          refine m_istore C (L' := [(7, vI (w32 ((w32 ((w32 (40 * a1)) + a3)) + (w32 (2 * x6))))), (0, vR 51), (1, vI a1), (2, vI a2), (3, vI a3), (4, vI a4), (5, vI x5), (6, vI x6)]) dX10_flowers_117 (by rw [hnL]; decide) rfl ?_
          refine m_iload C 6 dX10_flowers_119 rfl ?_
          refine m_aload_n C 1 dX10_flowers_121 rfl rfl ?_
          refine m_aload_n C 1 dX10_flowers_122 rfl rfl ?_
          refine m_getR C (k := 45) cl_X10 (by decide) so_51 rfl fl_X10_66 dX10_flowers_123 ?_
          refine m_iload C 0 dX10_flowers_126 rfl ?_
          refine m_iald C (N := 160) sa_67 h.1 dX10_flowers_128 ?_
          have h := h.2
          refine m_aload_n C 1 dX10_flowers_129 rfl rfl ?_
          refine m_getR C (k := 45) cl_X10 (by decide) so_51 rfl fl_X10_66 dX10_flowers_130 ?_
          refine m_iload C 0 dX10_flowers_133 rfl ?_
          refine m_iconst C dX10_flowers_135 (r32_of rfl) ?_
          refine m_iadd C dX10_flowers_136 ?_
          refine m_iald C (N := 160) sa_67 h.1 dX10_flowers_137 ?_
          have h := h.2
          refine m_callVi C (as := [vI (M 67 (Int.toNat (w32 ((w32 ((w32 (40 * a1)) + a3)) + (w32 (2 * x6)))))), vI (M 67 (Int.toNat (w32 ((w32 ((w32 ((w32 (40 * a1)) + a3)) + (w32 (2 * x6)))) + 1))))]) (rest := [vI x5]) ok_X10_flower ml_X10_358 so_51 rfl rfl rfl (Nat.le_of_ble_eq_true rfl) (fun _ => rfl) dX10_flowers_138 (Con.mono h (fun r1 M2 _ _ h => ?_))
          refine m_if_lt C (tgt := 148) dX10_flowers_141 (by decide) (fun e => ?_) (fun e => ?_)
          · have h := h.1 e
            refine m_iconst C dX10_flowers_148 (r32_of rfl) ?_
            refine m_iadd C dX10_flowers_149 ?_
            refine m_istore C (L' := [(5, vI (w32 (x5 + 0))), (7, vI (w32 ((w32 ((w32 (40 * a1)) + a3)) + (w32 (2 * x6))))), (0, vR 51), (1, vI a1), (2, vI a2), (3, vI a3), (4, vI a4), (6, vI x6)]) dX10_flowers_150 (by rw [hnL]; decide) rfl ?_
            refine m_iinc C (L' := [(6, vI (w32 (x6 + 1))), (5, vI (w32 (x5 + 0))), (7, vI (w32 ((w32 ((w32 (40 * a1)) + a3)) + (w32 (2 * x6))))), (0, vR 51), (1, vI a1), (2, vI a2), (3, vI a3), (4, vI a4)]) 7 dX10_flowers_152 rfl (by rw [hnL]; decide) rfl ?_
            refine m_goto C (tgt := 75) dX10_flowers_155 (by decide) ?_
            exact m_sub [3, 4, 5, 6, 7, 1, 0] rfl h
          · have h := h.2 e
            refine m_iconst C dX10_flowers_144 (r32_of rfl) ?_
            refine m_goto C (tgt := 149) dX10_flowers_145 (by decide) ?_
            refine m_iadd C dX10_flowers_149 ?_
            refine m_istore C (L' := [(5, vI (w32 (x5 + 1))), (7, vI (w32 ((w32 ((w32 (40 * a1)) + a3)) + (w32 (2 * x6))))), (0, vR 51), (1, vI a1), (2, vI a2), (3, vI a3), (4, vI a4), (6, vI x6)]) dX10_flowers_150 (by rw [hnL]; decide) rfl ?_
            refine m_iinc C (L' := [(6, vI (w32 (x6 + 1))), (5, vI (w32 (x5 + 1))), (7, vI (w32 ((w32 ((w32 (40 * a1)) + a3)) + (w32 (2 * x6))))), (0, vR 51), (1, vI a1), (2, vI a2), (3, vI a3), (4, vI a4)]) 7 dX10_flowers_152 rfl (by rw [hnL]; decide) rfl ?_
            refine m_goto C (tgt := 75) dX10_flowers_155 (by decide) ?_
            exact m_sub [3, 4, 5, 6, 7, 1, 0] rfl h
        · have h := h.2 e
          refine m_bipush C dX10_flowers_103 (r32_of rfl) (by decide) ?_
          exact m_iret C E (Or.inl rfl) dX10_flowers_105 h
  have h := h (fun (x5 : Int) (x6 : Int) (M : Mem) => WM X 75 [(0, vR 51), (1, vI a1), (2, vI a2), (3, vI a3), (4, vI a4), (5, vI x5), (6, vI x6)] [] M) hb75
  unfold B_X10_flowers at h
  refine m_iload_n C 1 dX10_flowers_0 rfl rfl ?_
  refine m_callSi C (as := [vI a1]) (rest := []) ok_X10_isSheet ml_X10_310 rfl rfl (Nat.le_of_ble_eq_true rfl) (fun _ => rfl) dX10_flowers_1 (Con.mono h (fun r3 M4 _ _ h => ?_))
  refine m_if_eq C (tgt := 32) dX10_flowers_4 (by decide) (fun e => ?_) (fun e => ?_)
  · have h := h.1 e
    refine m_bipush C dX10_flowers_32 (r32_of rfl) (by decide) ?_
    exact m_iret C E (Or.inl rfl) dX10_flowers_34 h
  · have h := h.2 e
    refine m_iload_n C 2 dX10_flowers_7 rfl rfl ?_
    refine m_i2l C dX10_flowers_8 ?_
    refine m_lconst C (x := 0) dX10_flowers_9 (by decide) (r64_of rfl) ?_
    refine m_ldc2 C (v := 2) dX10_flowers_10 kc_X10_356 (r64_of rfl) ?_
    refine m_callSi C (as := [vL a2, vL 0, vL 2]) (rest := []) ok_X10_in ml_X10_79 rfl rfl (Nat.le_of_ble_eq_true rfl) (fun _ => rfl) dX10_flowers_13 (Con.mono h (fun r5 M6 _ _ h => ?_))
    refine m_if_eq C (tgt := 32) dX10_flowers_16 (by decide) (fun e => ?_) (fun e => ?_)
    · have h := h.1 e
      refine m_bipush C dX10_flowers_32 (r32_of rfl) (by decide) ?_
      exact m_iret C E (Or.inl rfl) dX10_flowers_34 h
    · have h := h.2 e
      refine m_iload C 4 dX10_flowers_19 rfl ?_
      refine m_i2l C dX10_flowers_21 ?_
      refine m_lconst C (x := 0) dX10_flowers_22 (by decide) (r64_of rfl) ?_
      refine m_ldc2 C (v := 6) dX10_flowers_23 kc_X10_308 (r64_of rfl) ?_
      refine m_callSi C (as := [vL a4, vL 0, vL 6]) (rest := []) ok_X10_in ml_X10_79 rfl rfl (Nat.le_of_ble_eq_true rfl) (fun _ => rfl) dX10_flowers_26 (Con.mono h (fun r7 M8 _ _ h => ?_))
      refine m_if_ne C (tgt := 35) dX10_flowers_29 (by decide) (fun e => ?_) (fun e => ?_)
      · have h := h.2 e
        refine m_aload_n C 0 dX10_flowers_35 rfl rfl ?_
        refine m_getR C (k := 42) cl_X10 (by decide) so_51 rfl fl_X10_56 dX10_flowers_36 ?_
        refine m_iload_n C 1 dX10_flowers_39 rfl rfl ?_
        refine m_zald C (N := 4) sa_64 h.1 dX10_flowers_40 ?_
        have h := h.2
        refine m_if_eq C (tgt := 57) dX10_flowers_41 (by decide) (fun e => ?_) (fun e => ?_)
        · have h := h.1 e
          refine m_aload_n C 0 dX10_flowers_57 rfl rfl ?_
          refine m_getR C (k := 42) cl_X10 (by decide) so_51 rfl fl_X10_56 dX10_flowers_58 ?_
          refine m_iload_n C 1 dX10_flowers_61 rfl rfl ?_
          refine m_zald C (N := 4) sa_64 h.1 dX10_flowers_62 ?_
          have h := h.2
          refine m_if_ne C (tgt := 69) dX10_flowers_63 (by decide) (fun e => ?_) (fun e => ?_)
          · have h := h.2 e
            refine m_iconst C dX10_flowers_69 (r32_of rfl) ?_
            refine m_istore C (L' := [(5, vI 0), (0, vR 51), (1, vI a1), (2, vI a2), (3, vI a3), (4, vI a4)]) dX10_flowers_70 (by rw [hnL]; decide) rfl ?_
            refine m_iconst C dX10_flowers_72 (r32_of rfl) ?_
            refine m_istore C (L' := [(6, vI 0), (5, vI 0), (0, vR 51), (1, vI a1), (2, vI a2), (3, vI a3), (4, vI a4)]) dX10_flowers_73 (by rw [hnL]; decide) rfl ?_
            exact m_sub [2, 3, 4, 5, 6, 1, 0] rfl h
          · have h := h.1 e
            refine m_bipush C dX10_flowers_66 (r32_of rfl) (by decide) ?_
            exact m_iret C E (Or.inl rfl) dX10_flowers_68 h
        · have h := h.2 e
          refine m_aload_n C 0 dX10_flowers_44 rfl rfl ?_
          refine m_getR C (k := 43) cl_X10 (by decide) so_51 rfl fl_X10_60 dX10_flowers_45 ?_
          refine m_iload_n C 1 dX10_flowers_48 rfl rfl ?_
          refine m_iald C (N := 4) sa_65 h.1 dX10_flowers_49 ?_
          have h := h.2
          refine m_iload_n C 2 dX10_flowers_50 rfl rfl ?_
          refine m_icmp_eq C (tgt := 57) dX10_flowers_51 (by decide) (fun e => ?_) (fun e => ?_)
          · have h := h.1 e
            refine m_aload_n C 0 dX10_flowers_57 rfl rfl ?_
            refine m_getR C (k := 42) cl_X10 (by decide) so_51 rfl fl_X10_56 dX10_flowers_58 ?_
            refine m_iload_n C 1 dX10_flowers_61 rfl rfl ?_
            refine m_zald C (N := 4) sa_64 h.1 dX10_flowers_62 ?_
            have h := h.2
            refine m_if_ne C (tgt := 69) dX10_flowers_63 (by decide) (fun e => ?_) (fun e => ?_)
            · have h := h.2 e
              refine m_iconst C dX10_flowers_69 (r32_of rfl) ?_
              refine m_istore C (L' := [(5, vI 0), (0, vR 51), (1, vI a1), (2, vI a2), (3, vI a3), (4, vI a4)]) dX10_flowers_70 (by rw [hnL]; decide) rfl ?_
              refine m_iconst C dX10_flowers_72 (r32_of rfl) ?_
              refine m_istore C (L' := [(6, vI 0), (5, vI 0), (0, vR 51), (1, vI a1), (2, vI a2), (3, vI a3), (4, vI a4)]) dX10_flowers_73 (by rw [hnL]; decide) rfl ?_
              exact m_sub [2, 3, 4, 5, 6, 1, 0] rfl h
            · have h := h.1 e
              refine m_bipush C dX10_flowers_66 (r32_of rfl) (by decide) ?_
              exact m_iret C E (Or.inl rfl) dX10_flowers_68 h
          · have h := h.2 e
            refine m_bipush C dX10_flowers_54 (r32_of rfl) (by decide) ?_
            exact m_iret C E (Or.inl rfl) dX10_flowers_56 h
      · have h := h.1 e
        refine m_bipush C dX10_flowers_32 (r32_of rfl) (by decide) ?_
        exact m_iret C E (Or.inl rfl) dX10_flowers_34 h
def B_X10_over (n : Nat) (a1 : Int) (M : Mem) (Q : Int → Mem → Prop)  : Prop :=
  ((a1 = 0 →
  Q (-1) M) ∧ (¬ a1 = 0 →
  ((a1 = 3 →
    Q 1 M) ∧ (¬ a1 = 3 →
    ((a1 = 4 →
      Q 2 M) ∧ (¬ a1 = 4 →
      Q 0 M))))))
set_option maxHeartbeats 4000000 in
set_option maxRecDepth 20000 in
theorem g_X10_over {n : Nat} {a1 : Int} {M : Mem} {Q : Int → Mem → Prop}  (h : B_X10_over n a1 M Q) : Con (n + 1) md_X10_over [vI a1] M Q := by
  refine Con.ofF (n := n + 1) (Nat.succ_pos n) pl_X10_over (Nat.le_of_ble_eq_true rfl) (fun X C E hnL => ?_)
  have C : Cx X cX10_over RX10 n := C
  show WM X 0 [(0, vI a1)] [] M
  unfold B_X10_over at h
  refine m_iload_n C 0 dX10_over_0 rfl rfl ?_
  refine m_if_ne C (tgt := 8) dX10_over_1 (by decide) (fun e => ?_) (fun e => ?_)
  · have h := h.2 e
    refine m_iload_n C 0 dX10_over_8 rfl rfl ?_
    refine m_iconst C dX10_over_9 (r32_of rfl) ?_
    refine m_icmp_ne C (tgt := 17) dX10_over_10 (by decide) (fun e => ?_) (fun e => ?_)
    · have h := h.2 e
      refine m_iload_n C 0 dX10_over_17 rfl rfl ?_
      refine m_iconst C dX10_over_18 (r32_of rfl) ?_
      refine m_icmp_ne C (tgt := 26) dX10_over_19 (by decide) (fun e => ?_) (fun e => ?_)
      · have h := h.2 e
        refine m_iconst C dX10_over_26 (r32_of rfl) ?_
        exact m_iret C E (Or.inl rfl) dX10_over_27 h
      · have h := h.1 e
        refine m_iconst C dX10_over_22 (r32_of rfl) ?_
        refine m_goto C (tgt := 27) dX10_over_23 (by decide) ?_
        exact m_iret C E (Or.inl rfl) dX10_over_27 h
    · have h := h.1 e
      refine m_iconst C dX10_over_13 (r32_of rfl) ?_
      refine m_goto C (tgt := 27) dX10_over_14 (by decide) ?_
      exact m_iret C E (Or.inl rfl) dX10_over_27 h
  · have h := h.1 e
    refine m_iconst C dX10_over_4 (r32_of rfl) ?_
    refine m_goto C (tgt := 27) dX10_over_5 (by decide) ?_
    exact m_iret C E (Or.inl rfl) dX10_over_27 h
def B_X10_taken_33 (n : Nat) (a1 : Int) (a2 : Int) (x3 : Int) (M : Mem) (Q : Int → Mem → Prop) (K33 : Int → Mem → Prop) : Prop :=
  ((x3 = (-1) →
  ((x3 = a2 →
    ((0 ≤ (w32 (3 * a1)) ∧ (w32 (3 * a1)) < 18) ∧ Q (M 56 (Int.toNat (w32 (3 * a1)))) M)) ∧ (¬ x3 = a2 →
    Q (-13) M))) ∧ (¬ x3 = (-1) →
  ((x3 = a2 →
    ((x3 = a2 →
      ((0 ≤ (w32 (3 * a1)) ∧ (w32 (3 * a1)) < 18) ∧ Q (M 56 (Int.toNat (w32 (3 * a1)))) M)) ∧ (¬ x3 = a2 →
      Q (-13) M))) ∧ (¬ x3 = a2 →
    Con n md_X10_over [vI x3] M (fun r1 M2 =>
      K33 r1 M2)))))
def B_X10_taken (n : Nat) (a1 : Int) (a2 : Int) (M : Mem) (Q : Int → Mem → Prop) (K33 : Int → Mem → Prop) : Prop :=
  Con n md_X10_in [vL a2, vL 0, vL 5] M (fun r3 M4 =>
  ((r3 = 0 →
  Q (-2) M4) ∧ (¬ r3 = 0 →
  Con n md_X10_isFlower [vR 51, vI a1] M4 (fun r5 M6 =>
    ((r5 = 0 →
    Q (-11) M6) ∧ (¬ r5 = 0 →
    ((0 ≤ a1 ∧ a1 < 6) ∧ K33 (M6 55 (Int.toNat a1)) M6)))))))
set_option maxHeartbeats 4000000 in
set_option maxRecDepth 20000 in
theorem g_X10_taken {n : Nat} {a1 : Int} {a2 : Int} {M : Mem} {Q : Int → Mem → Prop}  (h : ∀ (K33 : Int → Mem → Prop), (∀ (x3 : Int) (M : Mem), B_X10_taken_33 n a1 a2 x3 M Q K33 → K33 x3 M) → B_X10_taken n a1 a2 M Q K33) : Con (n + 1) md_X10_taken [vR 51, vI a1, vI a2] M Q := by
  refine Con.ofF (n := n + 1) (Nat.succ_pos n) pl_X10_taken (Nat.le_of_ble_eq_true rfl) (fun X C E hnL => ?_)
  have C : Cx X cX10_taken RX10 n := C
  show WM X 0 [(0, vR 51), (1, vI a1), (2, vI a2)] [] M
  have hb33 : ∀ (x3 : Int) (M : Mem), B_X10_taken_33 n a1 a2 x3 M Q (fun (x3 : Int) (M : Mem) => WM X 33 [(0, vR 51), (1, vI a1), (2, vI a2), (3, vI x3)] [] M) → WM X 33 [(0, vR 51), (1, vI a1), (2, vI a2), (3, vI x3)] [] M := by
    intro x3 M h
    unfold B_X10_taken_33 at h
    refine m_iload_n C 3 dX10_taken_33 rfl rfl ?_
    refine m_iconst C dX10_taken_34 (r32_of rfl) ?_
    refine m_icmp_eq C (tgt := 51) dX10_taken_35 (by decide) (fun e => ?_) (fun e => ?_)
    · have h := h.1 e
      refine m_iload_n C 3 dX10_taken_51 rfl rfl ?_
      refine m_iload_n C 2 dX10_taken_52 rfl rfl ?_
      refine m_icmp_ne C (tgt := 67) dX10_taken_53 (by decide) (fun e => ?_) (fun e => ?_)
      · have h := h.2 e
        refine m_bipush C dX10_taken_67 (r32_of rfl) (by decide) ?_
        exact m_iret C E (Or.inl rfl) dX10_taken_69 h
      · have h := h.1 e
        refine m_aload_n C 0 dX10_taken_56 rfl rfl ?_
        refine m_getR C (k := 10) cl_X10 (by decide) so_51 rfl fl_X10_29 dX10_taken_57 ?_
        refine m_iconst C dX10_taken_60 (r32_of rfl) ?_
        refine m_iload_n C 1 dX10_taken_61 rfl rfl ?_
        refine m_imul C dX10_taken_62 ?_
        refine m_iald C (N := 18) sa_56 h.1 dX10_taken_63 ?_
        have h := h.2
        refine m_goto C (tgt := 69) dX10_taken_64 (by decide) ?_
        exact m_iret C E (Or.inl rfl) dX10_taken_69 h
    · have h := h.2 e
      refine m_iload_n C 3 dX10_taken_38 rfl rfl ?_
      refine m_iload_n C 2 dX10_taken_39 rfl rfl ?_
      refine m_icmp_eq C (tgt := 51) dX10_taken_40 (by decide) (fun e => ?_) (fun e => ?_)
      · have h := h.1 e
        refine m_iload_n C 3 dX10_taken_51 rfl rfl ?_
        refine m_iload_n C 2 dX10_taken_52 rfl rfl ?_
        refine m_icmp_ne C (tgt := 67) dX10_taken_53 (by decide) (fun e => ?_) (fun e => ?_)
        · have h := h.2 e
          refine m_bipush C dX10_taken_67 (r32_of rfl) (by decide) ?_
          exact m_iret C E (Or.inl rfl) dX10_taken_69 h
        · have h := h.1 e
          refine m_aload_n C 0 dX10_taken_56 rfl rfl ?_
          refine m_getR C (k := 10) cl_X10 (by decide) so_51 rfl fl_X10_29 dX10_taken_57 ?_
          refine m_iconst C dX10_taken_60 (r32_of rfl) ?_
          refine m_iload_n C 1 dX10_taken_61 rfl rfl ?_
          refine m_imul C dX10_taken_62 ?_
          refine m_iald C (N := 18) sa_56 h.1 dX10_taken_63 ?_
          have h := h.2
          refine m_goto C (tgt := 69) dX10_taken_64 (by decide) ?_
          exact m_iret C E (Or.inl rfl) dX10_taken_69 h
      · have h := h.2 e
        refine m_iload_n C 3 dX10_taken_43 rfl rfl ?_
        refine m_callSi C (as := [vI x3]) (rest := []) ok_X10_over ml_X10_361 rfl rfl (Nat.le_of_ble_eq_true rfl) (fun _ => rfl) dX10_taken_44 (Con.mono h (fun r1 M2 _ _ h => ?_))
        refine m_istore_n C (L' := [(3, vI r1), (0, vR 51), (1, vI a1), (2, vI a2)]) dX10_taken_47 rfl (by rw [hnL]; decide) rfl ?_
        refine m_goto C (tgt := 33) dX10_taken_48 (by decide) ?_
        exact m_sub [1, 2, 3, 0] rfl h
  have h := h (fun (x3 : Int) (M : Mem) => WM X 33 [(0, vR 51), (1, vI a1), (2, vI a2), (3, vI x3)] [] M) hb33
  unfold B_X10_taken at h
  refine m_iload_n C 2 dX10_taken_0 rfl rfl ?_
  refine m_i2l C dX10_taken_1 ?_
  refine m_lconst C (x := 0) dX10_taken_2 (by decide) (r64_of rfl) ?_
  refine m_ldc2 C (v := 5) dX10_taken_3 kc_X10_107 (r64_of rfl) ?_
  refine m_callSi C (as := [vL a2, vL 0, vL 5]) (rest := []) ok_X10_in ml_X10_79 rfl rfl (Nat.le_of_ble_eq_true rfl) (fun _ => rfl) dX10_taken_6 (Con.mono h (fun r3 M4 _ _ h => ?_))
  refine m_if_ne C (tgt := 15) dX10_taken_9 (by decide) (fun e => ?_) (fun e => ?_)
  · have h := h.2 e
    refine m_aload_n C 0 dX10_taken_15 rfl rfl ?_
    refine m_iload_n C 1 dX10_taken_16 rfl rfl ?_
    refine m_callVi C (as := [vI a1]) (rest := []) ok_X10_isFlower ml_X10_85 so_51 rfl rfl rfl (Nat.le_of_ble_eq_true rfl) (fun _ => rfl) dX10_taken_17 (Con.mono h (fun r5 M6 _ _ h => ?_))
    refine m_if_ne C (tgt := 26) dX10_taken_20 (by decide) (fun e => ?_) (fun e => ?_)
    · have h := h.2 e
      refine m_aload_n C 0 dX10_taken_26 rfl rfl ?_
      refine m_getR C (k := 9) cl_X10 (by decide) so_51 rfl fl_X10_26 dX10_taken_27 ?_
      refine m_iload_n C 1 dX10_taken_30 rfl rfl ?_
      refine m_iald C (N := 6) sa_55 h.1 dX10_taken_31 ?_
      have h := h.2
      refine m_istore_n C (L' := [(3, vI (M6 55 (Int.toNat a1))), (0, vR 51), (1, vI a1), (2, vI a2)]) dX10_taken_32 rfl (by rw [hnL]; decide) rfl ?_
      exact m_sub [1, 2, 3, 0] rfl h
    · have h := h.1 e
      refine m_bipush C dX10_taken_23 (r32_of rfl) (by decide) ?_
      exact m_iret C E (Or.inl rfl) dX10_taken_25 h
  · have h := h.1 e
    refine m_bipush C dX10_taken_12 (r32_of rfl) (by decide) ?_
    exact m_iret C E (Or.inl rfl) dX10_taken_14 h
