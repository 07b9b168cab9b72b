def B_X8_start_40 (n : Nat)  (x1 : Int) (M : Mem) (Q : Int → Mem → Prop) (K40 : Int → Mem → Prop) (K74 : Int → Mem → Prop) (K98 : Int → Mem → Prop) : Prop :=
  (((M 1 3) ≤ x1 →
  K74 0 M) ∧ (¬ (M 1 3) ≤ x1 →
  ((0 ≤ x1 ∧ x1 < 6) ∧ ((0 ≤ x1 ∧ x1 < 6) ∧ (∀ M1 : Mem, M1 = up M 39 (Int.toNat x1) (M 5 (Int.toNat x1)) →
    K40 (w32 (x1 + 1)) M1)))))
def B_X8_start_74 (n : Nat)  (x1 : Int) (M : Mem) (Q : Int → Mem → Prop) (K40 : Int → Mem → Prop) (K74 : Int → Mem → Prop) (K98 : Int → Mem → Prop) : Prop :=
  ((80 ≤ x1 →
  K98 0 M) ∧ (¬ 80 ≤ x1 →
  ((0 ≤ x1 ∧ x1 < 80) ∧ (∀ M2 : Mem, M2 = up M 40 (Int.toNat x1) 0 →
    K74 (w32 (x1 + 1)) M2))))
def B_X8_start_98 (n : Nat)  (x1 : Int) (M : Mem) (Q : Int → Mem → Prop) (K40 : Int → Mem → Prop) (K74 : Int → Mem → Prop) (K98 : Int → Mem → Prop) : Prop :=
  (((M 1 8) ≤ x1 →
  Q 0 M) ∧ (¬ (M 1 8) ≤ x1 →
  ((0 ≤ x1 ∧ x1 < 40) ∧ Con n md_X0_colourOf [vR 1, vI (M 6 (Int.toNat x1))] M (fun r3 M4 =>
    ((0 ≤ x1 ∧ x1 < 40) ∧ Con n md_X8_neighbours [vR 38, vI r3, vI (M4 7 (Int.toNat x1))] M4 (fun r5 M6 =>
    (∀ M7 : Mem, M7 = up M6 38 7 (w32 ((M4 38 7) + r5)) →
    ((0 ≤ x1 ∧ x1 < 40) ∧ Con n md_X8_change [vR 38, vI r3, vI (M7 7 (Int.toNat x1)), vI 1] M7 (fun _ M9 =>
    K98 (w32 (x1 + 1)) M9)))))))))
def B_X8_start (n : Nat)  (M : Mem) (Q : Int → Mem → Prop) (K40 : Int → Mem → Prop) (K74 : Int → Mem → Prop) (K98 : Int → Mem → Prop) : Prop :=
  (∀ M10 : Mem, M10 = up M 38 4 (M 1 8) →
  Con n md_X0_lastAngle [vR 1] M10 (fun r11 M12 =>
  (∀ M13 : Mem, M13 = up M12 38 5 r11 →
  Con n md_X0_roomLeft [vR 1] M13 (fun r14 M15 =>
  (∀ M16 : Mem, M16 = up M15 38 6 r14 →
  (∀ M17 : Mem, M17 = up M16 38 7 0 →
  K40 0 M17))))))
set_option maxHeartbeats 4000000 in
set_option maxRecDepth 20000 in
theorem g_X8_start {n : Nat}  {M : Mem} {Q : Int → Mem → Prop}  (h : ∀ (K40 : Int → Mem → Prop) (K74 : Int → Mem → Prop) (K98 : Int → Mem → Prop), (∀ (x1 : Int) (M : Mem), B_X8_start_40 n  x1 M Q K40 K74 K98 → K40 x1 M) → (∀ (x1 : Int) (M : Mem), B_X8_start_74 n  x1 M Q K40 K74 K98 → K74 x1 M) → (∀ (x1 : Int) (M : Mem), B_X8_start_98 n  x1 M Q K40 K74 K98 → K98 x1 M) → B_X8_start n  M Q K40 K74 K98) : Con (n + 1) md_X8_start [vR 38] M Q := by
  refine Con.ofF (n := n + 1) (Nat.succ_pos n) pl_X8_start (Nat.le_of_ble_eq_true rfl) (fun X C E hnL => ?_)
  have C : Cx X cX8_start RX8 n := C
  show WM X 0 [(0, vR 38)] [] M
  have hb40 : ∀ (x1 : Int) (M : Mem), B_X8_start_40 n  x1 M Q (fun (x1 : Int) (M : Mem) => WM X 40 [(0, vR 38), (1, vI x1)] [] M) (fun (x1 : Int) (M : Mem) => WM X 74 [(0, vR 38), (1, vI x1)] [] M) (fun (x1 : Int) (M : Mem) => WM X 98 [(0, vR 38), (1, vI x1)] [] M) → WM X 40 [(0, vR 38), (1, vI x1)] [] M := by
    intro x1 M h
    unfold B_X8_start_40 at h
    refine m_iload_n C 1 dX8_start_40 rfl rfl ?_
    refine m_aload_n C 0 dX8_start_41 rfl rfl ?_
    refine m_getR C (k := 0) cl_X8 (by decide) so_38 rfl fl_X8_31 dX8_start_42 ?_
    refine m_getI C (k := 3) cl_X0 (by decide) so_1 rfl fl_X8_49 dX8_start_45 ?_
    refine m_icmp_ge C (tgt := 72) dX8_start_48 (by decide) (fun e => ?_) (fun e => ?_)
    · have h := h.1 e
      refine m_iconst C dX8_start_72 (r32_of rfl) ?_
      refine m_istore_n C (L' := [(1, vI 0), (0, vR 38)]) dX8_start_73 rfl (by rw [hnL]; decide) rfl ?_
      exact m_sub [1, 0] rfl h
    · have h := h.2 e
      refine m_aload_n C 0 dX8_start_51 rfl rfl ?_
      refine m_getR C (k := 2) cl_X8 (by decide) so_38 rfl fl_X8_9 dX8_start_52 ?_
      refine m_iload_n C 1 dX8_start_55 rfl rfl ?_
      refine m_aload_n C 0 dX8_start_56 rfl rfl ?_
      refine m_getR C (k := 0) cl_X8 (by decide) so_38 rfl fl_X8_31 dX8_start_57 ?_
      refine m_getR C (k := 7) cl_X0 (by decide) so_1 rfl fl_X8_52 dX8_start_60 ?_
      refine m_iload_n C 1 dX8_start_63 rfl rfl ?_
      refine m_iald C (N := 6) sa_5 h.1 dX8_start_64 ?_
      have h := h.2
      refine m_iast C (N := 6) sa_39 h.1 dX8_start_65 ?_
      have h := h.2
      generalize eM1 : up M 39 (Int.toNat x1) (M 5 (Int.toNat x1)) = M1
      have h := h M1 eM1.symm
      refine m_iinc C (L' := [(1, vI (w32 (x1 + 1))), (0, vR 38)]) 1 dX8_start_66 rfl (by rw [hnL]; decide) rfl ?_
      refine m_goto C (tgt := 40) dX8_start_69 (by decide) ?_
      exact m_sub [1, 0] rfl h
  have hb74 : ∀ (x1 : Int) (M : Mem), B_X8_start_74 n  x1 M Q (fun (x1 : Int) (M : Mem) => WM X 40 [(0, vR 38), (1, vI x1)] [] M) (fun (x1 : Int) (M : Mem) => WM X 74 [(0, vR 38), (1, vI x1)] [] M) (fun (x1 : Int) (M : Mem) => WM X 98 [(0, vR 38), (1, vI x1)] [] M) → WM X 74 [(0, vR 38), (1, vI x1)] [] M := by
    intro x1 M h
    unfold B_X8_start_74 at h
    refine m_iload_n C 1 dX8_start_74 rfl rfl ?_
    refine m_aload_n C 0 dX8_start_75 rfl rfl ?_
    refine m_getR C (k := 3) cl_X8 (by decide) so_38 rfl fl_X8_15 dX8_start_76 ?_
    refine m_alen C (N := 80) sa_40 (Or.inl rfl) rfl (r32_of rfl) dX8_start_79 ?_
    refine m_icmp_ge C (tgt := 96) dX8_start_80 (by decide) (fun e => ?_) (fun e => ?_)
    · have h := h.1 e
      refine m_iconst C dX8_start_96 (r32_of rfl) ?_
      refine m_istore_n C (L' := [(1, vI 0), (0, vR 38)]) dX8_start_97 rfl (by rw [hnL]; decide) rfl ?_
      exact m_sub [1, 0] rfl h
    · have h := h.2 e
      refine m_aload_n C 0 dX8_start_83 rfl rfl ?_
      refine m_getR C (k := 3) cl_X8 (by decide) so_38 rfl fl_X8_15 dX8_start_84 ?_
      refine m_iload_n C 1 dX8_start_87 rfl rfl ?_
      refine m_iconst C dX8_start_88 (r32_of rfl) ?_
      refine m_iast C (N := 80) sa_40 h.1 dX8_start_89 ?_
      have h := h.2
      generalize eM2 : up M 40 (Int.toNat x1) 0 = M2
      have h := h M2 eM2.symm
      refine m_iinc C (L' := [(1, vI (w32 (x1 + 1))), (0, vR 38)]) 1 dX8_start_90 rfl (by rw [hnL]; decide) rfl ?_
      refine m_goto C (tgt := 74) dX8_start_93 (by decide) ?_
      exact m_sub [1, 0] rfl h
  have hb98 : ∀ (x1 : Int) (M : Mem), B_X8_start_98 n  x1 M Q (fun (x1 : Int) (M : Mem) => WM X 40 [(0, vR 38), (1, vI x1)] [] M) (fun (x1 : Int) (M : Mem) => WM X 74 [(0, vR 38), (1, vI x1)] [] M) (fun (x1 : Int) (M : Mem) => WM X 98 [(0, vR 38), (1, vI x1)] [] M) → WM X 98 [(0, vR 38), (1, vI x1)] [] M := by
    intro x1 M h
    unfold B_X8_start_98 at h
    refine m_iload_n C 1 dX8_start_98 rfl rfl ?_
    refine m_aload_n C 0 dX8_start_99 rfl rfl ?_
    refine m_getR C (k := 0) cl_X8 (by decide) so_38 rfl fl_X8_31 dX8_start_100 ?_
    refine m_getI C (k := 8) cl_X0 (by decide) so_1 rfl fl_X8_39 dX8_start_103 ?_
    refine m_icmp_ge C (tgt := 170) dX8_start_106 (by decide) (fun e => ?_) (fun e => ?_)
    · have h := h.1 e
      exact m_vret C E dX8_start_170 h
    · have h := h.2 e
      refine m_aload_n C 0 dX8_start_109 rfl rfl ?_
      refine m_getR C (k := 0) cl_X8 (by decide) so_38 rfl fl_X8_31 dX8_start_110 ?_
      refine m_aload_n C 0 dX8_start_113 rfl rfl ?_
      refine m_getR C (k := 0) cl_X8 (by decide) so_38 rfl fl_X8_31 dX8_start_114 ?_
      refine m_getR C (k := 9) cl_X0 (by decide) so_1 rfl fl_X8_55 dX8_start_117 ?_
      refine m_iload_n C 1 dX8_start_120 rfl rfl ?_
      refine m_iald C (N := 40) sa_6 h.1 dX8_start_121 ?_
      have h := h.2
      refine m_callVi C (as := [vI (M 6 (Int.toNat x1))]) (rest := []) ok_X0_colourOf ml_X8_58 so_1 rfl rfl rfl (Nat.le_of_ble_eq_true rfl) (fun _ => rfl) dX8_start_122 (Con.mono h (fun r3 M4 _ _ h => ?_))
      refine m_istore_n C (L' := [(2, vI r3), (0, vR 38), (1, vI x1)]) dX8_start_125 rfl (by rw [hnL]; decide) rfl ?_
      refine m_aload_n C 1 dX8_start_126 rfl rfl ?_
      refine m_dupR C dX8_start_127 ?_
      refine m_getI C (k := 7) cl_X8 (by decide) so_38 rfl fl_X8_28 dX8_start_128 ?_
      refine m_aload_n C 1 dX8_start_131 rfl rfl ?_
      refine m_iload_n C 0 dX8_start_132 rfl rfl ?_
      refine m_aload_n C 1 dX8_start_133 rfl rfl ?_
      refine m_getR C (k := 0) cl_X8 (by decide) so_38 rfl fl_X8_31 dX8_start_134 ?_
      refine m_getR C (k := 10) cl_X0 (by decide) so_1 rfl fl_X8_62 dX8_start_137 ?_
      refine m_iload_n C 2 dX8_start_140 rfl rfl ?_
      refine m_iald C (N := 40) sa_7 h.1 dX8_start_141 ?_
      have h := h.2
      refine m_callVi C (as := [vI r3, vI (M4 7 (Int.toNat x1))]) (rest := [vI (M4 38 7), vR 38]) ok_X8_neighbours ml_X8_65 so_38 rfl rfl rfl (Nat.le_of_ble_eq_true rfl) (fun _ => rfl) dX8_start_142 (Con.mono h (fun r5 M6 _ _ h => ?_))
      refine m_iadd C dX8_start_145 ?_
      refine m_putI C (k := 7) cl_X8 (by decide) so_38 rfl rfl rfl fl_X8_28 dX8_start_146 ?_
      generalize eM7 : up M6 38 7 (w32 ((M4 38 7) + r5)) = M7
      have h := h M7 eM7.symm
      refine m_aload_n C 1 dX8_start_149 rfl rfl ?_
      refine m_iload_n C 0 dX8_start_150 rfl rfl ?_
      refine m_aload_n C 1 dX8_start_151 rfl rfl ?_
      refine m_getR C (k := 0) cl_X8 (by decide) so_38 rfl fl_X8_31 dX8_start_152 ?_
      refine m_getR C (k := 10) cl_X0 (by decide) so_1 rfl fl_X8_62 dX8_start_155 ?_
      refine m_iload_n C 2 dX8_start_158 rfl rfl ?_
      refine m_iald C (N := 40) sa_7 h.1 dX8_start_159 ?_
      have h := h.2
      refine m_iconst C dX8_start_160 (r32_of rfl) ?_
      refine m_callVv C (as := [vI r3, vI (M7 7 (Int.toNat x1)), vI 1]) (rest := []) ok_X8_change ml_X8_69 so_38 rfl rfl rfl (Nat.le_of_ble_eq_true rfl) (fun _ => rfl) dX8_start_161 (Con.mono h (fun _ M9 _ _ h => ?_))
      refine m_iinc C (L' := [(1, vI (w32 (x1 + 1))), (2, vI r3), (0, vR 38)]) 2 dX8_start_164 rfl (by rw [hnL]; decide) rfl ?_
      refine m_goto C (tgt := 98) dX8_start_167 (by decide) ?_
      exact m_sub [2, 0] rfl h
  have h := h (fun (x1 : Int) (M : Mem) => WM X 40 [(0, vR 38), (1, vI x1)] [] M) (fun (x1 : Int) (M : Mem) => WM X 74 [(0, vR 38), (1, vI x1)] [] M) (fun (x1 : Int) (M : Mem) => WM X 98 [(0, vR 38), (1, vI x1)] [] M) hb40 hb74 hb98
  unfold B_X8_start at h
  refine m_aload_n C 0 dX8_start_0 rfl rfl ?_
  refine m_aload_n C 0 dX8_start_1 rfl rfl ?_
  refine m_getR C (k := 0) cl_X8 (by decide) so_38 rfl fl_X8_31 dX8_start_2 ?_
  refine m_getI C (k := 8) cl_X0 (by decide) so_1 rfl fl_X8_39 dX8_start_5 ?_
  refine m_putI C (k := 4) cl_X8 (by decide) so_38 rfl rfl rfl fl_X8_18 dX8_start_8 ?_
  generalize eM10 : up M 38 4 (M 1 8) = M10
  have h := h M10 eM10.symm
  refine m_aload_n C 0 dX8_start_11 rfl rfl ?_
  refine m_aload_n C 0 dX8_start_12 rfl rfl ?_
  refine m_getR C (k := 0) cl_X8 (by decide) so_38 rfl fl_X8_31 dX8_start_13 ?_
  refine m_callVi C (as := []) (rest := [vR 38]) ok_X0_lastAngle ml_X8_42 so_1 rfl rfl rfl (Nat.le_of_ble_eq_true rfl) (fun _ => rfl) dX8_start_16 (Con.mono h (fun r11 M12 _ _ h => ?_))
  refine m_putI C (k := 5) cl_X8 (by decide) so_38 rfl rfl rfl fl_X8_22 dX8_start_19 ?_
  generalize eM13 : up M12 38 5 r11 = M13
  have h := h M13 eM13.symm
  refine m_aload_n C 0 dX8_start_22 rfl rfl ?_
  refine m_aload_n C 0 dX8_start_23 rfl rfl ?_
  refine m_getR C (k := 0) cl_X8 (by decide) so_38 rfl fl_X8_31 dX8_start_24 ?_
  refine m_callVi C (as := []) (rest := [vR 38]) ok_X0_roomLeft ml_X8_46 so_1 rfl rfl rfl (Nat.le_of_ble_eq_true rfl) (fun _ => rfl) dX8_start_27 (Con.mono h (fun r14 M15 _ _ h => ?_))
  refine m_putI C (k := 6) cl_X8 (by decide) so_38 rfl rfl rfl fl_X8_25 dX8_start_30 ?_
  generalize eM16 : up M15 38 6 r14 = M16
  have h := h M16 eM16.symm
  refine m_aload_n C 0 dX8_start_33 rfl rfl ?_
  refine m_iconst C dX8_start_34 (r32_of rfl) ?_
  refine m_putI C (k := 7) cl_X8 (by decide) so_38 rfl rfl rfl fl_X8_28 dX8_start_35 ?_
  generalize eM17 : up M16 38 7 0 = M17
  have h := h M17 eM17.symm
  refine m_iconst C dX8_start_38 (r32_of rfl) ?_
  refine m_istore_n C (L' := [(1, vI 0), (0, vR 38)]) dX8_start_39 rfl (by rw [hnL]; decide) rfl ?_
  exact m_sub [1, 0] rfl h
def B_X8_lyingAt (n : Nat) (a1 : Int) (a2 : Int) (M : Mem) (Q : Int → Mem → Prop)  : Prop :=
  Con n md_J9_floorMod_7cf53 [vI a2, vI 16] M (fun r1 M2 =>
  (((w32 ((w32 (a1 * 16)) + r1)) < 0 →
  Q 0 M2) ∧ (¬ (w32 ((w32 (a1 * 16)) + r1)) < 0 →
  ((80 ≤ (w32 ((w32 (a1 * 16)) + r1)) →
    Q 0 M2) ∧ (¬ 80 ≤ (w32 ((w32 (a1 * 16)) + r1)) →
    ((0 ≤ (w32 ((w32 (a1 * 16)) + r1)) ∧ (w32 ((w32 (a1 * 16)) + r1)) < 80) ∧ Q (M2 40 (Int.toNat (w32 ((w32 (a1 * 16)) + r1)))) M2))))))
set_option maxHeartbeats 4000000 in
set_option maxRecDepth 20000 in
theorem g_X8_lyingAt {n : Nat} {a1 : Int} {a2 : Int} {M : Mem} {Q : Int → Mem → Prop}  (h : B_X8_lyingAt n a1 a2 M Q) : Con (n + 1) md_X8_lyingAt [vR 38, vI a1, vI a2] M Q := by
  refine Con.ofF (n := n + 1) (Nat.succ_pos n) pl_X8_lyingAt (Nat.le_of_ble_eq_true rfl) (fun X C E hnL => ?_)
  have C : Cx X cX8_lyingAt RX8 n := C
  show WM X 0 [(0, vR 38), (1, vI a1), (2, vI a2)] [] M
  unfold B_X8_lyingAt at h
  refine m_iload_n C 1 dX8_lyingAt_0 rfl rfl ?_
  refine m_bipush C dX8_lyingAt_1 (r32_of rfl) (by decide) ?_
  refine m_imul C dX8_lyingAt_3 ?_
  refine m_iload_n C 2 dX8_lyingAt_4 rfl rfl ?_
  refine m_bipush C dX8_lyingAt_5 (r32_of rfl) (by decide) ?_
  refine m_callSi C (as := [vI a2, vI 16]) (rest := [vI (w32 (a1 * 16))]) ok_J9_floorMod_7cf53 ml_X8_73 rfl rfl (Nat.le_of_ble_eq_true rfl) (fun _ => rfl) dX8_lyingAt_7 (Con.mono h (fun r1 M2 _ _ h => ?_))
  refine m_iadd C dX8_lyingAt_10 ?_
  refine m_istore_n C (L' := [(3, vI (w32 ((w32 (a1 * 16)) + r1))), (0, vR 38), (1, vI a1), (2, vI a2)]) dX8_lyingAt_11 rfl (by rw [hnL]; decide) rfl ?_
  refine m_iload_n C 0 dX8_lyingAt_12 rfl rfl ?_
  refine m_if_lt C (tgt := 34) dX8_lyingAt_13 (by decide) (fun e => ?_) (fun e => ?_)
  · have h := h.1 e
    refine m_iconst C dX8_lyingAt_34 (r32_of rfl) ?_
    exact m_iret C E (Or.inl rfl) dX8_lyingAt_35 h
  · have h := h.2 e
    refine m_iload_n C 0 dX8_lyingAt_16 rfl rfl ?_
    refine m_aload_n C 1 dX8_lyingAt_17 rfl rfl ?_
    refine m_getR C (k := 3) cl_X8 (by decide) so_38 rfl fl_X8_15 dX8_lyingAt_18 ?_
    refine m_alen C (N := 80) sa_40 (Or.inl rfl) rfl (r32_of rfl) dX8_lyingAt_21 ?_
    refine m_icmp_ge C (tgt := 34) dX8_lyingAt_22 (by decide) (fun e => ?_) (fun e => ?_)
    · have h := h.1 e
      refine m_iconst C dX8_lyingAt_34 (r32_of rfl) ?_
      exact m_iret C E (Or.inl rfl) dX8_lyingAt_35 h
    · have h := h.2 e
      refine m_aload_n C 1 dX8_lyingAt_25 rfl rfl ?_
      refine m_getR C (k := 3) cl_X8 (by decide) so_38 rfl fl_X8_15 dX8_lyingAt_26 ?_
      refine m_iload_n C 0 dX8_lyingAt_29 rfl rfl ?_
      refine m_iald C (N := 80) sa_40 h.1 dX8_lyingAt_30 ?_
      have h := h.2
      refine m_goto C (tgt := 35) dX8_lyingAt_31 (by decide) ?_
      exact m_iret C E (Or.inl rfl) dX8_lyingAt_35 h
def B_X8_change (n : Nat) (a1 : Int) (a2 : Int) (a3 : Int) (M : Mem) (Q : Int → Mem → Prop)  : Prop :=
  Con n md_J9_floorMod_7cf53 [vI a2, vI 16] M (fun r1 M2 =>
  (((w32 ((w32 (a1 * 16)) + r1)) < 0 →
  Q 0 M2) ∧ (¬ (w32 ((w32 (a1 * 16)) + r1)) < 0 →
  ((80 ≤ (w32 ((w32 (a1 * 16)) + r1)) →
    Q 0 M2) ∧ (¬ 80 ≤ (w32 ((w32 (a1 * 16)) + r1)) →
    ((0 ≤ (w32 ((w32 (a1 * 16)) + r1)) ∧ (w32 ((w32 (a1 * 16)) + r1)) < 80) ∧ ((0 ≤ (w32 ((w32 (a1 * 16)) + r1)) ∧ (w32 ((w32 (a1 * 16)) + r1)) < 80) ∧ (∀ M3 : Mem, M3 = up M2 40 (Int.toNat (w32 ((w32 (a1 * 16)) + r1))) (w32 ((M2 40 (Int.toNat (w32 ((w32 (a1 * 16)) + r1)))) + a3)) →
      Q 0 M3))))))))
set_option maxHeartbeats 4000000 in
set_option maxRecDepth 20000 in
theorem g_X8_change {n : Nat} {a1 : Int} {a2 : Int} {a3 : Int} {M : Mem} {Q : Int → Mem → Prop}  (h : B_X8_change n a1 a2 a3 M Q) : Con (n + 1) md_X8_change [vR 38, vI a1, vI a2, vI a3] M Q := by
  refine Con.ofF (n := n + 1) (Nat.succ_pos n) pl_X8_change (Nat.le_of_ble_eq_true rfl) (fun X C E hnL => ?_)
  have C : Cx X cX8_change RX8 n := C
  show WM X 0 [(0, vR 38), (1, vI a1), (2, vI a2), (3, vI a3)] [] M
  unfold B_X8_change at h
  refine m_iload_n C 1 dX8_change_0 rfl rfl ?_
  refine m_bipush C dX8_change_1 (r32_of rfl) (by decide) ?_
  refine m_imul C dX8_change_3 ?_
  refine m_iload_n C 2 dX8_change_4 rfl rfl ?_
  refine m_bipush C dX8_change_5 (r32_of rfl) (by decide) ?_
  refine m_callSi C (as := [vI a2, vI 16]) (rest := [vI (w32 (a1 * 16))]) ok_J9_floorMod_7cf53 ml_X8_73 rfl rfl (Nat.le_of_ble_eq_true rfl) (fun _ => rfl) dX8_change_7 (Con.mono h (fun r1 M2 _ _ h => ?_))
  refine m_iadd C dX8_change_10 ?_
  refine m_istore C (L' := [(4, vI (w32 ((w32 (a1 * 16)) + r1))), (0, vR 38), (1, vI a1), (2, vI a2), (3, vI a3)]) dX8_change_11 (by rw [hnL]; decide) rfl ?_
  refine m_iload C 0 dX8_change_13 rfl ?_
  refine m_if_lt C (tgt := 39) dX8_change_15 (by decide) (fun e => ?_) (fun e => ?_)
  · have h := h.1 e
    exact m_vret C E dX8_change_39 h
  · have h := h.2 e
    refine m_iload C 0 dX8_change_18 rfl ?_
    refine m_aload_n C 1 dX8_change_20 rfl rfl ?_
    refine m_getR C (k := 3) cl_X8 (by decide) so_38 rfl fl_X8_15 dX8_change_21 ?_
    refine m_alen C (N := 80) sa_40 (Or.inl rfl) rfl (r32_of rfl) dX8_change_24 ?_
    refine m_icmp_ge C (tgt := 39) dX8_change_25 (by decide) (fun e => ?_) (fun e => ?_)
    · have h := h.1 e
      exact m_vret C E dX8_change_39 h
    · have h := h.2 e
      refine m_aload_n C 1 dX8_change_28 rfl rfl ?_
      refine m_getR C (k := 3) cl_X8 (by decide) so_38 rfl fl_X8_15 dX8_change_29 ?_
      refine m_iload C 0 dX8_change_32 rfl ?_
      refine m_dup2 C dX8_change_34 ?_
      refine m_iald C (N := 80) sa_40 h.1 dX8_change_35 ?_
      have h := h.2
      refine m_iload_n C 4 dX8_change_36 rfl rfl ?_
      refine m_iadd C dX8_change_37 ?_
      refine m_iast C (N := 80) sa_40 h.1 dX8_change_38 ?_
      have h := h.2
      generalize eM3 : up M2 40 (Int.toNat (w32 ((w32 (a1 * 16)) + r1))) (w32 ((M2 40 (Int.toNat (w32 ((w32 (a1 * 16)) + r1)))) + a3)) = M3
      have h := h M3 eM3.symm
      exact m_vret C E dX8_change_39 h
def B_X8_neighbours (n : Nat) (a1 : Int) (a2 : Int) (M : Mem) (Q : Int → Mem → Prop)  : Prop :=
  Con n md_X8_lyingAt [vR 38, vI a1, vI (w32 (a2 - 1))] M (fun r1 M2 =>
  Con n md_X8_lyingAt [vR 38, vI a1, vI a2] M2 (fun r3 M4 =>
  Con n md_X8_lyingAt [vR 38, vI a1, vI (w32 (a2 + 1))] M4 (fun r5 M6 =>
  Q (w32 ((w32 (r1 + r3)) + r5)) M6)))
set_option maxHeartbeats 4000000 in
set_option maxRecDepth 20000 in
theorem g_X8_neighbours {n : Nat} {a1 : Int} {a2 : Int} {M : Mem} {Q : Int → Mem → Prop}  (h : B_X8_neighbours n a1 a2 M Q) : Con (n + 1) md_X8_neighbours [vR 38, vI a1, vI a2] M Q := by
  refine Con.ofF (n := n + 1) (Nat.succ_pos n) pl_X8_neighbours (Nat.le_of_ble_eq_true rfl) (fun X C E hnL => ?_)
  have C : Cx X cX8_neighbours RX8 n := C
  show WM X 0 [(0, vR 38), (1, vI a1), (2, vI a2)] [] M
  unfold B_X8_neighbours at h
  refine m_aload_n C 0 dX8_neighbours_0 rfl rfl ?_
  refine m_iload_n C 1 dX8_neighbours_1 rfl rfl ?_
  refine m_iload_n C 2 dX8_neighbours_2 rfl rfl ?_
  refine m_iconst C dX8_neighbours_3 (r32_of rfl) ?_
  refine m_isub C dX8_neighbours_4 ?_
  refine m_callVi C (as := [vI a1, vI (w32 (a2 - 1))]) (rest := []) ok_X8_lyingAt ml_X8_78 so_38 rfl rfl rfl (Nat.le_of_ble_eq_true rfl) (fun _ => rfl) dX8_neighbours_5 (Con.mono h (fun r1 M2 _ _ h => ?_))
  refine m_aload_n C 0 dX8_neighbours_8 rfl rfl ?_
  refine m_iload_n C 1 dX8_neighbours_9 rfl rfl ?_
  refine m_iload_n C 2 dX8_neighbours_10 rfl rfl ?_
  refine m_callVi C (as := [vI a1, vI a2]) (rest := [vI r1]) ok_X8_lyingAt ml_X8_78 so_38 rfl rfl rfl (Nat.le_of_ble_eq_true rfl) (fun _ => rfl) dX8_neighbours_11 (Con.mono h (fun r3 M4 _ _ h => ?_))
  refine m_iadd C dX8_neighbours_14 ?_
  refine m_aload_n C 0 dX8_neighbours_15 rfl rfl ?_
  refine m_iload_n C 1 dX8_neighbours_16 rfl rfl ?_
  refine m_iload_n C 2 dX8_neighbours_17 rfl rfl ?_
  refine m_iconst C dX8_neighbours_18 (r32_of rfl) ?_
  refine m_iadd C dX8_neighbours_19 ?_
  refine m_callVi C (as := [vI a1, vI (w32 (a2 + 1))]) (rest := [vI (w32 (r1 + r3))]) ok_X8_lyingAt ml_X8_78 so_38 rfl rfl rfl (Nat.le_of_ble_eq_true rfl) (fun _ => rfl) dX8_neighbours_20 (Con.mono h (fun r5 M6 _ _ h => ?_))
  refine m_iadd C dX8_neighbours_23 ?_
  exact m_iret C E (Or.inl rfl) dX8_neighbours_24 h
def B_X8_canBe (n : Nat) (a1 : Int) (M : Mem) (Q : Int → Mem → Prop)  : Prop :=
  Con n md_X0_hasFlower [vR 1, vI a1] M (fun r1 M2 =>
  ((r1 = 0 →
  Q 0 M2) ∧ (¬ r1 = 0 →
  ((0 ≤ a1 ∧ a1 < 6) ∧ (((M2 39 (Int.toNat a1)) < 1 →
    Q 0 M2) ∧ (¬ (M2 39 (Int.toNat a1)) < 1 →
    ((40 ≤ (M2 38 4) →
      Q 0 M2) ∧ (¬ 40 ≤ (M2 38 4) →
      Con n md_X0_thickOf [vR 1, vI a1] M2 (fun r3 M4 =>
        (((M4 38 6) < r3 →
        Q 0 M4) ∧ (¬ (M4 38 6) < r3 →
        Q 1 M4)))))))))))
set_option maxHeartbeats 4000000 in
set_option maxRecDepth 20000 in
theorem g_X8_canBe {n : Nat} {a1 : Int} {M : Mem} {Q : Int → Mem → Prop}  (h : B_X8_canBe n a1 M Q) : Con (n + 1) md_X8_canBe [vR 38, vI a1] M Q := by
  refine Con.ofF (n := n + 1) (Nat.succ_pos n) pl_X8_canBe (Nat.le_of_ble_eq_true rfl) (fun X C E hnL => ?_)
  have C : Cx X cX8_canBe RX8 n := C
  show WM X 0 [(0, vR 38), (1, vI a1)] [] M
  unfold B_X8_canBe at h
  refine m_aload_n C 0 dX8_canBe_0 rfl rfl ?_
  refine m_getR C (k := 0) cl_X8 (by decide) so_38 rfl fl_X8_31 dX8_canBe_1 ?_
  refine m_iload_n C 1 dX8_canBe_4 rfl rfl ?_
  refine m_callVi C (as := [vI a1]) (rest := []) ok_X0_hasFlower ml_X8_81 so_1 rfl rfl rfl (Nat.le_of_ble_eq_true rfl) (fun _ => rfl) dX8_canBe_5 (Con.mono h (fun r1 M2 _ _ h => ?_))
  refine m_if_eq C (tgt := 49) dX8_canBe_8 (by decide) (fun e => ?_) (fun e => ?_)
  · have h := h.1 e
    refine m_iconst C dX8_canBe_49 (r32_of rfl) ?_
    exact m_iret C E (Or.inr ⟨rfl, Or.inl rfl⟩) dX8_canBe_50 h
  · have h := h.2 e
    refine m_aload_n C 0 dX8_canBe_11 rfl rfl ?_
    refine m_getR C (k := 2) cl_X8 (by decide) so_38 rfl fl_X8_9 dX8_canBe_12 ?_
    refine m_iload_n C 1 dX8_canBe_15 rfl rfl ?_
    refine m_iald C (N := 6) sa_39 h.1 dX8_canBe_16 ?_
    have h := h.2
    refine m_iconst C dX8_canBe_17 (r32_of rfl) ?_
    refine m_icmp_lt C (tgt := 49) dX8_canBe_18 (by decide) (fun e => ?_) (fun e => ?_)
    · have h := h.1 e
      refine m_iconst C dX8_canBe_49 (r32_of rfl) ?_
      exact m_iret C E (Or.inr ⟨rfl, Or.inl rfl⟩) dX8_canBe_50 h
    · have h := h.2 e
      refine m_aload_n C 0 dX8_canBe_21 rfl rfl ?_
      refine m_getI C (k := 4) cl_X8 (by decide) so_38 rfl fl_X8_18 dX8_canBe_22 ?_
      refine m_bipush C dX8_canBe_25 (r32_of rfl) (by decide) ?_
      refine m_icmp_ge C (tgt := 49) dX8_canBe_27 (by decide) (fun e => ?_) (fun e => ?_)
      · have h := h.1 e
        refine m_iconst C dX8_canBe_49 (r32_of rfl) ?_
        exact m_iret C E (Or.inr ⟨rfl, Or.inl rfl⟩) dX8_canBe_50 h
      · have h := h.2 e
        refine m_aload_n C 0 dX8_canBe_30 rfl rfl ?_
        refine m_getR C (k := 0) cl_X8 (by decide) so_38 rfl fl_X8_31 dX8_canBe_31 ?_
        refine m_iload_n C 1 dX8_canBe_34 rfl rfl ?_
        refine m_callVi C (as := [vI a1]) (rest := []) ok_X0_thickOf ml_X8_85 so_1 rfl rfl rfl (Nat.le_of_ble_eq_true rfl) (fun _ => rfl) dX8_canBe_35 (Con.mono h (fun r3 M4 _ _ h => ?_))
        refine m_aload_n C 0 dX8_canBe_38 rfl rfl ?_
        refine m_getI C (k := 6) cl_X8 (by decide) so_38 rfl fl_X8_25 dX8_canBe_39 ?_
        refine m_icmp_gt C (tgt := 49) dX8_canBe_42 (by decide) (fun e => ?_) (fun e => ?_)
        · have h := h.1 e
          refine m_iconst C dX8_canBe_49 (r32_of rfl) ?_
          exact m_iret C E (Or.inr ⟨rfl, Or.inl rfl⟩) dX8_canBe_50 h
        · have h := h.2 e
          refine m_iconst C dX8_canBe_45 (r32_of rfl) ?_
          refine m_goto C (tgt := 50) dX8_canBe_46 (by decide) ?_
          exact m_iret C E (Or.inr ⟨rfl, Or.inr rfl⟩) dX8_canBe_50 h
def B_X8_angleOf (n : Nat) (a1 : Int) (M : Mem) (Q : Int → Mem → Prop)  : Prop :=
  Con n md_X0_hasFlower [vR 1, vI a1] M (fun r1 M2 =>
  ((r1 = 0 →
  Q (M2 38 5) M2) ∧ (¬ r1 = 0 →
  Con n md_X2_inEmptyHand [vR 36, vR 1, vI a1] M2 (fun _ M4 =>
    ((0 ≤ a1 ∧ a1 < 6) ∧ Con n md_X2_asThought [vR 36, vI (M4 38 4), vI (M4 38 5), vI (M4 39 (Int.toNat a1)), vI (M4 38 6)] M4 (fun _ M6 =>
    Con n md_X2_turns [vR 36] M6 (fun r7 M8 =>
    Con n md_X2_turned [vI (M6 38 5), vI r7] M8 (fun r9 M10 =>
    Q r9 M10))))))))
set_option maxHeartbeats 4000000 in
set_option maxRecDepth 20000 in
theorem g_X8_angleOf {n : Nat} {a1 : Int} {M : Mem} {Q : Int → Mem → Prop}  (h : B_X8_angleOf n a1 M Q) : Con (n + 1) md_X8_angleOf [vR 38, vI a1] M Q := by
  refine Con.ofF (n := n + 1) (Nat.succ_pos n) pl_X8_angleOf (Nat.le_of_ble_eq_true rfl) (fun X C E hnL => ?_)
  have C : Cx X cX8_angleOf RX8 n := C
  show WM X 0 [(0, vR 38), (1, vI a1)] [] M
  unfold B_X8_angleOf at h
  refine m_aload_n C 0 dX8_angleOf_0 rfl rfl ?_
  refine m_getR C (k := 0) cl_X8 (by decide) so_38 rfl fl_X8_31 dX8_angleOf_1 ?_
  refine m_iload_n C 1 dX8_angleOf_4 rfl rfl ?_
  refine m_callVi C (as := [vI a1]) (rest := []) ok_X0_hasFlower ml_X8_81 so_1 rfl rfl rfl (Nat.le_of_ble_eq_true rfl) (fun _ => rfl) dX8_angleOf_5 (Con.mono h (fun r1 M2 _ _ h => ?_))
  refine m_if_ne C (tgt := 16) dX8_angleOf_8 (by decide) (fun e => ?_) (fun e => ?_)
  · have h := h.2 e
    refine m_aload_n C 0 dX8_angleOf_16 rfl rfl ?_
    refine m_getR C (k := 1) cl_X8 (by decide) so_38 rfl fl_X8_35 dX8_angleOf_17 ?_
    refine m_aload_n C 0 dX8_angleOf_20 rfl rfl ?_
    refine m_getR C (k := 0) cl_X8 (by decide) so_38 rfl fl_X8_31 dX8_angleOf_21 ?_
    refine m_iload_n C 1 dX8_angleOf_24 rfl rfl ?_
    refine m_callVv C (as := [vR 1, vI a1]) (rest := []) ok_X2_inEmptyHand ml_X8_88 so_36 rfl rfl rfl (Nat.le_of_ble_eq_true rfl) (fun _ => rfl) dX8_angleOf_25 (Con.mono h (fun _ M4 _ _ h => ?_))
    refine m_aload_n C 0 dX8_angleOf_28 rfl rfl ?_
    refine m_getR C (k := 1) cl_X8 (by decide) so_38 rfl fl_X8_35 dX8_angleOf_29 ?_
    refine m_aload_n C 0 dX8_angleOf_32 rfl rfl ?_
    refine m_getI C (k := 4) cl_X8 (by decide) so_38 rfl fl_X8_18 dX8_angleOf_33 ?_
    refine m_aload_n C 0 dX8_angleOf_36 rfl rfl ?_
    refine m_getI C (k := 5) cl_X8 (by decide) so_38 rfl fl_X8_22 dX8_angleOf_37 ?_
    refine m_aload_n C 0 dX8_angleOf_40 rfl rfl ?_
    refine m_getR C (k := 2) cl_X8 (by decide) so_38 rfl fl_X8_9 dX8_angleOf_41 ?_
    refine m_iload_n C 1 dX8_angleOf_44 rfl rfl ?_
    refine m_iald C (N := 6) sa_39 h.1 dX8_angleOf_45 ?_
    have h := h.2
    refine m_aload_n C 0 dX8_angleOf_46 rfl rfl ?_
    refine m_getI C (k := 6) cl_X8 (by decide) so_38 rfl fl_X8_25 dX8_angleOf_47 ?_
    refine m_callVv C (as := [vI (M4 38 4), vI (M4 38 5), vI (M4 39 (Int.toNat a1)), vI (M4 38 6)]) (rest := []) ok_X2_asThought ml_X8_94 so_36 rfl rfl rfl (Nat.le_of_ble_eq_true rfl) (fun _ => rfl) dX8_angleOf_50 (Con.mono h (fun _ M6 _ _ h => ?_))
    refine m_aload_n C 0 dX8_angleOf_53 rfl rfl ?_
    refine m_getI C (k := 5) cl_X8 (by decide) so_38 rfl fl_X8_22 dX8_angleOf_54 ?_
    refine m_aload_n C 0 dX8_angleOf_57 rfl rfl ?_
    refine m_getR C (k := 1) cl_X8 (by decide) so_38 rfl fl_X8_35 dX8_angleOf_58 ?_
    refine m_callVi C (as := []) (rest := [vI (M6 38 5)]) ok_X2_turns ml_X8_98 so_36 rfl rfl rfl (Nat.le_of_ble_eq_true rfl) (fun _ => rfl) dX8_angleOf_61 (Con.mono h (fun r7 M8 _ _ h => ?_))
    refine m_callSi C (as := [vI (M6 38 5), vI r7]) (rest := []) ok_X2_turned ml_X8_101 rfl rfl (Nat.le_of_ble_eq_true rfl) (fun _ => rfl) dX8_angleOf_64 (Con.mono h (fun r9 M10 _ _ h => ?_))
    exact m_iret C E (Or.inl rfl) dX8_angleOf_67 h
  · have h := h.1 e
    refine m_aload_n C 0 dX8_angleOf_11 rfl rfl ?_
    refine m_getI C (k := 5) cl_X8 (by decide) so_38 rfl fl_X8_22 dX8_angleOf_12 ?_
    exact m_iret C E (Or.inl rfl) dX8_angleOf_15 h
def B_X8_touchingWith (n : Nat) (a1 : Int) (M : Mem) (Q : Int → Mem → Prop)  : Prop :=
  Con n md_X0_colourOf [vR 1, vI a1] M (fun r1 M2 =>
  Con n md_X8_angleOf [vR 38, vI a1] M2 (fun r3 M4 =>
  Con n md_X8_neighbours [vR 38, vI r1, vI r3] M4 (fun r5 M6 =>
  Q (w32 ((M 38 7) + r5)) M6)))
set_option maxHeartbeats 4000000 in
set_option maxRecDepth 20000 in
theorem g_X8_touchingWith {n : Nat} {a1 : Int} {M : Mem} {Q : Int → Mem → Prop}  (h : B_X8_touchingWith n a1 M Q) : Con (n + 1) md_X8_touchingWith [vR 38, vI a1] M Q := by
  refine Con.ofF (n := n + 1) (Nat.succ_pos n) pl_X8_touchingWith (Nat.le_of_ble_eq_true rfl) (fun X C E hnL => ?_)
  have C : Cx X cX8_touchingWith RX8 n := C
  show WM X 0 [(0, vR 38), (1, vI a1)] [] M
  unfold B_X8_touchingWith at h
  refine m_aload_n C 0 dX8_touchingWith_0 rfl rfl ?_
  refine m_getI C (k := 7) cl_X8 (by decide) so_38 rfl fl_X8_28 dX8_touchingWith_1 ?_
  refine m_aload_n C 0 dX8_touchingWith_4 rfl rfl ?_
  refine m_aload_n C 0 dX8_touchingWith_5 rfl rfl ?_
  refine m_getR C (k := 0) cl_X8 (by decide) so_38 rfl fl_X8_31 dX8_touchingWith_6 ?_
  refine m_iload_n C 1 dX8_touchingWith_9 rfl rfl ?_
  refine m_callVi C (as := [vI a1]) (rest := [vR 38, vI (M 38 7)]) ok_X0_colourOf ml_X8_58 so_1 rfl rfl rfl (Nat.le_of_ble_eq_true rfl) (fun _ => rfl) dX8_touchingWith_10 (Con.mono h (fun r1 M2 _ _ h => ?_))
  refine m_aload_n C 0 dX8_touchingWith_13 rfl rfl ?_
  refine m_iload_n C 1 dX8_touchingWith_14 rfl rfl ?_
  refine m_callVi C (as := [vI a1]) (rest := [vI r1, vR 38, vI (M 38 7)]) ok_X8_angleOf ml_X8_104 so_38 rfl rfl rfl (Nat.le_of_ble_eq_true rfl) (fun _ => rfl) dX8_touchingWith_15 (Con.mono h (fun r3 M4 _ _ h => ?_))
  refine m_callVi C (as := [vI r1, vI r3]) (rest := [vI (M 38 7)]) ok_X8_neighbours ml_X8_65 so_38 rfl rfl rfl (Nat.le_of_ble_eq_true rfl) (fun _ => rfl) dX8_touchingWith_18 (Con.mono h (fun r5 M6 _ _ h => ?_))
  refine m_iadd C dX8_touchingWith_21 ?_
  exact m_iret C E (Or.inl rfl) dX8_touchingWith_22 h
def B_X8_touchedBy (n : Nat) (a1 : Int) (M : Mem) (Q : Int → Mem → Prop)  : Prop :=
  Con n md_X0_hasStem [vR 1, vI a1] M (fun r1 M2 =>
  ((r1 = 0 →
  Q 0 M2) ∧ (¬ r1 = 0 →
  ((0 ≤ a1 ∧ a1 < 40) ∧ Con n md_X0_colourOf [vR 1, vI (M2 6 (Int.toNat a1))] M2 (fun r3 M4 =>
    ((0 ≤ a1 ∧ a1 < 40) ∧ Con n md_X8_neighbours [vR 38, vI r3, vI (M4 7 (Int.toNat a1))] M4 (fun r5 M6 =>
    Q (w32 (r5 - 1)) M6)))))))
set_option maxHeartbeats 4000000 in
set_option maxRecDepth 20000 in
theorem g_X8_touchedBy {n : Nat} {a1 : Int} {M : Mem} {Q : Int → Mem → Prop}  (h : B_X8_touchedBy n a1 M Q) : Con (n + 1) md_X8_touchedBy [vR 38, vI a1] M Q := by
  refine Con.ofF (n := n + 1) (Nat.succ_pos n) pl_X8_touchedBy (Nat.le_of_ble_eq_true rfl) (fun X C E hnL => ?_)
  have C : Cx X cX8_touchedBy RX8 n := C
  show WM X 0 [(0, vR 38), (1, vI a1)] [] M
  unfold B_X8_touchedBy at h
  refine m_aload_n C 0 dX8_touchedBy_0 rfl rfl ?_
  refine m_getR C (k := 0) cl_X8 (by decide) so_38 rfl fl_X8_31 dX8_touchedBy_1 ?_
  refine m_iload_n C 1 dX8_touchedBy_4 rfl rfl ?_
  refine m_callVi C (as := [vI a1]) (rest := []) ok_X0_hasStem ml_X8_107 so_1 rfl rfl rfl (Nat.le_of_ble_eq_true rfl) (fun _ => rfl) dX8_touchedBy_5 (Con.mono h (fun r1 M2 _ _ h => ?_))
  refine m_if_ne C (tgt := 13) dX8_touchedBy_8 (by decide) (fun e => ?_) (fun e => ?_)
  · have h := h.2 e
    refine m_aload_n C 0 dX8_touchedBy_13 rfl rfl ?_
    refine m_aload_n C 0 dX8_touchedBy_14 rfl rfl ?_
    refine m_getR C (k := 0) cl_X8 (by decide) so_38 rfl fl_X8_31 dX8_touchedBy_15 ?_
    refine m_aload_n C 0 dX8_touchedBy_18 rfl rfl ?_
    refine m_getR C (k := 0) cl_X8 (by decide) so_38 rfl fl_X8_31 dX8_touchedBy_19 ?_
    refine m_getR C (k := 9) cl_X0 (by decide) so_1 rfl fl_X8_55 dX8_touchedBy_22 ?_
    refine m_iload_n C 1 dX8_touchedBy_25 rfl rfl ?_
    refine m_iald C (N := 40) sa_6 h.1 dX8_touchedBy_26 ?_
    have h := h.2
    refine m_callVi C (as := [vI (M2 6 (Int.toNat a1))]) (rest := [vR 38]) ok_X0_colourOf ml_X8_58 so_1 rfl rfl rfl (Nat.le_of_ble_eq_true rfl) (fun _ => rfl) dX8_touchedBy_27 (Con.mono h (fun r3 M4 _ _ h => ?_))
    refine m_aload_n C 0 dX8_touchedBy_30 rfl rfl ?_
    refine m_getR C (k := 0) cl_X8 (by decide) so_38 rfl fl_X8_31 dX8_touchedBy_31 ?_
    refine m_getR C (k := 10) cl_X0 (by decide) so_1 rfl fl_X8_62 dX8_touchedBy_34 ?_
    refine m_iload_n C 1 dX8_touchedBy_37 rfl rfl ?_
    refine m_iald C (N := 40) sa_7 h.1 dX8_touchedBy_38 ?_
    have h := h.2
    refine m_callVi C (as := [vI r3, vI (M4 7 (Int.toNat a1))]) (rest := []) ok_X8_neighbours ml_X8_65 so_38 rfl rfl rfl (Nat.le_of_ble_eq_true rfl) (fun _ => rfl) dX8_touchedBy_39 (Con.mono h (fun r5 M6 _ _ h => ?_))
    refine m_iconst C dX8_touchedBy_42 (r32_of rfl) ?_
    refine m_isub C dX8_touchedBy_43 ?_
    exact m_iret C E (Or.inl rfl) dX8_touchedBy_44 h
  · have h := h.1 e
    refine m_iconst C dX8_touchedBy_11 (r32_of rfl) ?_
    exact m_iret C E (Or.inl rfl) dX8_touchedBy_12 h
def B_X8_put (n : Nat) (a1 : Int) (M : Mem) (Q : Int → Mem → Prop)  : Prop :=
  Con n md_X0_hasFlower [vR 1, vI a1] M (fun r1 M2 =>
  ((r1 = 0 →
  Q 0 M2) ∧ (¬ r1 = 0 →
  Con n md_X8_angleOf [vR 38, vI a1] M2 (fun r3 M4 =>
    (∀ M5 : Mem, M5 = up M4 38 5 r3 →
    Con n md_X0_colourOf [vR 1, vI a1] M5 (fun r6 M7 =>
    Con n md_X8_neighbours [vR 38, vI r6, vI (M7 38 5)] M7 (fun r8 M9 =>
    (∀ M10 : Mem, M10 = up M9 38 7 (w32 ((M5 38 7) + r8)) →
    Con n md_X0_colourOf [vR 1, vI a1] M10 (fun r11 M12 =>
    Con n md_X8_change [vR 38, vI r11, vI (M12 38 5), vI 1] M12 (fun _ M14 =>
    (∀ M15 : Mem, M15 = up M14 38 4 (w32 ((M14 38 4) + 1)) →
    ((0 ≤ a1 ∧ a1 < 6) ∧ ((0 ≤ a1 ∧ a1 < 6) ∧ (∀ M16 : Mem, M16 = up M15 39 (Int.toNat a1) (w32 ((M15 39 (Int.toNat a1)) - 1)) →
    Con n md_X0_thickOf [vR 1, vI a1] M16 (fun r17 M18 =>
    (∀ M19 : Mem, M19 = up M18 38 6 (w32 ((M16 38 6) - r17)) →
    Q 0 M19))))))))))))))))
set_option maxHeartbeats 4000000 in
set_option maxRecDepth 20000 in
theorem g_X8_put {n : Nat} {a1 : Int} {M : Mem} {Q : Int → Mem → Prop}  (h : B_X8_put n a1 M Q) : Con (n + 1) md_X8_put [vR 38, vI a1] M Q := by
  refine Con.ofF (n := n + 1) (Nat.succ_pos n) pl_X8_put (Nat.le_of_ble_eq_true rfl) (fun X C E hnL => ?_)
  have C : Cx X cX8_put RX8 n := C
  show WM X 0 [(0, vR 38), (1, vI a1)] [] M
  unfold B_X8_put at h
  refine m_aload_n C 0 dX8_put_0 rfl rfl ?_
  refine m_getR C (k := 0) cl_X8 (by decide) so_38 rfl fl_X8_31 dX8_put_1 ?_
  refine m_iload_n C 1 dX8_put_4 rfl rfl ?_
  refine m_callVi C (as := [vI a1]) (rest := []) ok_X0_hasFlower ml_X8_81 so_1 rfl rfl rfl (Nat.le_of_ble_eq_true rfl) (fun _ => rfl) dX8_put_5 (Con.mono h (fun r1 M2 _ _ h => ?_))
  refine m_if_ne C (tgt := 12) dX8_put_8 (by decide) (fun e => ?_) (fun e => ?_)
  · have h := h.2 e
    refine m_aload_n C 0 dX8_put_12 rfl rfl ?_
    refine m_aload_n C 0 dX8_put_13 rfl rfl ?_
    refine m_iload_n C 1 dX8_put_14 rfl rfl ?_
    refine m_callVi C (as := [vI a1]) (rest := [vR 38]) ok_X8_angleOf ml_X8_104 so_38 rfl rfl rfl (Nat.le_of_ble_eq_true rfl) (fun _ => rfl) dX8_put_15 (Con.mono h (fun r3 M4 _ _ h => ?_))
    refine m_putI C (k := 5) cl_X8 (by decide) so_38 rfl rfl rfl fl_X8_22 dX8_put_18 ?_
    generalize eM5 : up M4 38 5 r3 = M5
    have h := h M5 eM5.symm
    refine m_aload_n C 0 dX8_put_21 rfl rfl ?_
    refine m_dupR C dX8_put_22 ?_
    refine m_getI C (k := 7) cl_X8 (by decide) so_38 rfl fl_X8_28 dX8_put_23 ?_
    refine m_aload_n C 0 dX8_put_26 rfl rfl ?_
    refine m_aload_n C 0 dX8_put_27 rfl rfl ?_
    refine m_getR C (k := 0) cl_X8 (by decide) so_38 rfl fl_X8_31 dX8_put_28 ?_
    refine m_iload_n C 1 dX8_put_31 rfl rfl ?_
    refine m_callVi C (as := [vI a1]) (rest := [vR 38, vI (M5 38 7), vR 38]) ok_X0_colourOf ml_X8_58 so_1 rfl rfl rfl (Nat.le_of_ble_eq_true rfl) (fun _ => rfl) dX8_put_32 (Con.mono h (fun r6 M7 _ _ h => ?_))
    refine m_aload_n C 0 dX8_put_35 rfl rfl ?_
    refine m_getI C (k := 5) cl_X8 (by decide) so_38 rfl fl_X8_22 dX8_put_36 ?_
    refine m_callVi C (as := [vI r6, vI (M7 38 5)]) (rest := [vI (M5 38 7), vR 38]) ok_X8_neighbours ml_X8_65 so_38 rfl rfl rfl (Nat.le_of_ble_eq_true rfl) (fun _ => rfl) dX8_put_39 (Con.mono h (fun r8 M9 _ _ h => ?_))
    refine m_iadd C dX8_put_42 ?_
    refine m_putI C (k := 7) cl_X8 (by decide) so_38 rfl rfl rfl fl_X8_28 dX8_put_43 ?_
    generalize eM10 : up M9 38 7 (w32 ((M5 38 7) + r8)) = M10
    have h := h M10 eM10.symm
    refine m_aload_n C 0 dX8_put_46 rfl rfl ?_
    refine m_aload_n C 0 dX8_put_47 rfl rfl ?_
    refine m_getR C (k := 0) cl_X8 (by decide) so_38 rfl fl_X8_31 dX8_put_48 ?_
    refine m_iload_n C 1 dX8_put_51 rfl rfl ?_
    refine m_callVi C (as := [vI a1]) (rest := [vR 38]) ok_X0_colourOf ml_X8_58 so_1 rfl rfl rfl (Nat.le_of_ble_eq_true rfl) (fun _ => rfl) dX8_put_52 (Con.mono h (fun r11 M12 _ _ h => ?_))
    refine m_aload_n C 0 dX8_put_55 rfl rfl ?_
    refine m_getI C (k := 5) cl_X8 (by decide) so_38 rfl fl_X8_22 dX8_put_56 ?_
    refine m_iconst C dX8_put_59 (r32_of rfl) ?_
    refine m_callVv C (as := [vI r11, vI (M12 38 5), vI 1]) (rest := []) ok_X8_change ml_X8_69 so_38 rfl rfl rfl (Nat.le_of_ble_eq_true rfl) (fun _ => rfl) dX8_put_60 (Con.mono h (fun _ M14 _ _ h => ?_))
    refine m_aload_n C 0 dX8_put_63 rfl rfl ?_
    refine m_dupR C dX8_put_64 ?_
    refine m_getI C (k := 4) cl_X8 (by decide) so_38 rfl fl_X8_18 dX8_put_65 ?_
    refine m_iconst C dX8_put_68 (r32_of rfl) ?_
    refine m_iadd C dX8_put_69 ?_
    refine m_putI C (k := 4) cl_X8 (by decide) so_38 rfl rfl rfl fl_X8_18 dX8_put_70 ?_
    generalize eM15 : up M14 38 4 (w32 ((M14 38 4) + 1)) = M15
    have h := h M15 eM15.symm
    refine m_aload_n C 0 dX8_put_73 rfl rfl ?_
    refine m_getR C (k := 2) cl_X8 (by decide) so_38 rfl fl_X8_9 dX8_put_74 ?_
    refine m_iload_n C 1 dX8_put_77 rfl rfl ?_
    refine m_dup2 C dX8_put_78 ?_
    refine m_iald C (N := 6) sa_39 h.1 dX8_put_79 ?_
    have h := h.2
    refine m_iconst C dX8_put_80 (r32_of rfl) ?_
    refine m_isub C dX8_put_81 ?_
    refine m_iast C (N := 6) sa_39 h.1 dX8_put_82 ?_
    have h := h.2
    generalize eM16 : up M15 39 (Int.toNat a1) (w32 ((M15 39 (Int.toNat a1)) - 1)) = M16
    have h := h M16 eM16.symm
    refine m_aload_n C 0 dX8_put_83 rfl rfl ?_
    refine m_dupR C dX8_put_84 ?_
    refine m_getI C (k := 6) cl_X8 (by decide) so_38 rfl fl_X8_25 dX8_put_85 ?_
    refine m_aload_n C 0 dX8_put_88 rfl rfl ?_
    refine m_getR C (k := 0) cl_X8 (by decide) so_38 rfl fl_X8_31 dX8_put_89 ?_
    refine m_iload_n C 1 dX8_put_92 rfl rfl ?_
    refine m_callVi C (as := [vI a1]) (rest := [vI (M16 38 6), vR 38]) ok_X0_thickOf ml_X8_85 so_1 rfl rfl rfl (Nat.le_of_ble_eq_true rfl) (fun _ => rfl) dX8_put_93 (Con.mono h (fun r17 M18 _ _ h => ?_))
    refine m_isub C dX8_put_96 ?_
    refine m_putI C (k := 6) cl_X8 (by decide) so_38 rfl rfl rfl fl_X8_25 dX8_put_97 ?_
    generalize eM19 : up M18 38 6 (w32 ((M16 38 6) - r17)) = M19
    have h := h M19 eM19.symm
    exact m_vret C E dX8_put_100 h
  · have h := h.1 e
    exact m_vret C E dX8_put_11 h
def B_X8_putBack (n : Nat) (a1 : Int) (a2 : Int) (M : Mem) (Q : Int → Mem → Prop)  : Prop :=
  Con n md_X0_hasFlower [vR 1, vI a1] M (fun r1 M2 =>
  ((r1 = 0 →
  Q 0 M2) ∧ (¬ r1 = 0 →
  Con n md_X0_colourOf [vR 1, vI a1] M2 (fun r3 M4 =>
    Con n md_X8_change [vR 38, vI r3, vI (M4 38 5), vI (-1)] M4 (fun _ M6 =>
    Con n md_X0_colourOf [vR 1, vI a1] M6 (fun r7 M8 =>
    Con n md_X8_neighbours [vR 38, vI r7, vI (M8 38 5)] M8 (fun r9 M10 =>
    (∀ M11 : Mem, M11 = up M10 38 7 (w32 ((M6 38 7) - r9)) →
    (∀ M12 : Mem, M12 = up M11 38 5 a2 →
    (∀ M13 : Mem, M13 = up M12 38 4 (w32 ((M12 38 4) - 1)) →
    ((0 ≤ a1 ∧ a1 < 6) ∧ ((0 ≤ a1 ∧ a1 < 6) ∧ (∀ M14 : Mem, M14 = up M13 39 (Int.toNat a1) (w32 ((M13 39 (Int.toNat a1)) + 1)) →
    Con n md_X0_thickOf [vR 1, vI a1] M14 (fun r15 M16 =>
    (∀ M17 : Mem, M17 = up M16 38 6 (w32 ((M14 38 6) + r15)) →
    Q 0 M17)))))))))))))))
set_option maxHeartbeats 4000000 in
set_option maxRecDepth 20000 in
theorem g_X8_putBack {n : Nat} {a1 : Int} {a2 : Int} {M : Mem} {Q : Int → Mem → Prop}  (h : B_X8_putBack n a1 a2 M Q) : Con (n + 1) md_X8_putBack [vR 38, vI a1, vI a2] M Q := by
  refine Con.ofF (n := n + 1) (Nat.succ_pos n) pl_X8_putBack (Nat.le_of_ble_eq_true rfl) (fun X C E hnL => ?_)
  have C : Cx X cX8_putBack RX8 n := C
  show WM X 0 [(0, vR 38), (1, vI a1), (2, vI a2)] [] M
  unfold B_X8_putBack at h
  refine m_aload_n C 0 dX8_putBack_0 rfl rfl ?_
  refine m_getR C (k := 0) cl_X8 (by decide) so_38 rfl fl_X8_31 dX8_putBack_1 ?_
  refine m_iload_n C 1 dX8_putBack_4 rfl rfl ?_
  refine m_callVi C (as := [vI a1]) (rest := []) ok_X0_hasFlower ml_X8_81 so_1 rfl rfl rfl (Nat.le_of_ble_eq_true rfl) (fun _ => rfl) dX8_putBack_5 (Con.mono h (fun r1 M2 _ _ h => ?_))
  refine m_if_ne C (tgt := 12) dX8_putBack_8 (by decide) (fun e => ?_) (fun e => ?_)
  · have h := h.2 e
    refine m_aload_n C 0 dX8_putBack_12 rfl rfl ?_
    refine m_aload_n C 0 dX8_putBack_13 rfl rfl ?_
    refine m_getR C (k := 0) cl_X8 (by decide) so_38 rfl fl_X8_31 dX8_putBack_14 ?_
    refine m_iload_n C 1 dX8_putBack_17 rfl rfl ?_
    refine m_callVi C (as := [vI a1]) (rest := [vR 38]) ok_X0_colourOf ml_X8_58 so_1 rfl rfl rfl (Nat.le_of_ble_eq_true rfl) (fun _ => rfl) dX8_putBack_18 (Con.mono h (fun r3 M4 _ _ h => ?_))
    refine m_aload_n C 0 dX8_putBack_21 rfl rfl ?_
    refine m_getI C (k := 5) cl_X8 (by decide) so_38 rfl fl_X8_22 dX8_putBack_22 ?_
    refine m_iconst C dX8_putBack_25 (r32_of rfl) ?_
    refine m_callVv C (as := [vI r3, vI (M4 38 5), vI (-1)]) (rest := []) ok_X8_change ml_X8_69 so_38 rfl rfl rfl (Nat.le_of_ble_eq_true rfl) (fun _ => rfl) dX8_putBack_26 (Con.mono h (fun _ M6 _ _ h => ?_))
    refine m_aload_n C 0 dX8_putBack_29 rfl rfl ?_
    refine m_dupR C dX8_putBack_30 ?_
    refine m_getI C (k := 7) cl_X8 (by decide) so_38 rfl fl_X8_28 dX8_putBack_31 ?_
    refine m_aload_n C 0 dX8_putBack_34 rfl rfl ?_
    refine m_aload_n C 0 dX8_putBack_35 rfl rfl ?_
    refine m_getR C (k := 0) cl_X8 (by decide) so_38 rfl fl_X8_31 dX8_putBack_36 ?_
    refine m_iload_n C 1 dX8_putBack_39 rfl rfl ?_
    refine m_callVi C (as := [vI a1]) (rest := [vR 38, vI (M6 38 7), vR 38]) ok_X0_colourOf ml_X8_58 so_1 rfl rfl rfl (Nat.le_of_ble_eq_true rfl) (fun _ => rfl) dX8_putBack_40 (Con.mono h (fun r7 M8 _ _ h => ?_))
    refine m_aload_n C 0 dX8_putBack_43 rfl rfl ?_
    refine m_getI C (k := 5) cl_X8 (by decide) so_38 rfl fl_X8_22 dX8_putBack_44 ?_
    refine m_callVi C (as := [vI r7, vI (M8 38 5)]) (rest := [vI (M6 38 7), vR 38]) ok_X8_neighbours ml_X8_65 so_38 rfl rfl rfl (Nat.le_of_ble_eq_true rfl) (fun _ => rfl) dX8_putBack_47 (Con.mono h (fun r9 M10 _ _ h => ?_))
    refine m_isub C dX8_putBack_50 ?_
    refine m_putI C (k := 7) cl_X8 (by decide) so_38 rfl rfl rfl fl_X8_28 dX8_putBack_51 ?_
    generalize eM11 : up M10 38 7 (w32 ((M6 38 7) - r9)) = M11
    have h := h M11 eM11.symm
    refine m_aload_n C 0 dX8_putBack_54 rfl rfl ?_
    refine m_iload_n C 2 dX8_putBack_55 rfl rfl ?_
    refine m_putI C (k := 5) cl_X8 (by decide) so_38 rfl rfl rfl fl_X8_22 dX8_putBack_56 ?_
    generalize eM12 : up M11 38 5 a2 = M12
    have h := h M12 eM12.symm
    refine m_aload_n C 0 dX8_putBack_59 rfl rfl ?_
    refine m_dupR C dX8_putBack_60 ?_
    refine m_getI C (k := 4) cl_X8 (by decide) so_38 rfl fl_X8_18 dX8_putBack_61 ?_
    refine m_iconst C dX8_putBack_64 (r32_of rfl) ?_
    refine m_isub C dX8_putBack_65 ?_
    refine m_putI C (k := 4) cl_X8 (by decide) so_38 rfl rfl rfl fl_X8_18 dX8_putBack_66 ?_
    generalize eM13 : up M12 38 4 (w32 ((M12 38 4) - 1)) = M13
    have h := h M13 eM13.symm
    refine m_aload_n C 0 dX8_putBack_69 rfl rfl ?_
    refine m_getR C (k := 2) cl_X8 (by decide) so_38 rfl fl_X8_9 dX8_putBack_70 ?_
    refine m_iload_n C 1 dX8_putBack_73 rfl rfl ?_
    refine m_dup2 C dX8_putBack_74 ?_
    refine m_iald C (N := 6) sa_39 h.1 dX8_putBack_75 ?_
    have h := h.2
    refine m_iconst C dX8_putBack_76 (r32_of rfl) ?_
    refine m_iadd C dX8_putBack_77 ?_
    refine m_iast C (N := 6) sa_39 h.1 dX8_putBack_78 ?_
    have h := h.2
    generalize eM14 : up M13 39 (Int.toNat a1) (w32 ((M13 39 (Int.toNat a1)) + 1)) = M14
    have h := h M14 eM14.symm
    refine m_aload_n C 0 dX8_putBack_79 rfl rfl ?_
    refine m_dupR C dX8_putBack_80 ?_
    refine m_getI C (k := 6) cl_X8 (by decide) so_38 rfl fl_X8_25 dX8_putBack_81 ?_
    refine m_aload_n C 0 dX8_putBack_84 rfl rfl ?_
    refine m_getR C (k := 0) cl_X8 (by decide) so_38 rfl fl_X8_31 dX8_putBack_85 ?_
    refine m_iload_n C 1 dX8_putBack_88 rfl rfl ?_
    refine m_callVi C (as := [vI a1]) (rest := [vI (M14 38 6), vR 38]) ok_X0_thickOf ml_X8_85 so_1 rfl rfl rfl (Nat.le_of_ble_eq_true rfl) (fun _ => rfl) dX8_putBack_89 (Con.mono h (fun r15 M16 _ _ h => ?_))
    refine m_iadd C dX8_putBack_92 ?_
    refine m_putI C (k := 6) cl_X8 (by decide) so_38 rfl rfl rfl fl_X8_25 dX8_putBack_93 ?_
    generalize eM17 : up M16 38 6 (w32 ((M14 38 6) + r15)) = M17
    have h := h M17 eM17.symm
    exact m_vret C E dX8_putBack_96 h
  · have h := h.1 e
    exact m_vret C E dX8_putBack_11 h
def B_X3_start_17 (n : Nat) (a1 : Nat) (a2 : Int) (x3 : Int) (M : Mem) (Q : Int → Mem → Prop) (K17 : Int → Mem → Prop) : Prop :=
  (((M 41 2) ≤ x3 →
  (∀ M1 : Mem, M1 = up M 41 4 (-1) →
    Q 0 M1)) ∧ (¬ (M 41 2) ≤ x3 →
  ((0 ≤ x3 ∧ x3 < 40) ∧ ((0 ≤ x3 ∧ x3 < 6) ∧ (∀ M2 : Mem, M2 = up M 42 (Int.toNat x3) (M a1 (Int.toNat x3)) →
    K17 (w32 (x3 + 1)) M2)))))
def B_X3_start (n : Nat) (a1 : Nat) (a2 : Int) (M : Mem) (Q : Int → Mem → Prop) (K17 : Int → Mem → Prop) : Prop :=
  Con n md_J9_min_7cf53 [vI a2, vI 40] M (fun r3 M4 =>
  Con n md_J9_min_7cf53 [vI r3, vI 6] M4 (fun r5 M6 =>
  (∀ M7 : Mem, M7 = up M6 41 2 r5 →
  K17 0 M7)))
set_option maxHeartbeats 4000000 in
set_option maxRecDepth 20000 in
theorem g_X3_start {n : Nat} {a1 : Nat} {a2 : Int} {M : Mem} {Q : Int → Mem → Prop} (h_a1 : isI a1 40) (h : ∀ (K17 : Int → Mem → Prop), (∀ (x3 : Int) (M : Mem), B_X3_start_17 n a1 a2 x3 M Q K17 → K17 x3 M) → B_X3_start n a1 a2 M Q K17) : Con (n + 1) md_X3_start [vR 41, vR a1, vI a2] M Q := by
  refine Con.ofF (n := n + 1) (Nat.succ_pos n) pl_X3_start (Nat.le_of_ble_eq_true rfl) (fun X C E hnL => ?_)
  have C : Cx X cX3_start RX3 n := C
  show WM X 0 [(0, vR 41), (1, vR a1), (2, vI a2)] [] M
  have hb17 : ∀ (x3 : Int) (M : Mem), B_X3_start_17 n a1 a2 x3 M Q (fun (x3 : Int) (M : Mem) => WM X 17 [(0, vR 41), (1, vR a1), (2, vI a2), (3, vI x3)] [] M) → WM X 17 [(0, vR 41), (1, vR a1), (2, vI a2), (3, vI x3)] [] M := by
    intro x3 M h
    unfold B_X3_start_17 at h
    refine m_iload_n C 3 dX3_start_17 rfl rfl ?_
    refine m_aload_n C 0 dX3_start_18 rfl rfl ?_
    refine m_getI C (k := 2) cl_X3 (by decide) so_41 rfl fl_X3_15 dX3_start_19 ?_
    refine m_icmp_ge C (tgt := 40) dX3_start_22 (by decide) (fun e => ?_) (fun e => ?_)
    · have h := h.1 e
      refine m_aload_n C 0 dX3_start_40 rfl rfl ?_
      refine m_iconst C dX3_start_41 (r32_of rfl) ?_
      refine m_putI C (k := 4) cl_X3 (by decide) so_41 rfl rfl rfl fl_X3_22 dX3_start_42 ?_
      generalize eM1 : up M 41 4 (-1) = M1
      have h := h M1 eM1.symm
      exact m_vret C E dX3_start_45 h
    · have h := h.2 e
      refine m_aload_n C 0 dX3_start_25 rfl rfl ?_
      refine m_getR C (k := 1) cl_X3 (by decide) so_41 rfl fl_X3_9 dX3_start_26 ?_
      refine m_iload_n C 3 dX3_start_29 rfl rfl ?_
      refine m_aload_n C 1 dX3_start_30 rfl rfl ?_
      refine m_iload_n C 3 dX3_start_31 rfl rfl ?_
      refine m_iald C (N := 40) h_a1 h.1 dX3_start_32 ?_
      have h := h.2
      refine m_iast C (N := 6) sa_42 h.1 dX3_start_33 ?_
      have h := h.2
      generalize eM2 : up M 42 (Int.toNat x3) (M a1 (Int.toNat x3)) = M2
      have h := h M2 eM2.symm
      refine m_iinc C (L' := [(3, vI (w32 (x3 + 1))), (0, vR 41), (1, vR a1), (2, vI a2)]) 3 dX3_start_34 rfl (by rw [hnL]; decide) rfl ?_
      refine m_goto C (tgt := 17) dX3_start_37 (by decide) ?_
      exact m_sub [1, 2, 3, 0] rfl h
  have h := h (fun (x3 : Int) (M : Mem) => WM X 17 [(0, vR 41), (1, vR a1), (2, vI a2), (3, vI x3)] [] M) hb17
  unfold B_X3_start at h
  refine m_aload_n C 0 dX3_start_0 rfl rfl ?_
  refine m_iload_n C 2 dX3_start_1 rfl rfl ?_
  refine m_aload_n C 1 dX3_start_2 rfl rfl ?_
  refine m_alen C (N := 40) h_a1 (Or.inl rfl) rfl (r32_of rfl) dX3_start_3 ?_
  refine m_callSi C (as := [vI a2, vI 40]) (rest := [vR 41]) ok_J9_min_7cf53 ml_X3_29 rfl rfl (Nat.le_of_ble_eq_true rfl) (fun _ => rfl) dX3_start_4 (Con.mono h (fun r3 M4 _ _ h => ?_))
  refine m_bipush C dX3_start_7 (r32_of rfl) (by decide) ?_
  refine m_callSi C (as := [vI r3, vI 6]) (rest := [vR 41]) ok_J9_min_7cf53 ml_X3_29 rfl rfl (Nat.le_of_ble_eq_true rfl) (fun _ => rfl) dX3_start_9 (Con.mono h (fun r5 M6 _ _ h => ?_))
  refine m_putI C (k := 2) cl_X3 (by decide) so_41 rfl rfl rfl fl_X3_15 dX3_start_12 ?_
  generalize eM7 : up M6 41 2 r5 = M7
  have h := h M7 eM7.symm
  refine m_iconst C dX3_start_15 (r32_of rfl) ?_
  refine m_istore_n C (L' := [(3, vI 0), (0, vR 41), (1, vR a1), (2, vI a2)]) dX3_start_16 rfl (by rw [hnL]; decide) rfl ?_
  exact m_sub [1, 2, 3, 0] rfl h
def B_X3_search_51 (n : Nat) (a1 : Int) (a2 : Int) (a3 : Int) (x4 : Int) (M : Mem) (Q : Int → Mem → Prop) (K51 : Int → Mem → Prop) : Prop :=
  (((M 41 2) ≤ x4 →
  Q 0 M) ∧ (¬ (M 41 2) ≤ x4 →
  Con n md_X3_isFree [vR 41, vI x4, vI a2] M (fun r1 M2 =>
    ((r1 = 0 →
    K51 (w32 (x4 + 1)) M2) ∧ (¬ r1 = 0 →
    Con n md_X3_tryPlace [vR 41, vI x4, vI a1, vI a2, vI a3] M2 (fun _ M4 =>
      K51 (w32 (x4 + 1)) M4))))))
def B_X3_search (n : Nat) (a1 : Int) (a2 : Int) (a3 : Int) (M : Mem) (Q : Int → Mem → Prop) (K51 : Int → Mem → Prop) : Prop :=
  (((M 41 4) = (-1) →
  ((a1 < (M 41 2) →
    K51 0 M) ∧ (¬ a1 < (M 41 2) →
    (∀ M5 : Mem, M5 = up M 41 4 a3 →
      (∀ M6 : Mem, M6 = up M5 41 3 (M5 38 7) →
      Q 0 M6))))) ∧ (¬ (M 41 4) = (-1) →
  (((M 38 7) < (M 41 3) →
    ((a1 < (M 41 2) →
      K51 0 M) ∧ (¬ a1 < (M 41 2) →
      (∀ M7 : Mem, M7 = up M 41 4 a3 →
        (∀ M8 : Mem, M8 = up M7 41 3 (M7 38 7) →
        Q 0 M8))))) ∧ (¬ (M 38 7) < (M 41 3) →
    Q 0 M))))
set_option maxHeartbeats 4000000 in
set_option maxRecDepth 20000 in
theorem g_X3_search {n : Nat} {a1 : Int} {a2 : Int} {a3 : Int} {M : Mem} {Q : Int → Mem → Prop}  (h : ∀ (K51 : Int → Mem → Prop), (∀ (x4 : Int) (M : Mem), B_X3_search_51 n a1 a2 a3 x4 M Q K51 → K51 x4 M) → B_X3_search n a1 a2 a3 M Q K51) : Con (n + 1) md_X3_search [vR 41, vI a1, vI a2, vI a3] M Q := by
  refine Con.ofF (n := n + 1) (Nat.succ_pos n) pl_X3_search (Nat.le_of_ble_eq_true rfl) (fun X C E hnL => ?_)
  have C : Cx X cX3_search RX3 n := C
  show WM X 0 [(0, vR 41), (1, vI a1), (2, vI a2), (3, vI a3)] [] M
  have hb51 : ∀ (x4 : Int) (M : Mem), B_X3_search_51 n a1 a2 a3 x4 M Q (fun (x4 : Int) (M : Mem) => WM X 51 [(0, vR 41), (1, vI a1), (2, vI a2), (3, vI a3), (4, vI x4)] [] M) → WM X 51 [(0, vR 41), (1, vI a1), (2, vI a2), (3, vI a3), (4, vI x4)] [] M := by
    intro x4 M h
    unfold B_X3_search_51 at h
    refine m_iload C 4 dX3_search_51 rfl ?_
    refine m_aload_n C 0 dX3_search_53 rfl rfl ?_
    refine m_getI C (k := 2) cl_X3 (by decide) so_41 rfl fl_X3_15 dX3_search_54 ?_
    refine m_icmp_ge C (tgt := 85) dX3_search_57 (by decide) (fun e => ?_) (fun e => ?_)
    · have h := h.1 e
      exact m_vret C E dX3_search_85 h
    · have h := h.2 e
      refine m_aload_n C 0 dX3_search_60 rfl rfl ?_
      refine m_iload C 4 dX3_search_61 rfl ?_
      refine m_iload_n C 2 dX3_search_63 rfl rfl ?_
      refine m_callVi C (as := [vI x4, vI a2]) (rest := []) ok_X3_isFree ml_X3_40 so_41 rfl rfl rfl (Nat.le_of_ble_eq_true rfl) (fun _ => rfl) dX3_search_64 (Con.mono h (fun r1 M2 _ _ h => ?_))
      refine m_if_eq C (tgt := 79) dX3_search_67 (by decide) (fun e => ?_) (fun e => ?_)
      · have h := h.1 e
        refine m_iinc C (L' := [(4, vI (w32 (x4 + 1))), (0, vR 41), (1, vI a1), (2, vI a2), (3, vI a3)]) 4 dX3_search_79 rfl (by rw [hnL]; decide) rfl ?_
        refine m_goto C (tgt := 51) dX3_search_82 (by decide) ?_
        exact m_sub [1, 2, 3, 4, 0] rfl h
      · have h := h.2 e
        refine m_aload_n C 0 dX3_search_70 rfl rfl ?_
        refine m_iload C 4 dX3_search_71 rfl ?_
        refine m_iload_n C 1 dX3_search_73 rfl rfl ?_
        refine m_iload_n C 2 dX3_search_74 rfl rfl ?_
        refine m_iload_n C 3 dX3_search_75 rfl rfl ?_
        refine m_callVv C (as := [vI x4, vI a1, vI a2, vI a3]) (rest := []) ok_X3_tryPlace ml_X3_44 so_41 rfl rfl rfl (Nat.le_of_ble_eq_true rfl) (fun _ => rfl) dX3_search_76 (Con.mono h (fun _ M4 _ _ h => ?_))
        refine m_iinc C (L' := [(4, vI (w32 (x4 + 1))), (0, vR 41), (1, vI a1), (2, vI a2), (3, vI a3)]) 4 dX3_search_79 rfl (by rw [hnL]; decide) rfl ?_
        refine m_goto C (tgt := 51) dX3_search_82 (by decide) ?_
        exact m_sub [1, 2, 3, 4, 0] rfl h
  have h := h (fun (x4 : Int) (M : Mem) => WM X 51 [(0, vR 41), (1, vI a1), (2, vI a2), (3, vI a3), (4, vI x4)] [] M) hb51
  unfold B_X3_search at h
  refine m_aload_n C 0 dX3_search_0 rfl rfl ?_
  refine m_getI C (k := 4) cl_X3 (by decide) so_41 rfl fl_X3_22 dX3_search_1 ?_
  refine m_iconst C dX3_search_4 (r32_of rfl) ?_
  refine m_icmp_eq C (tgt := 23) dX3_search_5 (by decide) (fun e => ?_) (fun e => ?_)
  · have h := h.1 e
    refine m_iload_n C 1 dX3_search_23 rfl rfl ?_
    refine m_aload_n C 0 dX3_search_24 rfl rfl ?_
    refine m_getI C (k := 2) cl_X3 (by decide) so_41 rfl fl_X3_15 dX3_search_25 ?_
    refine m_icmp_lt C (tgt := 48) dX3_search_28 (by decide) (fun e => ?_) (fun e => ?_)
    · have h := h.1 e
      refine m_iconst C dX3_search_48 (r32_of rfl) ?_
      refine m_istore C (L' := [(4, vI 0), (0, vR 41), (1, vI a1), (2, vI a2), (3, vI a3)]) dX3_search_49 (by rw [hnL]; decide) rfl ?_
      exact m_sub [1, 2, 3, 4, 0] rfl h
    · have h := h.2 e
      refine m_aload_n C 0 dX3_search_31 rfl rfl ?_
      refine m_iload_n C 3 dX3_search_32 rfl rfl ?_
      refine m_putI C (k := 4) cl_X3 (by decide) so_41 rfl rfl rfl fl_X3_22 dX3_search_33 ?_
      generalize eM5 : up M 41 4 a3 = M5
      have h := h M5 eM5.symm
      refine m_aload_n C 0 dX3_search_36 rfl rfl ?_
      refine m_aload_n C 0 dX3_search_37 rfl rfl ?_
      refine m_getR C (k := 0) cl_X3 (by decide) so_41 rfl fl_X3_25 dX3_search_38 ?_
      refine m_getI C (k := 7) cl_X8 (by decide) so_38 rfl fl_X3_35 dX3_search_41 ?_
      refine m_putI C (k := 3) cl_X3 (by decide) so_41 rfl rfl rfl fl_X3_19 dX3_search_44 ?_
      generalize eM6 : up M5 41 3 (M5 38 7) = M6
      have h := h M6 eM6.symm
      exact m_vret C E dX3_search_47 h
  · have h := h.2 e
    refine m_aload_n C 0 dX3_search_8 rfl rfl ?_
    refine m_getR C (k := 0) cl_X3 (by decide) so_41 rfl fl_X3_25 dX3_search_9 ?_
    refine m_getI C (k := 7) cl_X8 (by decide) so_38 rfl fl_X3_35 dX3_search_12 ?_
    refine m_aload_n C 0 dX3_search_15 rfl rfl ?_
    refine m_getI C (k := 3) cl_X3 (by decide) so_41 rfl fl_X3_19 dX3_search_16 ?_
    refine m_icmp_lt C (tgt := 23) dX3_search_19 (by decide) (fun e => ?_) (fun e => ?_)
    · have h := h.1 e
      refine m_iload_n C 1 dX3_search_23 rfl rfl ?_
      refine m_aload_n C 0 dX3_search_24 rfl rfl ?_
      refine m_getI C (k := 2) cl_X3 (by decide) so_41 rfl fl_X3_15 dX3_search_25 ?_
      refine m_icmp_lt C (tgt := 48) dX3_search_28 (by decide) (fun e => ?_) (fun e => ?_)
      · have h := h.1 e
        refine m_iconst C dX3_search_48 (r32_of rfl) ?_
        refine m_istore C (L' := [(4, vI 0), (0, vR 41), (1, vI a1), (2, vI a2), (3, vI a3)]) dX3_search_49 (by rw [hnL]; decide) rfl ?_
        exact m_sub [1, 2, 3, 4, 0] rfl h
      · have h := h.2 e
        refine m_aload_n C 0 dX3_search_31 rfl rfl ?_
        refine m_iload_n C 3 dX3_search_32 rfl rfl ?_
        refine m_putI C (k := 4) cl_X3 (by decide) so_41 rfl rfl rfl fl_X3_22 dX3_search_33 ?_
        generalize eM7 : up M 41 4 a3 = M7
        have h := h M7 eM7.symm
        refine m_aload_n C 0 dX3_search_36 rfl rfl ?_
        refine m_aload_n C 0 dX3_search_37 rfl rfl ?_
        refine m_getR C (k := 0) cl_X3 (by decide) so_41 rfl fl_X3_25 dX3_search_38 ?_
        refine m_getI C (k := 7) cl_X8 (by decide) so_38 rfl fl_X3_35 dX3_search_41 ?_
        refine m_putI C (k := 3) cl_X3 (by decide) so_41 rfl rfl rfl fl_X3_19 dX3_search_44 ?_
        generalize eM8 : up M7 41 3 (M7 38 7) = M8
        have h := h M8 eM8.symm
        exact m_vret C E dX3_search_47 h
    · have h := h.2 e
      exact m_vret C E dX3_search_22 h
def B_X3_tryPlace (n : Nat) (a1 : Int) (a2 : Int) (a3 : Int) (a4 : Int) (M : Mem) (Q : Int → Mem → Prop)  : Prop :=
  ((0 ≤ a1 ∧ a1 < 6) ∧ Con n md_X8_canBe [vR 38, vI (M 42 (Int.toNat a1))] M (fun r1 M2 =>
  ((r1 = 0 →
  Con n md_X3_search [vR 41, vI (w32 (a2 + 1)), vI (o_r a3 (sh_l 1 a1)), vI (w32 ((w32 ((w32 (a4 * 10)) + a1)) + 1))] M2 (fun _ M4 =>
    ((r1 = 0 →
    Q 0 M4) ∧ (¬ r1 = 0 →
    Con n md_X8_putBack [vR 38, vI (M 42 (Int.toNat a1)), vI (M 38 5)] M4 (fun _ M6 =>
      Q 0 M6))))) ∧ (¬ r1 = 0 →
  Con n md_X8_put [vR 38, vI (M 42 (Int.toNat a1))] M2 (fun _ M8 =>
    Con n md_X3_search [vR 41, vI (w32 (a2 + 1)), vI (o_r a3 (sh_l 1 a1)), vI (w32 ((w32 ((w32 (a4 * 10)) + a1)) + 1))] M8 (fun _ M10 =>
    ((r1 = 0 →
    Q 0 M10) ∧ (¬ r1 = 0 →
    Con n md_X8_putBack [vR 38, vI (M 42 (Int.toNat a1)), vI (M 38 5)] M10 (fun _ M12 =>
      Q 0 M12)))))))))
set_option maxHeartbeats 4000000 in
set_option maxRecDepth 20000 in
theorem g_X3_tryPlace {n : Nat} {a1 : Int} {a2 : Int} {a3 : Int} {a4 : Int} {M : Mem} {Q : Int → Mem → Prop}  (h : B_X3_tryPlace n a1 a2 a3 a4 M Q) : Con (n + 1) md_X3_tryPlace [vR 41, vI a1, vI a2, vI a3, vI a4] M Q := by
  refine Con.ofF (n := n + 1) (Nat.succ_pos n) pl_X3_tryPlace (Nat.le_of_ble_eq_true rfl) (fun X C E hnL => ?_)
  have C : Cx X cX3_tryPlace RX3 n := C
  show WM X 0 [(0, vR 41), (1, vI a1), (2, vI a2), (3, vI a3), (4, vI a4)] [] M
  unfold B_X3_tryPlace at h
  refine m_aload_n C 0 dX3_tryPlace_0 rfl rfl ?_
  refine m_getR C (k := 1) cl_X3 (by decide) so_41 rfl fl_X3_9 dX3_tryPlace_1 ?_
  refine m_iload_n C 1 dX3_tryPlace_4 rfl rfl ?_
  refine m_iald C (N := 6) sa_42 h.1 dX3_tryPlace_5 ?_
  have h := h.2
  refine m_istore C (L' := [(5, vI (M 42 (Int.toNat a1))), (0, vR 41), (1, vI a1), (2, vI a2), (3, vI a3), (4, vI a4)]) dX3_tryPlace_6 (by rw [hnL]; decide) rfl ?_
  refine m_aload_n C 1 dX3_tryPlace_8 rfl rfl ?_
  refine m_getR C (k := 0) cl_X3 (by decide) so_41 rfl fl_X3_25 dX3_tryPlace_9 ?_
  refine m_getI C (k := 5) cl_X8 (by decide) so_38 rfl fl_X3_48 dX3_tryPlace_12 ?_
  refine m_istore C (L' := [(6, vI (M 38 5)), (5, vI (M 42 (Int.toNat a1))), (0, vR 41), (1, vI a1), (2, vI a2), (3, vI a3), (4, vI a4)]) dX3_tryPlace_15 (by rw [hnL]; decide) rfl ?_
  refine m_aload_n C 2 dX3_tryPlace_17 rfl rfl ?_
  refine m_getR C (k := 0) cl_X3 (by decide) so_41 rfl fl_X3_25 dX3_tryPlace_18 ?_
  refine m_iload C 1 dX3_tryPlace_21 rfl ?_
  refine m_callVi C (as := [vI (M 42 (Int.toNat a1))]) (rest := []) ok_X8_canBe ml_X3_51 so_38 rfl rfl rfl (Nat.le_of_ble_eq_true rfl) (fun _ => rfl) dX3_tryPlace_23 (Con.mono h (fun r1 M2 _ _ h => ?_))
  refine m_istore C (L' := [(7, vI r1), (6, vI (M 38 5)), (5, vI (M 42 (Int.toNat a1))), (0, vR 41), (1, vI a1), (2, vI a2), (3, vI a3), (4, vI a4)]) dX3_tryPlace_26 (by rw [hnL]; decide) rfl ?_
  refine m_iload C 0 dX3_tryPlace_28 rfl ?_
  refine m_if_eq C (tgt := 42) dX3_tryPlace_30 (by decide) (fun e => ?_) (fun e => ?_)
  · have h := h.1 e
    refine m_aload_n C 3 dX3_tryPlace_42 rfl rfl ?_
    refine m_iload_n C 5 dX3_tryPlace_43 rfl rfl ?_
    refine m_iconst C dX3_tryPlace_44 (r32_of rfl) ?_
    refine m_iadd C dX3_tryPlace_45 ?_
    refine m_iload_n C 6 dX3_tryPlace_46 rfl rfl ?_
    refine m_iconst C dX3_tryPlace_47 (r32_of rfl) ?_
    refine m_iload_n C 4 dX3_tryPlace_48 rfl rfl ?_
    refine m_ishl C dX3_tryPlace_49 ?_
    refine m_ior C dX3_tryPlace_50 ?_
    refine m_iload C 7 dX3_tryPlace_51 rfl ?_
    refine m_bipush C dX3_tryPlace_53 (r32_of rfl) (by decide) ?_
    refine m_imul C dX3_tryPlace_55 ?_
    refine m_iload_n C 4 dX3_tryPlace_56 rfl rfl ?_
    refine m_iadd C dX3_tryPlace_57 ?_
    refine m_iconst C dX3_tryPlace_58 (r32_of rfl) ?_
    refine m_iadd C dX3_tryPlace_59 ?_
    refine m_callVv C (as := [vI (w32 (a2 + 1)), vI (o_r a3 (sh_l 1 a1)), vI (w32 ((w32 ((w32 (a4 * 10)) + a1)) + 1))]) (rest := []) ok_X3_search ml_X3_59 so_41 rfl rfl rfl (Nat.le_of_ble_eq_true rfl) (fun _ => rfl) dX3_tryPlace_60 (Con.mono h (fun _ M4 _ _ h => ?_))
    refine m_iload C 0 dX3_tryPlace_63 rfl ?_
    refine m_if_eq C (tgt := 79) dX3_tryPlace_65 (by decide) (fun e => ?_) (fun e => ?_)
    · have h := h.1 e
      exact m_vret C E dX3_tryPlace_79 h
    · have h := h.2 e
      refine m_aload_n C 3 dX3_tryPlace_68 rfl rfl ?_
      refine m_getR C (k := 0) cl_X3 (by decide) so_41 rfl fl_X3_25 dX3_tryPlace_69 ?_
      refine m_iload C 2 dX3_tryPlace_72 rfl ?_
      refine m_iload C 1 dX3_tryPlace_74 rfl ?_
      refine m_callVv C (as := [vI (M 42 (Int.toNat a1)), vI (M 38 5)]) (rest := []) ok_X8_putBack ml_X3_63 so_38 rfl rfl rfl (Nat.le_of_ble_eq_true rfl) (fun _ => rfl) dX3_tryPlace_76 (Con.mono h (fun _ M6 _ _ h => ?_))
      exact m_vret C E dX3_tryPlace_79 h
  · have h := h.2 e
    refine m_aload_n C 3 dX3_tryPlace_33 rfl rfl ?_
    refine m_getR C (k := 0) cl_X3 (by decide) so_41 rfl fl_X3_25 dX3_tryPlace_34 ?_
    refine m_iload C 2 dX3_tryPlace_37 rfl ?_
    refine m_callVv C (as := [vI (M 42 (Int.toNat a1))]) (rest := []) ok_X8_put ml_X3_55 so_38 rfl rfl rfl (Nat.le_of_ble_eq_true rfl) (fun _ => rfl) dX3_tryPlace_39 (Con.mono h (fun _ M8 _ _ h => ?_))
    refine m_aload_n C 3 dX3_tryPlace_42 rfl rfl ?_
    refine m_iload_n C 5 dX3_tryPlace_43 rfl rfl ?_
    refine m_iconst C dX3_tryPlace_44 (r32_of rfl) ?_
    refine m_iadd C dX3_tryPlace_45 ?_
    refine m_iload_n C 6 dX3_tryPlace_46 rfl rfl ?_
    refine m_iconst C dX3_tryPlace_47 (r32_of rfl) ?_
    refine m_iload_n C 4 dX3_tryPlace_48 rfl rfl ?_
    refine m_ishl C dX3_tryPlace_49 ?_
    refine m_ior C dX3_tryPlace_50 ?_
    refine m_iload C 7 dX3_tryPlace_51 rfl ?_
    refine m_bipush C dX3_tryPlace_53 (r32_of rfl) (by decide) ?_
    refine m_imul C dX3_tryPlace_55 ?_
    refine m_iload_n C 4 dX3_tryPlace_56 rfl rfl ?_
    refine m_iadd C dX3_tryPlace_57 ?_
    refine m_iconst C dX3_tryPlace_58 (r32_of rfl) ?_
    refine m_iadd C dX3_tryPlace_59 ?_
    refine m_callVv C (as := [vI (w32 (a2 + 1)), vI (o_r a3 (sh_l 1 a1)), vI (w32 ((w32 ((w32 (a4 * 10)) + a1)) + 1))]) (rest := []) ok_X3_search ml_X3_59 so_41 rfl rfl rfl (Nat.le_of_ble_eq_true rfl) (fun _ => rfl) dX3_tryPlace_60 (Con.mono h (fun _ M10 _ _ h => ?_))
    refine m_iload C 0 dX3_tryPlace_63 rfl ?_
    refine m_if_eq C (tgt := 79) dX3_tryPlace_65 (by decide) (fun e => ?_) (fun e => ?_)
    · have h := h.1 e
      exact m_vret C E dX3_tryPlace_79 h
    · have h := h.2 e
      refine m_aload_n C 3 dX3_tryPlace_68 rfl rfl ?_
      refine m_getR C (k := 0) cl_X3 (by decide) so_41 rfl fl_X3_25 dX3_tryPlace_69 ?_
      refine m_iload C 2 dX3_tryPlace_72 rfl ?_
      refine m_iload C 1 dX3_tryPlace_74 rfl ?_
      refine m_callVv C (as := [vI (M 42 (Int.toNat a1)), vI (M 38 5)]) (rest := []) ok_X8_putBack ml_X3_63 so_38 rfl rfl rfl (Nat.le_of_ble_eq_true rfl) (fun _ => rfl) dX3_tryPlace_76 (Con.mono h (fun _ M12 _ _ h => ?_))
      exact m_vret C E dX3_tryPlace_79 h
def B_X3_isFree_12 (n : Nat) (a1 : Int) (a2 : Int) (x3 : Int) (M : Mem) (Q : Int → Mem → Prop) (K12 : Int → Mem → Prop) : Prop :=
  ((a1 ≤ x3 →
  Q 1 M) ∧ (¬ a1 ≤ x3 →
  (((an_d (sh_r a2 x3) 1) = 0 →
    ((0 ≤ x3 ∧ x3 < 6) ∧ ((0 ≤ a1 ∧ a1 < 6) ∧ (((M 42 (Int.toNat x3)) = (M 42 (Int.toNat a1)) →
      Q 0 M) ∧ (¬ (M 42 (Int.toNat x3)) = (M 42 (Int.toNat a1)) →
      K12 (w32 (x3 + 1)) M))))) ∧ (¬ (an_d (sh_r a2 x3) 1) = 0 →
    K12 (w32 (x3 + 1)) M))))
def B_X3_isFree (n : Nat) (a1 : Int) (a2 : Int) (M : Mem) (Q : Int → Mem → Prop) (K12 : Int → Mem → Prop) : Prop :=
  (((an_d (sh_r a2 a1) 1) = 0 →
  K12 0 M) ∧ (¬ (an_d (sh_r a2 a1) 1) = 0 →
  Q 0 M))
set_option maxHeartbeats 4000000 in
set_option maxRecDepth 20000 in
theorem g_X3_isFree {n : Nat} {a1 : Int} {a2 : Int} {M : Mem} {Q : Int → Mem → Prop}  (h : ∀ (K12 : Int → Mem → Prop), (∀ (x3 : Int) (M : Mem), B_X3_isFree_12 n a1 a2 x3 M Q K12 → K12 x3 M) → B_X3_isFree n a1 a2 M Q K12) : Con (n + 1) md_X3_isFree [vR 41, vI a1, vI a2] M Q := by
  refine Con.ofF (n := n + 1) (Nat.succ_pos n) pl_X3_isFree (Nat.le_of_ble_eq_true rfl) (fun X C E hnL => ?_)
  have C : Cx X cX3_isFree RX3 n := C
  show WM X 0 [(0, vR 41), (1, vI a1), (2, vI a2)] [] M
  have hb12 : ∀ (x3 : Int) (M : Mem), B_X3_isFree_12 n a1 a2 x3 M Q (fun (x3 : Int) (M : Mem) => WM X 12 [(0, vR 41), (1, vI a1), (2, vI a2), (3, vI x3)] [] M) → WM X 12 [(0, vR 41), (1, vI a1), (2, vI a2), (3, vI x3)] [] M := by
    intro x3 M h
    unfold B_X3_isFree_12 at h
    refine m_iload_n C 3 dX3_isFree_12 rfl rfl ?_
    refine m_iload_n C 1 dX3_isFree_13 rfl rfl ?_
    refine m_icmp_ge C (tgt := 48) dX3_isFree_14 (by decide) (fun e => ?_) (fun e => ?_)
    · have h := h.1 e
      refine m_iconst C dX3_isFree_48 (r32_of rfl) ?_
      exact m_iret C E (Or.inr ⟨rfl, Or.inr rfl⟩) dX3_isFree_49 h
    · have h := h.2 e
      refine m_iload_n C 2 dX3_isFree_17 rfl rfl ?_
      refine m_iload_n C 3 dX3_isFree_18 rfl rfl ?_
      refine m_ishr C dX3_isFree_19 ?_
      refine m_iconst C dX3_isFree_20 (r32_of rfl) ?_
      refine m_iand C dX3_isFree_21 ?_
      refine m_if_ne C (tgt := 42) dX3_isFree_22 (by decide) (fun e => ?_) (fun e => ?_)
      · have h := h.2 e
        refine m_iinc C (L' := [(3, vI (w32 (x3 + 1))), (0, vR 41), (1, vI a1), (2, vI a2)]) 3 dX3_isFree_42 rfl (by rw [hnL]; decide) rfl ?_
        refine m_goto C (tgt := 12) dX3_isFree_45 (by decide) ?_
        exact m_sub [1, 2, 3, 0] rfl h
      · have h := h.1 e
        refine m_aload_n C 0 dX3_isFree_25 rfl rfl ?_
        refine m_getR C (k := 1) cl_X3 (by decide) so_41 rfl fl_X3_9 dX3_isFree_26 ?_
        refine m_iload_n C 3 dX3_isFree_29 rfl rfl ?_
        refine m_iald C (N := 6) sa_42 h.1 dX3_isFree_30 ?_
        have h := h.2
        refine m_aload_n C 0 dX3_isFree_31 rfl rfl ?_
        refine m_getR C (k := 1) cl_X3 (by decide) so_41 rfl fl_X3_9 dX3_isFree_32 ?_
        refine m_iload_n C 1 dX3_isFree_35 rfl rfl ?_
        refine m_iald C (N := 6) sa_42 h.1 dX3_isFree_36 ?_
        have h := h.2
        refine m_icmp_ne C (tgt := 42) dX3_isFree_37 (by decide) (fun e => ?_) (fun e => ?_)
        · have h := h.2 e
          refine m_iinc C (L' := [(3, vI (w32 (x3 + 1))), (0, vR 41), (1, vI a1), (2, vI a2)]) 3 dX3_isFree_42 rfl (by rw [hnL]; decide) rfl ?_
          refine m_goto C (tgt := 12) dX3_isFree_45 (by decide) ?_
          exact m_sub [1, 2, 3, 0] rfl h
        · have h := h.1 e
          refine m_iconst C dX3_isFree_40 (r32_of rfl) ?_
          exact m_iret C E (Or.inr ⟨rfl, Or.inl rfl⟩) dX3_isFree_41 h
  have h := h (fun (x3 : Int) (M : Mem) => WM X 12 [(0, vR 41), (1, vI a1), (2, vI a2), (3, vI x3)] [] M) hb12
  unfold B_X3_isFree at h
  refine m_iload_n C 2 dX3_isFree_0 rfl rfl ?_
  refine m_iload_n C 1 dX3_isFree_1 rfl rfl ?_
  refine m_ishr C dX3_isFree_2 ?_
  refine m_iconst C dX3_isFree_3 (r32_of rfl) ?_
  refine m_iand C dX3_isFree_4 ?_
  refine m_if_eq C (tgt := 10) dX3_isFree_5 (by decide) (fun e => ?_) (fun e => ?_)
  · have h := h.1 e
    refine m_iconst C dX3_isFree_10 (r32_of rfl) ?_
    refine m_istore_n C (L' := [(3, vI 0), (0, vR 41), (1, vI a1), (2, vI a2)]) dX3_isFree_11 rfl (by rw [hnL]; decide) rfl ?_
    exact m_sub [1, 2, 3, 0] rfl h
  · have h := h.2 e
    refine m_iconst C dX3_isFree_8 (r32_of rfl) ?_
    exact m_iret C E (Or.inr ⟨rfl, Or.inl rfl⟩) dX3_isFree_9 h
def B_X9_set (n : Nat) (a1 : Int) (a2 : Int) (a3 : Int) (M : Mem) (Q : Int → Mem → Prop)  : Prop :=
  ((a3 < 0 →
  Q (-2) M) ∧ (¬ a3 < 0 →
  Con n md_X9_mostOf [vI a1] M (fun r1 M2 =>
    ((a3 ≤ r1 →
    ((a1 < 2 →
      Con n md_X0_settingOf [vR 1, vI a1, vI a2] M2 (fun r3 M4 =>
        Con n md_X0_change [vR 1, vI a1, vI a2, vI a3] M4 (fun _ M6 =>
        Q r3 M6))) ∧ (¬ a1 < 2 →
      Con n md_X0_hasFlower [vR 1, vI a2] M2 (fun r7 M8 =>
        ((r7 = 0 →
        Q (-2) M8) ∧ (¬ r7 = 0 →
        Con n md_X0_settingOf [vR 1, vI a1, vI a2] M8 (fun r9 M10 =>
          Con n md_X0_change [vR 1, vI a1, vI a2, vI a3] M10 (fun _ M12 =>
          Q r9 M12)))))))) ∧ (¬ a3 ≤ r1 →
    Q (-2) M2)))))
set_option maxHeartbeats 4000000 in
set_option maxRecDepth 20000 in
theorem g_X9_set {n : Nat} {a1 : Int} {a2 : Int} {a3 : Int} {M : Mem} {Q : Int → Mem → Prop}  (h : B_X9_set n a1 a2 a3 M Q) : Con (n + 1) md_X9_set [vR 0, vI a1, vI a2, vI a3] M Q := by
  refine Con.ofF (n := n + 1) (Nat.succ_pos n) pl_X9_set (Nat.le_of_ble_eq_true rfl) (fun X C E hnL => ?_)
  have C : Cx X cX9_set RX9 n := C
  show WM X 0 [(0, vR 0), (1, vI a1), (2, vI a2), (3, vI a3)] [] M
  unfold B_X9_set at h
  refine m_iload_n C 3 dX9_set_0 rfl rfl ?_
  refine m_if_lt C (tgt := 12) dX9_set_1 (by decide) (fun e => ?_) (fun e => ?_)
  · have h := h.1 e
    refine m_bipush C dX9_set_12 (r32_of rfl) (by decide) ?_
    exact m_iret C E (Or.inl rfl) dX9_set_14 h
  · have h := h.2 e
    refine m_iload_n C 3 dX9_set_4 rfl rfl ?_
    refine m_iload_n C 1 dX9_set_5 rfl rfl ?_
    refine m_callSi C (as := [vI a1]) (rest := [vI a3]) ok_X9_mostOf ml_X9_80 rfl rfl (Nat.le_of_ble_eq_true rfl) (fun _ => rfl) dX9_set_6 (Con.mono h (fun r1 M2 _ _ h => ?_))
    refine m_icmp_le C (tgt := 15) dX9_set_9 (by decide) (fun e => ?_) (fun e => ?_)
    · have h := h.1 e
      refine m_iload_n C 1 dX9_set_15 rfl rfl ?_
      refine m_iconst C dX9_set_16 (r32_of rfl) ?_
      refine m_icmp_lt C (tgt := 34) dX9_set_17 (by decide) (fun e => ?_) (fun e => ?_)
      · have h := h.1 e
        refine m_aload_n C 0 dX9_set_34 rfl rfl ?_
        refine m_getR C (k := 0) cl_X9 (by decide) so_0 rfl fl_X9_10 dX9_set_35 ?_
        refine m_iload_n C 1 dX9_set_38 rfl rfl ?_
        refine m_iload_n C 2 dX9_set_39 rfl rfl ?_
        refine m_callVi C (as := [vI a1, vI a2]) (rest := []) ok_X0_settingOf ml_X9_88 so_1 rfl rfl rfl (Nat.le_of_ble_eq_true rfl) (fun _ => rfl) dX9_set_40 (Con.mono h (fun r3 M4 _ _ h => ?_))
        refine m_istore C (L' := [(4, vI r3), (0, vR 0), (1, vI a1), (2, vI a2), (3, vI a3)]) dX9_set_43 (by rw [hnL]; decide) rfl ?_
        refine m_aload_n C 1 dX9_set_45 rfl rfl ?_
        refine m_getR C (k := 0) cl_X9 (by decide) so_0 rfl fl_X9_10 dX9_set_46 ?_
        refine m_iload_n C 2 dX9_set_49 rfl rfl ?_
        refine m_iload_n C 3 dX9_set_50 rfl rfl ?_
        refine m_iload_n C 4 dX9_set_51 rfl rfl ?_
        refine m_callVv C (as := [vI a1, vI a2, vI a3]) (rest := []) ok_X0_change ml_X9_92 so_1 rfl rfl rfl (Nat.le_of_ble_eq_true rfl) (fun _ => rfl) dX9_set_52 (Con.mono h (fun _ M6 _ _ h => ?_))
        refine m_iload C 0 dX9_set_55 rfl ?_
        exact m_iret C E (Or.inl rfl) dX9_set_57 h
      · have h := h.2 e
        refine m_aload_n C 0 dX9_set_20 rfl rfl ?_
        refine m_getR C (k := 0) cl_X9 (by decide) so_0 rfl fl_X9_10 dX9_set_21 ?_
        refine m_iload_n C 2 dX9_set_24 rfl rfl ?_
        refine m_callVi C (as := [vI a2]) (rest := []) ok_X0_hasFlower ml_X9_84 so_1 rfl rfl rfl (Nat.le_of_ble_eq_true rfl) (fun _ => rfl) dX9_set_25 (Con.mono h (fun r7 M8 _ _ h => ?_))
        refine m_if_ne C (tgt := 34) dX9_set_28 (by decide) (fun e => ?_) (fun e => ?_)
        · have h := h.2 e
          refine m_aload_n C 0 dX9_set_34 rfl rfl ?_
          refine m_getR C (k := 0) cl_X9 (by decide) so_0 rfl fl_X9_10 dX9_set_35 ?_
          refine m_iload_n C 1 dX9_set_38 rfl rfl ?_
          refine m_iload_n C 2 dX9_set_39 rfl rfl ?_
          refine m_callVi C (as := [vI a1, vI a2]) (rest := []) ok_X0_settingOf ml_X9_88 so_1 rfl rfl rfl (Nat.le_of_ble_eq_true rfl) (fun _ => rfl) dX9_set_40 (Con.mono h (fun r9 M10 _ _ h => ?_))
          refine m_istore C (L' := [(4, vI r9), (0, vR 0), (1, vI a1), (2, vI a2), (3, vI a3)]) dX9_set_43 (by rw [hnL]; decide) rfl ?_
          refine m_aload_n C 1 dX9_set_45 rfl rfl ?_
          refine m_getR C (k := 0) cl_X9 (by decide) so_0 rfl fl_X9_10 dX9_set_46 ?_
          refine m_iload_n C 2 dX9_set_49 rfl rfl ?_
          refine m_iload_n C 3 dX9_set_50 rfl rfl ?_
          refine m_iload_n C 4 dX9_set_51 rfl rfl ?_
          refine m_callVv C (as := [vI a1, vI a2, vI a3]) (rest := []) ok_X0_change ml_X9_92 so_1 rfl rfl rfl (Nat.le_of_ble_eq_true rfl) (fun _ => rfl) dX9_set_52 (Con.mono h (fun _ M12 _ _ h => ?_))
          refine m_iload C 0 dX9_set_55 rfl ?_
          exact m_iret C E (Or.inl rfl) dX9_set_57 h
        · have h := h.1 e
          refine m_bipush C dX9_set_31 (r32_of rfl) (by decide) ?_
          exact m_iret C E (Or.inl rfl) dX9_set_33 h
    · have h := h.2 e
      refine m_bipush C dX9_set_12 (r32_of rfl) (by decide) ?_
      exact m_iret C E (Or.inl rfl) dX9_set_14 h
def B_X9_mostOf (n : Nat) (a1 : Int) (M : Mem) (Q : Int → Mem → Prop)  : Prop :=
  (((a1 < 0 ∨ 4 < a1) →
  Q (-1) M) ∧ ((a1 = 0) →
  Q 400 M) ∧ ((a1 = 1) →
  Q 15 M) ∧ ((a1 = 2) →
  Q 9 M) ∧ ((a1 = 3) →
  Q 4 M) ∧ ((a1 = 4) →
  Q 40 M))
set_option maxHeartbeats 4000000 in
set_option maxRecDepth 20000 in
theorem g_X9_mostOf {n : Nat} {a1 : Int} {M : Mem} {Q : Int → Mem → Prop}  (h : B_X9_mostOf n a1 M Q) : Con (n + 1) md_X9_mostOf [vI a1] M Q := by
  refine Con.ofF (n := n + 1) (Nat.succ_pos n) pl_X9_mostOf (Nat.le_of_ble_eq_true rfl) (fun X C E hnL => ?_)
  have C : Cx X cX9_mostOf RX9 n := C
  show WM X 0 [(0, vI a1)] [] M
  unfold B_X9_mostOf at h
  refine m_iload_n C 0 dX9_mostOf_0 rfl rfl ?_
  by_cases ho : a1 < 0 ∨ 4 < a1
  · have h := h.1 (by omega)
    refine m_tabO C (tgt := 51) dX9_mostOf_1 ho (by decide) ?_
    refine m_iconst C dX9_mostOf_51 (r32_of rfl) ?_
    exact m_iret C E (Or.inl rfl) dX9_mostOf_52 h
  · obtain hx | hx | hx | hx | hx : a1 = 0 ∨ a1 = 1 ∨ a1 = 2 ∨ a1 = 3 ∨ a1 = 4 := by omega
    · have h := h.2.1 (by omega)
      refine m_tabI C (tgt := 36) dX9_mostOf_1 (by omega) (by omega) (by rw [hx]; rfl) (by decide) ?_
      refine m_sipush C dX9_mostOf_36 (r32_of rfl) (by decide) ?_
      exact m_iret C E (Or.inl rfl) dX9_mostOf_39 h
    · have h := h.2.2.1 (by omega)
      refine m_tabI C (tgt := 40) dX9_mostOf_1 (by omega) (by omega) (by rw [hx]; rfl) (by decide) ?_
      refine m_bipush C dX9_mostOf_40 (r32_of rfl) (by decide) ?_
      exact m_iret C E (Or.inl rfl) dX9_mostOf_42 h
    · have h := h.2.2.2.1 (by omega)
      refine m_tabI C (tgt := 43) dX9_mostOf_1 (by omega) (by omega) (by rw [hx]; rfl) (by decide) ?_
      refine m_bipush C dX9_mostOf_43 (r32_of rfl) (by decide) ?_
      exact m_iret C E (Or.inl rfl) dX9_mostOf_45 h
    · have h := h.2.2.2.2.1 (by omega)
      refine m_tabI C (tgt := 46) dX9_mostOf_1 (by omega) (by omega) (by rw [hx]; rfl) (by decide) ?_
      refine m_iconst C dX9_mostOf_46 (r32_of rfl) ?_
      exact m_iret C E (Or.inl rfl) dX9_mostOf_47 h
    · have h := h.2.2.2.2.2 (by omega)
      refine m_tabI C (tgt := 48) dX9_mostOf_1 (by omega) (by omega) (by rw [hx]; rfl) (by decide) ?_
      refine m_bipush C dX9_mostOf_48 (r32_of rfl) (by decide) ?_
      exact m_iret C E (Or.inl rfl) dX9_mostOf_50 h
def B_X9_flower (n : Nat) (a1 : Int) (a2 : Int) (M : Mem) (Q : Int → Mem → Prop)  : Prop :=
  Con n md_X0_addFlower [vR 1, vI a1, vI a2] M (fun r1 M2 =>
  Q r1 M2)
set_option maxHeartbeats 4000000 in
set_option maxRecDepth 20000 in
theorem g_X9_flower {n : Nat} {a1 : Int} {a2 : Int} {M : Mem} {Q : Int → Mem → Prop}  (h : B_X9_flower n a1 a2 M Q) : Con (n + 1) md_X9_flower [vR 0, vI a1, vI a2] M Q := by
  refine Con.ofF (n := n + 1) (Nat.succ_pos n) pl_X9_flower (Nat.le_of_ble_eq_true rfl) (fun X C E hnL => ?_)
  have C : Cx X cX9_flower RX9 n := C
  show WM X 0 [(0, vR 0), (1, vI a1), (2, vI a2)] [] M
  unfold B_X9_flower at h
  refine m_aload_n C 0 dX9_flower_0 rfl rfl ?_
  refine m_getR C (k := 0) cl_X9 (by decide) so_0 rfl fl_X9_10 dX9_flower_1 ?_
  refine m_iload_n C 1 dX9_flower_4 rfl rfl ?_
  refine m_iload_n C 2 dX9_flower_5 rfl rfl ?_
  refine m_callVi C (as := [vI a1, vI a2]) (rest := []) ok_X0_addFlower ml_X9_96 so_1 rfl rfl rfl (Nat.le_of_ble_eq_true rfl) (fun _ => rfl) dX9_flower_6 (Con.mono h (fun r1 M2 _ _ h => ?_))
  exact m_iret C E (Or.inl rfl) dX9_flower_9 h
def B_X9_told (n : Nat) (a1 : Int) (a2 : Int) (M : Mem) (Q : Int → Mem → Prop)  : Prop :=
  ((a2 = 0 →
  Con n md_X0_settingOf [vR 1, vI a2, vI a1] M (fun r1 M2 =>
    Q r1 M2)) ∧ (¬ a2 = 0 →
  ((a2 = 1 →
    Con n md_X0_settingOf [vR 1, vI a2, vI a1] M (fun r17 M18 =>
      Q r17 M18)) ∧ (¬ a2 = 1 →
    ((a2 < 0 →
      Q (-2) M) ∧ (¬ a2 < 0 →
      ((9 < a2 →
        Q (-2) M) ∧ (¬ 9 < a2 →
        Con n md_X0_hasFlower [vR 1, vI a1] M (fun r3 M4 =>
          ((r3 = 0 →
          Q (-2) M4) ∧ (¬ r3 = 0 →
          Con n md_X2_asNow [vR 36, vR 1, vI a1] M4 (fun _ M6 =>
            (((a2 < 5 ∨ 9 < a2) →
            Con n md_X0_settingOf [vR 1, vI a2, vI a1] M6 (fun r7 M8 =>
              Q r7 M8)) ∧ ((a2 = 5) →
            ((0 ≤ a1 ∧ a1 < 6) ∧ Q (M6 2 (Int.toNat a1)) M6)) ∧ ((a2 = 6) →
            Con n md_X2_thick [vR 36] M6 (fun r9 M10 =>
              Q r9 M10)) ∧ ((a2 = 7) →
            Con n md_X2_turns [vR 36] M6 (fun r11 M12 =>
              Q r11 M12)) ∧ ((a2 = 8) →
            Con n md_X2_costs [vR 36] M6 (fun r13 M14 =>
              Q r13 M14)) ∧ ((a2 = 9) →
            Con n md_X2_lasts [vR 36] M6 (fun r15 M16 =>
              Q r15 M16)))))))))))))))
set_option maxHeartbeats 4000000 in
set_option maxRecDepth 20000 in
theorem g_X9_told {n : Nat} {a1 : Int} {a2 : Int} {M : Mem} {Q : Int → Mem → Prop}  (h : B_X9_told n a1 a2 M Q) : Con (n + 1) md_X9_told [vR 0, vI a1, vI a2] M Q := by
  refine Con.ofF (n := n + 1) (Nat.succ_pos n) pl_X9_told (Nat.le_of_ble_eq_true rfl) (fun X C E hnL => ?_)
  have C : Cx X cX9_told RX9 n := C
  show WM X 0 [(0, vR 0), (1, vI a1), (2, vI a2)] [] M
  unfold B_X9_told at h
  refine m_iload_n C 2 dX9_told_0 rfl rfl ?_
  refine m_if_eq C (tgt := 9) dX9_told_1 (by decide) (fun e => ?_) (fun e => ?_)
  · have h := h.1 e
    refine m_aload_n C 0 dX9_told_9 rfl rfl ?_
    refine m_getR C (k := 0) cl_X9 (by decide) so_0 rfl fl_X9_10 dX9_told_10 ?_
    refine m_iload_n C 2 dX9_told_13 rfl rfl ?_
    refine m_iload_n C 1 dX9_told_14 rfl rfl ?_
    refine m_callVi C (as := [vI a2, vI a1]) (rest := []) ok_X0_settingOf ml_X9_88 so_1 rfl rfl rfl (Nat.le_of_ble_eq_true rfl) (fun _ => rfl) dX9_told_15 (Con.mono h (fun r1 M2 _ _ h => ?_))
    exact m_iret C E (Or.inl rfl) dX9_told_18 h
  · have h := h.2 e
    refine m_iload_n C 2 dX9_told_4 rfl rfl ?_
    refine m_iconst C dX9_told_5 (r32_of rfl) ?_
    refine m_icmp_ne C (tgt := 19) dX9_told_6 (by decide) (fun e => ?_) (fun e => ?_)
    · have h := h.2 e
      refine m_iload_n C 2 dX9_told_19 rfl rfl ?_
      refine m_if_lt C (tgt := 40) dX9_told_20 (by decide) (fun e => ?_) (fun e => ?_)
      · have h := h.1 e
        refine m_bipush C dX9_told_40 (r32_of rfl) (by decide) ?_
        exact m_iret C E (Or.inl rfl) dX9_told_42 h
      · have h := h.2 e
        refine m_iload_n C 2 dX9_told_23 rfl rfl ?_
        refine m_bipush C dX9_told_24 (r32_of rfl) (by decide) ?_
        refine m_icmp_gt C (tgt := 40) dX9_told_26 (by decide) (fun e => ?_) (fun e => ?_)
        · have h := h.1 e
          refine m_bipush C dX9_told_40 (r32_of rfl) (by decide) ?_
          exact m_iret C E (Or.inl rfl) dX9_told_42 h
        · have h := h.2 e
          refine m_aload_n C 0 dX9_told_29 rfl rfl ?_
          refine m_getR C (k := 0) cl_X9 (by decide) so_0 rfl fl_X9_10 dX9_told_30 ?_
          refine m_iload_n C 1 dX9_told_33 rfl rfl ?_
          refine m_callVi C (as := [vI a1]) (rest := []) ok_X0_hasFlower ml_X9_84 so_1 rfl rfl rfl (Nat.le_of_ble_eq_true rfl) (fun _ => rfl) dX9_told_34 (Con.mono h (fun r3 M4 _ _ h => ?_))
          refine m_if_ne C (tgt := 43) dX9_told_37 (by decide) (fun e => ?_) (fun e => ?_)
          · have h := h.2 e
            refine m_aload_n C 0 dX9_told_43 rfl rfl ?_
            refine m_getR C (k := 6) cl_X9 (by decide) so_0 rfl fl_X9_51 dX9_told_44 ?_
            refine m_aload_n C 0 dX9_told_47 rfl rfl ?_
            refine m_getR C (k := 0) cl_X9 (by decide) so_0 rfl fl_X9_10 dX9_told_48 ?_
            refine m_iload_n C 1 dX9_told_51 rfl rfl ?_
            refine m_callVv C (as := [vR 1, vI a1]) (rest := []) ok_X2_asNow ml_X9_99 so_36 rfl rfl rfl (Nat.le_of_ble_eq_true rfl) (fun _ => rfl) dX9_told_52 (Con.mono h (fun _ M6 _ _ h => ?_))
            refine m_iload_n C 2 dX9_told_55 rfl rfl ?_
            by_cases ho : a2 < 5 ∨ 9 < a2
            · have h := h.1 (by omega)
              refine m_tabO C (tgt := 134) dX9_told_56 ho (by decide) ?_
              refine m_aload_n C 0 dX9_told_134 rfl rfl ?_
              refine m_getR C (k := 0) cl_X9 (by decide) so_0 rfl fl_X9_10 dX9_told_135 ?_
              refine m_iload_n C 2 dX9_told_138 rfl rfl ?_
              refine m_iload_n C 1 dX9_told_139 rfl rfl ?_
              refine m_callVi C (as := [vI a2, vI a1]) (rest := []) ok_X0_settingOf ml_X9_88 so_1 rfl rfl rfl (Nat.le_of_ble_eq_true rfl) (fun _ => rfl) dX9_told_140 (Con.mono h (fun r7 M8 _ _ h => ?_))
              exact m_iret C E (Or.inl rfl) dX9_told_143 h
            · obtain hx | hx | hx | hx | hx : a2 = 5 ∨ a2 = 6 ∨ a2 = 7 ∨ a2 = 8 ∨ a2 = 9 := by omega
              · have h := h.2.1 (by omega)
                refine m_tabI C (tgt := 92) dX9_told_56 (by omega) (by omega) (by rw [hx]; rfl) (by decide) ?_
                refine m_aload_n C 0 dX9_told_92 rfl rfl ?_
                refine m_getR C (k := 0) cl_X9 (by decide) so_0 rfl fl_X9_10 dX9_told_93 ?_
                refine m_getR C (k := 4) cl_X0 (by decide) so_1 rfl fl_X9_103 dX9_told_96 ?_
                refine m_iload_n C 1 dX9_told_99 rfl rfl ?_
                refine m_iald C (N := 6) sa_2 h.1 dX9_told_100 ?_
                have h := h.2
                exact m_iret C E (Or.inl rfl) dX9_told_101 h
              · have h := h.2.2.1 (by omega)
                refine m_tabI C (tgt := 102) dX9_told_56 (by omega) (by omega) (by rw [hx]; rfl) (by decide) ?_
                refine m_aload_n C 0 dX9_told_102 rfl rfl ?_
                refine m_getR C (k := 6) cl_X9 (by decide) so_0 rfl fl_X9_51 dX9_told_103 ?_
                refine m_callVi C (as := []) (rest := []) ok_X2_thick ml_X9_107 so_36 rfl rfl rfl (Nat.le_of_ble_eq_true rfl) (fun _ => rfl) dX9_told_106 (Con.mono h (fun r9 M10 _ _ h => ?_))
                exact m_iret C E (Or.inl rfl) dX9_told_109 h
              · have h := h.2.2.2.1 (by omega)
                refine m_tabI C (tgt := 110) dX9_told_56 (by omega) (by omega) (by rw [hx]; rfl) (by decide) ?_
                refine m_aload_n C 0 dX9_told_110 rfl rfl ?_
                refine m_getR C (k := 6) cl_X9 (by decide) so_0 rfl fl_X9_51 dX9_told_111 ?_
                refine m_callVi C (as := []) (rest := []) ok_X2_turns ml_X9_111 so_36 rfl rfl rfl (Nat.le_of_ble_eq_true rfl) (fun _ => rfl) dX9_told_114 (Con.mono h (fun r11 M12 _ _ h => ?_))
                exact m_iret C E (Or.inl rfl) dX9_told_117 h
              · have h := h.2.2.2.2.1 (by omega)
                refine m_tabI C (tgt := 118) dX9_told_56 (by omega) (by omega) (by rw [hx]; rfl) (by decide) ?_
                refine m_aload_n C 0 dX9_told_118 rfl rfl ?_
                refine m_getR C (k := 6) cl_X9 (by decide) so_0 rfl fl_X9_51 dX9_told_119 ?_
                refine m_callVi C (as := []) (rest := []) ok_X2_costs ml_X9_114 so_36 rfl rfl rfl (Nat.le_of_ble_eq_true rfl) (fun _ => rfl) dX9_told_122 (Con.mono h (fun r13 M14 _ _ h => ?_))
                exact m_iret C E (Or.inl rfl) dX9_told_125 h
              · have h := h.2.2.2.2.2 (by omega)
                refine m_tabI C (tgt := 126) dX9_told_56 (by omega) (by omega) (by rw [hx]; rfl) (by decide) ?_
                refine m_aload_n C 0 dX9_told_126 rfl rfl ?_
                refine m_getR C (k := 6) cl_X9 (by decide) so_0 rfl fl_X9_51 dX9_told_127 ?_
                refine m_callVi C (as := []) (rest := []) ok_X2_lasts ml_X9_117 so_36 rfl rfl rfl (Nat.le_of_ble_eq_true rfl) (fun _ => rfl) dX9_told_130 (Con.mono h (fun r15 M16 _ _ h => ?_))
                exact m_iret C E (Or.inl rfl) dX9_told_133 h
          · have h := h.1 e
            refine m_bipush C dX9_told_40 (r32_of rfl) (by decide) ?_
            exact m_iret C E (Or.inl rfl) dX9_told_42 h
    · have h := h.1 e
      refine m_aload_n C 0 dX9_told_9 rfl rfl ?_
      refine m_getR C (k := 0) cl_X9 (by decide) so_0 rfl fl_X9_10 dX9_told_10 ?_
      refine m_iload_n C 2 dX9_told_13 rfl rfl ?_
      refine m_iload_n C 1 dX9_told_14 rfl rfl ?_
      refine m_callVi C (as := [vI a2, vI a1]) (rest := []) ok_X0_settingOf ml_X9_88 so_1 rfl rfl rfl (Nat.le_of_ble_eq_true rfl) (fun _ => rfl) dX9_told_15 (Con.mono h (fun r17 M18 _ _ h => ?_))
      exact m_iret C E (Or.inl rfl) dX9_told_18 h
def B_X9_feed (n : Nat) (a1 : Int) (M : Mem) (Q : Int → Mem → Prop)  : Prop :=
  ((a1 < 0 →
  Q (-2) M) ∧ (¬ a1 < 0 →
  ((a1 ≤ 255 →
    Con n md_X6_add [vR 15, vI a1] M (fun r1 M2 =>
      ((r1 = 0 →
      Q (-4) M2) ∧ (¬ r1 = 0 →
      Q (M2 15 1) M2)))) ∧ (¬ a1 ≤ 255 →
    Q (-2) M))))
set_option maxHeartbeats 4000000 in
set_option maxRecDepth 20000 in
theorem g_X9_feed {n : Nat} {a1 : Int} {M : Mem} {Q : Int → Mem → Prop}  (h : B_X9_feed n a1 M Q) : Con (n + 1) md_X9_feed [vR 0, vI a1] M Q := by
  refine Con.ofF (n := n + 1) (Nat.succ_pos n) pl_X9_feed (Nat.le_of_ble_eq_true rfl) (fun X C E hnL => ?_)
  have C : Cx X cX9_feed RX9 n := C
  show WM X 0 [(0, vR 0), (1, vI a1)] [] M
  unfold B_X9_feed at h
  refine m_iload_n C 1 dX9_feed_0 rfl rfl ?_
  refine m_if_lt C (tgt := 11) dX9_feed_1 (by decide) (fun e => ?_) (fun e => ?_)
  · have h := h.1 e
    refine m_bipush C dX9_feed_11 (r32_of rfl) (by decide) ?_
    exact m_iret C E (Or.inl rfl) dX9_feed_13 h
  · have h := h.2 e
    refine m_iload_n C 1 dX9_feed_4 rfl rfl ?_
    refine m_sipush C dX9_feed_5 (r32_of rfl) (by decide) ?_
    refine m_icmp_le C (tgt := 14) dX9_feed_8 (by decide) (fun e => ?_) (fun e => ?_)
    · have h := h.1 e
      refine m_aload_n C 0 dX9_feed_14 rfl rfl ?_
      refine m_getR C (k := 3) cl_X9 (by decide) so_0 rfl fl_X9_26 dX9_feed_15 ?_
      refine m_iload_n C 1 dX9_feed_18 rfl rfl ?_
      refine m_callVi C (as := [vI a1]) (rest := []) ok_X6_add ml_X9_120 so_15 rfl rfl rfl (Nat.le_of_ble_eq_true rfl) (fun _ => rfl) dX9_feed_19 (Con.mono h (fun r1 M2 _ _ h => ?_))
      refine m_if_eq C (tgt := 35) dX9_feed_22 (by decide) (fun e => ?_) (fun e => ?_)
      · have h := h.1 e
        refine m_bipush C dX9_feed_35 (r32_of rfl) (by decide) ?_
        exact m_iret C E (Or.inl rfl) dX9_feed_37 h
      · have h := h.2 e
        refine m_aload_n C 0 dX9_feed_25 rfl rfl ?_
        refine m_getR C (k := 3) cl_X9 (by decide) so_0 rfl fl_X9_26 dX9_feed_26 ?_
        refine m_getI C (k := 1) cl_X6 (by decide) so_15 rfl fl_X9_123 dX9_feed_29 ?_
        refine m_goto C (tgt := 37) dX9_feed_32 (by decide) ?_
        exact m_iret C E (Or.inl rfl) dX9_feed_37 h
    · have h := h.2 e
      refine m_bipush C dX9_feed_11 (r32_of rfl) (by decide) ?_
      exact m_iret C E (Or.inl rfl) dX9_feed_13 h
def B_X9_text (n : Nat)  (M : Mem) (Q : Int → Mem → Prop)  : Prop :=
  Con n md_X7_isFull [vR 17] M (fun r1 M2 =>
  ((r1 = 0 →
  Con n md_X4_readTape [vR 33] M2 (fun r3 M4 =>
    Con n md_X6_clear [vR 15] M4 (fun _ M6 =>
    ((r3 = (-1) →
    Con n md_X7_add [vR 17, vR 33] M6 (fun r7 M8 =>
      Q r7 M8)) ∧ (¬ r3 = (-1) →
    Q (w32 ((-100) - r3)) M6))))) ∧ (¬ r1 = 0 →
  Q (-4) M2)))
set_option maxHeartbeats 4000000 in
set_option maxRecDepth 20000 in
theorem g_X9_text {n : Nat}  {M : Mem} {Q : Int → Mem → Prop}  (h : B_X9_text n  M Q) : Con (n + 1) md_X9_text [vR 0] M Q := by
  refine Con.ofF (n := n + 1) (Nat.succ_pos n) pl_X9_text (Nat.le_of_ble_eq_true rfl) (fun X C E hnL => ?_)
  have C : Cx X cX9_text RX9 n := C
  show WM X 0 [(0, vR 0)] [] M
  unfold B_X9_text at h
  refine m_aload_n C 0 dX9_text_0 rfl rfl ?_
  refine m_getR C (k := 4) cl_X9 (by decide) so_0 rfl fl_X9_33 dX9_text_1 ?_
  refine m_callVi C (as := []) (rest := []) ok_X7_isFull ml_X9_127 so_17 rfl rfl rfl (Nat.le_of_ble_eq_true rfl) (fun _ => rfl) dX9_text_4 (Con.mono h (fun r1 M2 _ _ h => ?_))
  refine m_if_eq C (tgt := 13) dX9_text_7 (by decide) (fun e => ?_) (fun e => ?_)
  · have h := h.1 e
    refine m_aload_n C 0 dX9_text_13 rfl rfl ?_
    refine m_getR C (k := 5) cl_X9 (by decide) so_0 rfl fl_X9_42 dX9_text_14 ?_
    refine m_callVi C (as := []) (rest := []) ok_X4_readTape ml_X9_131 so_33 rfl rfl rfl (Nat.le_of_ble_eq_true rfl) (fun _ => rfl) dX9_text_17 (Con.mono h (fun r3 M4 _ _ h => ?_))
    refine m_istore_n C (L' := [(1, vI r3), (0, vR 0)]) dX9_text_20 rfl (by rw [hnL]; decide) rfl ?_
    refine m_aload_n C 1 dX9_text_21 rfl rfl ?_
    refine m_getR C (k := 3) cl_X9 (by decide) so_0 rfl fl_X9_26 dX9_text_22 ?_
    refine m_callVv C (as := []) (rest := []) ok_X6_clear ml_X9_134 so_15 rfl rfl rfl (Nat.le_of_ble_eq_true rfl) (fun _ => rfl) dX9_text_25 (Con.mono h (fun _ M6 _ _ h => ?_))
    refine m_iload_n C 0 dX9_text_28 rfl rfl ?_
    refine m_iconst C dX9_text_29 (r32_of rfl) ?_
    refine m_icmp_ne C (tgt := 47) dX9_text_30 (by decide) (fun e => ?_) (fun e => ?_)
    · have h := h.2 e
      refine m_bipush C dX9_text_47 (r32_of rfl) (by decide) ?_
      refine m_iload_n C 0 dX9_text_49 rfl rfl ?_
      refine m_isub C dX9_text_50 ?_
      exact m_iret C E (Or.inl rfl) dX9_text_51 h
    · have h := h.1 e
      refine m_aload_n C 1 dX9_text_33 rfl rfl ?_
      refine m_getR C (k := 4) cl_X9 (by decide) so_0 rfl fl_X9_33 dX9_text_34 ?_
      refine m_aload_n C 1 dX9_text_37 rfl rfl ?_
      refine m_getR C (k := 5) cl_X9 (by decide) so_0 rfl fl_X9_42 dX9_text_38 ?_
      refine m_callVi C (as := [vR 33]) (rest := []) ok_X7_add ml_X9_137 so_17 rfl rfl rfl (Nat.le_of_ble_eq_true rfl) (fun _ => rfl) dX9_text_41 (Con.mono h (fun r7 M8 _ _ h => ?_))
      refine m_goto C (tgt := 51) dX9_text_44 (by decide) ?_
      exact m_iret C E (Or.inl rfl) dX9_text_51 h
  · have h := h.2 e
    refine m_bipush C dX9_text_10 (r32_of rfl) (by decide) ?_
    exact m_iret C E (Or.inl rfl) dX9_text_12 h
def B_X9_force (n : Nat) (a1 : Int) (M : Mem) (Q : Int → Mem → Prop)  : Prop :=
  Con n md_X7_has [vR 17, vI a1] M (fun r1 M2 =>
  ((r1 = 0 →
  Q (-2) M2) ∧ (¬ r1 = 0 →
  (∀ M3 : Mem, M3 = up M2 1 2 a1 →
    Q (M2 1 2) M3))))
set_option maxHeartbeats 4000000 in
set_option maxRecDepth 20000 in
theorem g_X9_force {n : Nat} {a1 : Int} {M : Mem} {Q : Int → Mem → Prop}  (h : B_X9_force n a1 M Q) : Con (n + 1) md_X9_force [vR 0, vI a1] M Q := by
  refine Con.ofF (n := n + 1) (Nat.succ_pos n) pl_X9_force (Nat.le_of_ble_eq_true rfl) (fun X C E hnL => ?_)
  have C : Cx X cX9_force RX9 n := C
  show WM X 0 [(0, vR 0), (1, vI a1)] [] M
  unfold B_X9_force at h
  refine m_aload_n C 0 dX9_force_0 rfl rfl ?_
  refine m_getR C (k := 4) cl_X9 (by decide) so_0 rfl fl_X9_33 dX9_force_1 ?_
  refine m_iload_n C 1 dX9_force_4 rfl rfl ?_
  refine m_callVi C (as := [vI a1]) (rest := []) ok_X7_has ml_X9_140 so_17 rfl rfl rfl (Nat.le_of_ble_eq_true rfl) (fun _ => rfl) dX9_force_5 (Con.mono h (fun r1 M2 _ _ h => ?_))
  refine m_if_ne C (tgt := 14) dX9_force_8 (by decide) (fun e => ?_) (fun e => ?_)
  · have h := h.2 e
    refine m_aload_n C 0 dX9_force_14 rfl rfl ?_
    refine m_getR C (k := 0) cl_X9 (by decide) so_0 rfl fl_X9_10 dX9_force_15 ?_
    refine m_getI C (k := 2) cl_X0 (by decide) so_1 rfl fl_X9_143 dX9_force_18 ?_
    refine m_istore_n C (L' := [(2, vI (M2 1 2)), (0, vR 0), (1, vI a1)]) dX9_force_21 rfl (by rw [hnL]; decide) rfl ?_
    refine m_aload_n C 1 dX9_force_22 rfl rfl ?_
    refine m_getR C (k := 0) cl_X9 (by decide) so_0 rfl fl_X9_10 dX9_force_23 ?_
    refine m_iload_n C 2 dX9_force_26 rfl rfl ?_
    refine m_putI C (k := 2) cl_X0 (by decide) so_1 rfl rfl rfl fl_X9_143 dX9_force_27 ?_
    generalize eM3 : up M2 1 2 a1 = M3
    have h := h M3 eM3.symm
    refine m_iload_n C 0 dX9_force_30 rfl rfl ?_
    exact m_iret C E (Or.inl rfl) dX9_force_31 h
  · have h := h.1 e
    refine m_bipush C dX9_force_11 (r32_of rfl) (by decide) ?_
    exact m_iret C E (Or.inl rfl) dX9_force_13 h
def B_X9_lay (n : Nat) (a1 : Int) (M : Mem) (Q : Int → Mem → Prop)  : Prop :=
  Con n md_X0_hasFlower [vR 1, vI a1] M (fun r1 M2 =>
  ((r1 = 0 →
  Q (-2) M2) ∧ (¬ r1 = 0 →
  ((0 ≤ a1 ∧ a1 < 6) ∧ ((1 ≤ (M2 5 (Int.toNat a1)) →
    Con n md_X8_start [vR 38] M2 (fun _ M4 =>
      Con n md_X8_canBe [vR 38, vI a1] M4 (fun r5 M6 =>
      ((r5 = 0 →
      Q (-4) M6) ∧ (¬ r5 = 0 →
      Con n md_X8_angleOf [vR 38, vI a1] M6 (fun r7 M8 =>
        Con n md_X0_addStem [vR 1, vI a1, vI r7] M8 (fun _ M10 =>
        Q r7 M10))))))) ∧ (¬ 1 ≤ (M2 5 (Int.toNat a1)) →
    Q (-3) M2))))))
set_option maxHeartbeats 4000000 in
set_option maxRecDepth 20000 in
theorem g_X9_lay {n : Nat} {a1 : Int} {M : Mem} {Q : Int → Mem → Prop}  (h : B_X9_lay n a1 M Q) : Con (n + 1) md_X9_lay [vR 0, vI a1] M Q := by
  refine Con.ofF (n := n + 1) (Nat.succ_pos n) pl_X9_lay (Nat.le_of_ble_eq_true rfl) (fun X C E hnL => ?_)
  have C : Cx X cX9_lay RX9 n := C
  show WM X 0 [(0, vR 0), (1, vI a1)] [] M
  unfold B_X9_lay at h
  refine m_aload_n C 0 dX9_lay_0 rfl rfl ?_
  refine m_getR C (k := 0) cl_X9 (by decide) so_0 rfl fl_X9_10 dX9_lay_1 ?_
  refine m_iload_n C 1 dX9_lay_4 rfl rfl ?_
  refine m_callVi C (as := [vI a1]) (rest := []) ok_X0_hasFlower ml_X9_84 so_1 rfl rfl rfl (Nat.le_of_ble_eq_true rfl) (fun _ => rfl) dX9_lay_5 (Con.mono h (fun r1 M2 _ _ h => ?_))
  refine m_if_ne C (tgt := 14) dX9_lay_8 (by decide) (fun e => ?_) (fun e => ?_)
  · have h := h.2 e
    refine m_aload_n C 0 dX9_lay_14 rfl rfl ?_
    refine m_getR C (k := 0) cl_X9 (by decide) so_0 rfl fl_X9_10 dX9_lay_15 ?_
    refine m_getR C (k := 7) cl_X0 (by decide) so_1 rfl fl_X9_146 dX9_lay_18 ?_
    refine m_iload_n C 1 dX9_lay_21 rfl rfl ?_
    refine m_iald C (N := 6) sa_5 h.1 dX9_lay_22 ?_
    have h := h.2
    refine m_iconst C dX9_lay_23 (r32_of rfl) ?_
    refine m_icmp_ge C (tgt := 30) dX9_lay_24 (by decide) (fun e => ?_) (fun e => ?_)
    · have h := h.1 e
      refine m_aload_n C 0 dX9_lay_30 rfl rfl ?_
      refine m_getR C (k := 7) cl_X9 (by decide) so_0 rfl fl_X9_60 dX9_lay_31 ?_
      refine m_callVv C (as := []) (rest := []) ok_X8_start ml_X9_149 so_38 rfl rfl rfl (Nat.le_of_ble_eq_true rfl) (fun _ => rfl) dX9_lay_34 (Con.mono h (fun _ M4 _ _ h => ?_))
      refine m_aload_n C 0 dX9_lay_37 rfl rfl ?_
      refine m_getR C (k := 7) cl_X9 (by decide) so_0 rfl fl_X9_60 dX9_lay_38 ?_
      refine m_iload_n C 1 dX9_lay_41 rfl rfl ?_
      refine m_callVi C (as := [vI a1]) (rest := []) ok_X8_canBe ml_X9_152 so_38 rfl rfl rfl (Nat.le_of_ble_eq_true rfl) (fun _ => rfl) dX9_lay_42 (Con.mono h (fun r5 M6 _ _ h => ?_))
      refine m_if_ne C (tgt := 51) dX9_lay_45 (by decide) (fun e => ?_) (fun e => ?_)
      · have h := h.2 e
        refine m_aload_n C 0 dX9_lay_51 rfl rfl ?_
        refine m_getR C (k := 7) cl_X9 (by decide) so_0 rfl fl_X9_60 dX9_lay_52 ?_
        refine m_iload_n C 1 dX9_lay_55 rfl rfl ?_
        refine m_callVi C (as := [vI a1]) (rest := []) ok_X8_angleOf ml_X9_155 so_38 rfl rfl rfl (Nat.le_of_ble_eq_true rfl) (fun _ => rfl) dX9_lay_56 (Con.mono h (fun r7 M8 _ _ h => ?_))
        refine m_istore_n C (L' := [(2, vI r7), (0, vR 0), (1, vI a1)]) dX9_lay_59 rfl (by rw [hnL]; decide) rfl ?_
        refine m_aload_n C 1 dX9_lay_60 rfl rfl ?_
        refine m_getR C (k := 0) cl_X9 (by decide) so_0 rfl fl_X9_10 dX9_lay_61 ?_
        refine m_iload_n C 2 dX9_lay_64 rfl rfl ?_
        refine m_iload_n C 0 dX9_lay_65 rfl rfl ?_
        refine m_callVv C (as := [vI a1, vI r7]) (rest := []) ok_X0_addStem ml_X9_158 so_1 rfl rfl rfl (Nat.le_of_ble_eq_true rfl) (fun _ => rfl) dX9_lay_66 (Con.mono h (fun _ M10 _ _ h => ?_))
        refine m_iload_n C 0 dX9_lay_69 rfl rfl ?_
        exact m_iret C E (Or.inl rfl) dX9_lay_70 h
      · have h := h.1 e
        refine m_bipush C dX9_lay_48 (r32_of rfl) (by decide) ?_
        exact m_iret C E (Or.inl rfl) dX9_lay_50 h
    · have h := h.2 e
      refine m_bipush C dX9_lay_27 (r32_of rfl) (by decide) ?_
      exact m_iret C E (Or.inl rfl) dX9_lay_29 h
  · have h := h.1 e
    refine m_bipush C dX9_lay_11 (r32_of rfl) (by decide) ?_
    exact m_iret C E (Or.inl rfl) dX9_lay_13 h
def B_X9_draw (n : Nat) (a1 : Int) (M : Mem) (Q : Int → Mem → Prop)  : Prop :=
  Con n md_X0_hasStem [vR 1, vI a1] M (fun r1 M2 =>
  ((r1 = 0 →
  Q (-2) M2) ∧ (¬ r1 = 0 →
  Con n md_X0_removeStem [vR 1, vI a1] M2 (fun r3 M4 =>
    Q r3 M4))))
set_option maxHeartbeats 4000000 in
set_option maxRecDepth 20000 in
theorem g_X9_draw {n : Nat} {a1 : Int} {M : Mem} {Q : Int → Mem → Prop}  (h : B_X9_draw n a1 M Q) : Con (n + 1) md_X9_draw [vR 0, vI a1] M Q := by
  refine Con.ofF (n := n + 1) (Nat.succ_pos n) pl_X9_draw (Nat.le_of_ble_eq_true rfl) (fun X C E hnL => ?_)
  have C : Cx X cX9_draw RX9 n := C
  show WM X 0 [(0, vR 0), (1, vI a1)] [] M
  unfold B_X9_draw at h
  refine m_aload_n C 0 dX9_draw_0 rfl rfl ?_
  refine m_getR C (k := 0) cl_X9 (by decide) so_0 rfl fl_X9_10 dX9_draw_1 ?_
  refine m_iload_n C 1 dX9_draw_4 rfl rfl ?_
  refine m_callVi C (as := [vI a1]) (rest := []) ok_X0_hasStem ml_X9_162 so_1 rfl rfl rfl (Nat.le_of_ble_eq_true rfl) (fun _ => rfl) dX9_draw_5 (Con.mono h (fun r1 M2 _ _ h => ?_))
  refine m_if_eq C (tgt := 22) dX9_draw_8 (by decide) (fun e => ?_) (fun e => ?_)
  · have h := h.1 e
    refine m_bipush C dX9_draw_22 (r32_of rfl) (by decide) ?_
    exact m_iret C E (Or.inl rfl) dX9_draw_24 h
  · have h := h.2 e
    refine m_aload_n C 0 dX9_draw_11 rfl rfl ?_
    refine m_getR C (k := 0) cl_X9 (by decide) so_0 rfl fl_X9_10 dX9_draw_12 ?_
    refine m_iload_n C 1 dX9_draw_15 rfl rfl ?_
    refine m_callVi C (as := [vI a1]) (rest := []) ok_X0_removeStem ml_X9_165 so_1 rfl rfl rfl (Nat.le_of_ble_eq_true rfl) (fun _ => rfl) dX9_draw_16 (Con.mono h (fun r3 M4 _ _ h => ?_))
    refine m_goto C (tgt := 24) dX9_draw_19 (by decide) ?_
    exact m_iret C E (Or.inl rfl) dX9_draw_24 h
def B_X9_stem (n : Nat) (a1 : Int) (a2 : Int) (M : Mem) (Q : Int → Mem → Prop)  : Prop :=
  Con n md_X0_hasStem [vR 1, vI a1] M (fun r1 M2 =>
  ((r1 = 0 →
  Q (-2) M2) ∧ (¬ r1 = 0 →
  ((a2 < 0 →
    Q (-2) M2) ∧ (¬ a2 < 0 →
    ((a2 ≤ 1 →
      ((a2 = 0 →
        ((0 ≤ a1 ∧ a1 < 40) ∧ Q (M2 6 (Int.toNat a1)) M2)) ∧ (¬ a2 = 0 →
        ((0 ≤ a1 ∧ a1 < 40) ∧ Q (M2 7 (Int.toNat a1)) M2)))) ∧ (¬ a2 ≤ 1 →
      Q (-2) M2)))))))
set_option maxHeartbeats 4000000 in
set_option maxRecDepth 20000 in
theorem g_X9_stem {n : Nat} {a1 : Int} {a2 : Int} {M : Mem} {Q : Int → Mem → Prop}  (h : B_X9_stem n a1 a2 M Q) : Con (n + 1) md_X9_stem [vR 0, vI a1, vI a2] M Q := by
  refine Con.ofF (n := n + 1) (Nat.succ_pos n) pl_X9_stem (Nat.le_of_ble_eq_true rfl) (fun X C E hnL => ?_)
  have C : Cx X cX9_stem RX9 n := C
  show WM X 0 [(0, vR 0), (1, vI a1), (2, vI a2)] [] M
  unfold B_X9_stem at h
  refine m_aload_n C 0 dX9_stem_0 rfl rfl ?_
  refine m_getR C (k := 0) cl_X9 (by decide) so_0 rfl fl_X9_10 dX9_stem_1 ?_
  refine m_iload_n C 1 dX9_stem_4 rfl rfl ?_
  refine m_callVi C (as := [vI a1]) (rest := []) ok_X0_hasStem ml_X9_162 so_1 rfl rfl rfl (Nat.le_of_ble_eq_true rfl) (fun _ => rfl) dX9_stem_5 (Con.mono h (fun r1 M2 _ _ h => ?_))
  refine m_if_eq C (tgt := 20) dX9_stem_8 (by decide) (fun e => ?_) (fun e => ?_)
  · have h := h.1 e
    refine m_bipush C dX9_stem_20 (r32_of rfl) (by decide) ?_
    exact m_iret C E (Or.inl rfl) dX9_stem_22 h
  · have h := h.2 e
    refine m_iload_n C 2 dX9_stem_11 rfl rfl ?_
    refine m_if_lt C (tgt := 20) dX9_stem_12 (by decide) (fun e => ?_) (fun e => ?_)
    · have h := h.1 e
      refine m_bipush C dX9_stem_20 (r32_of rfl) (by decide) ?_
      exact m_iret C E (Or.inl rfl) dX9_stem_22 h
    · have h := h.2 e
      refine m_iload_n C 2 dX9_stem_15 rfl rfl ?_
      refine m_iconst C dX9_stem_16 (r32_of rfl) ?_
      refine m_icmp_le C (tgt := 23) dX9_stem_17 (by decide) (fun e => ?_) (fun e => ?_)
      · have h := h.1 e
        refine m_iload_n C 2 dX9_stem_23 rfl rfl ?_
        refine m_if_ne C (tgt := 39) dX9_stem_24 (by decide) (fun e => ?_) (fun e => ?_)
        · have h := h.2 e
          refine m_aload_n C 0 dX9_stem_39 rfl rfl ?_
          refine m_getR C (k := 0) cl_X9 (by decide) so_0 rfl fl_X9_10 dX9_stem_40 ?_
          refine m_getR C (k := 10) cl_X0 (by decide) so_1 rfl fl_X9_171 dX9_stem_43 ?_
          refine m_iload_n C 1 dX9_stem_46 rfl rfl ?_
          refine m_iald C (N := 40) sa_7 h.1 dX9_stem_47 ?_
          have h := h.2
          exact m_iret C E (Or.inl rfl) dX9_stem_48 h
        · have h := h.1 e
          refine m_aload_n C 0 dX9_stem_27 rfl rfl ?_
          refine m_getR C (k := 0) cl_X9 (by decide) so_0 rfl fl_X9_10 dX9_stem_28 ?_
          refine m_getR C (k := 9) cl_X0 (by decide) so_1 rfl fl_X9_168 dX9_stem_31 ?_
          refine m_iload_n C 1 dX9_stem_34 rfl rfl ?_
          refine m_iald C (N := 40) sa_6 h.1 dX9_stem_35 ?_
          have h := h.2
          refine m_goto C (tgt := 48) dX9_stem_36 (by decide) ?_
          exact m_iret C E (Or.inl rfl) dX9_stem_48 h
      · have h := h.2 e
        refine m_bipush C dX9_stem_20 (r32_of rfl) (by decide) ?_
        exact m_iret C E (Or.inl rfl) dX9_stem_22 h
def B_X9_bunch (n : Nat) (a1 : Int) (M : Mem) (Q : Int → Mem → Prop)  : Prop :=
  ((a1 < 4 →
  ((a1 < 10 →
    (((a1 < 0 ∨ 3 < a1) →
      Q (-100000) M) ∧ ((a1 = 0) →
      Con n md_X9_touchingNow [vR 0] M (fun r1 M2 =>
        Q r1 M2)) ∧ ((a1 = 1) →
      Con n md_X9_unevenness [vR 0] M (fun r3 M4 =>
        Q r3 M4)) ∧ ((a1 = 2) →
      Con n md_X9_costOfAll [vR 0] M (fun r5 M6 =>
        Q r5 M6)) ∧ ((a1 = 3) →
      Con n md_X0_roomLeft [vR 1] M (fun r7 M8 =>
        Q r7 M8)))) ∧ (¬ a1 < 10 →
    ((15 ≤ a1 →
      (((a1 < 0 ∨ 3 < a1) →
        Q (-100000) M) ∧ ((a1 = 0) →
        Con n md_X9_touchingNow [vR 0] M (fun r9 M10 =>
          Q r9 M10)) ∧ ((a1 = 1) →
        Con n md_X9_unevenness [vR 0] M (fun r11 M12 =>
          Q r11 M12)) ∧ ((a1 = 2) →
        Con n md_X9_costOfAll [vR 0] M (fun r13 M14 =>
          Q r13 M14)) ∧ ((a1 = 3) →
        Con n md_X0_roomLeft [vR 1] M (fun r15 M16 =>
          Q r15 M16)))) ∧ (¬ 15 ≤ a1 →
      Con n md_X0_stemsOfColour [vR 1, vI (w32 (a1 - 10))] M (fun r17 M18 =>
        Q r17 M18)))))) ∧ (¬ a1 < 4 →
  ((8 ≤ a1 →
    ((a1 < 10 →
      (((a1 < 0 ∨ 3 < a1) →
        Q (-100000) M) ∧ ((a1 = 0) →
        Con n md_X9_touchingNow [vR 0] M (fun r19 M20 =>
          Q r19 M20)) ∧ ((a1 = 1) →
        Con n md_X9_unevenness [vR 0] M (fun r21 M22 =>
          Q r21 M22)) ∧ ((a1 = 2) →
        Con n md_X9_costOfAll [vR 0] M (fun r23 M24 =>
          Q r23 M24)) ∧ ((a1 = 3) →
        Con n md_X0_roomLeft [vR 1] M (fun r25 M26 =>
          Q r25 M26)))) ∧ (¬ a1 < 10 →
      ((15 ≤ a1 →
        (((a1 < 0 ∨ 3 < a1) →
          Q (-100000) M) ∧ ((a1 = 0) →
          Con n md_X9_touchingNow [vR 0] M (fun r27 M28 =>
            Q r27 M28)) ∧ ((a1 = 1) →
          Con n md_X9_unevenness [vR 0] M (fun r29 M30 =>
            Q r29 M30)) ∧ ((a1 = 2) →
          Con n md_X9_costOfAll [vR 0] M (fun r31 M32 =>
            Q r31 M32)) ∧ ((a1 = 3) →
          Con n md_X0_roomLeft [vR 1] M (fun r33 M34 =>
            Q r33 M34)))) ∧ (¬ 15 ≤ a1 →
        Con n md_X0_stemsOfColour [vR 1, vI (w32 (a1 - 10))] M (fun r35 M36 =>
          Q r35 M36)))))) ∧ (¬ 8 ≤ a1 →
    Con n md_X0_stemsInQuarter [vR 1, vI (w32 (a1 - 4))] M (fun r37 M38 =>
      Q r37 M38)))))
set_option maxHeartbeats 4000000 in
set_option maxRecDepth 20000 in
theorem g_X9_bunch {n : Nat} {a1 : Int} {M : Mem} {Q : Int → Mem → Prop}  (h : B_X9_bunch n a1 M Q) : Con (n + 1) md_X9_bunch [vR 0, vI a1] M Q := by
  refine Con.ofF (n := n + 1) (Nat.succ_pos n) pl_X9_bunch (Nat.le_of_ble_eq_true rfl) (fun X C E hnL => ?_)
  have C : Cx X cX9_bunch RX9 n := C
  show WM X 0 [(0, vR 0), (1, vI a1)] [] M
  unfold B_X9_bunch at h
  refine m_iload_n C 1 dX9_bunch_0 rfl rfl ?_
  refine m_iconst C dX9_bunch_1 (r32_of rfl) ?_
  refine m_icmp_lt C (tgt := 22) dX9_bunch_2 (by decide) (fun e => ?_) (fun e => ?_)
  · have h := h.1 e
    refine m_iload_n C 1 dX9_bunch_22 rfl rfl ?_
    refine m_bipush C dX9_bunch_23 (r32_of rfl) (by decide) ?_
    refine m_icmp_lt C (tgt := 46) dX9_bunch_25 (by decide) (fun e => ?_) (fun e => ?_)
    · have h := h.1 e
      refine m_iload_n C 1 dX9_bunch_46 rfl rfl ?_
      by_cases ho : a1 < 0 ∨ 3 < a1
      · have h := h.1 (by omega)
        refine m_tabO C (tgt := 99) dX9_bunch_47 ho (by decide) ?_
        refine m_ldc C (v := (-100000)) dX9_bunch_99 kc_X9_192 (r32_of rfl) ?_
        exact m_iret C E (Or.inl rfl) dX9_bunch_101 h
      · obtain hx | hx | hx | hx : a1 = 0 ∨ a1 = 1 ∨ a1 = 2 ∨ a1 = 3 := by omega
        · have h := h.2.1 (by omega)
          refine m_tabI C (tgt := 76) dX9_bunch_47 (by omega) (by omega) (by rw [hx]; rfl) (by decide) ?_
          refine m_aload_n C 0 dX9_bunch_76 rfl rfl ?_
          refine m_callVi C (as := []) (rest := []) ok_X9_touchingNow ml_X9_180 so_0 rfl rfl rfl (Nat.le_of_ble_eq_true rfl) (fun _ => rfl) dX9_bunch_77 (Con.mono h (fun r1 M2 _ _ h => ?_))
          exact m_iret C E (Or.inl rfl) dX9_bunch_80 h
        · have h := h.2.2.1 (by omega)
          refine m_tabI C (tgt := 81) dX9_bunch_47 (by omega) (by omega) (by rw [hx]; rfl) (by decide) ?_
          refine m_aload_n C 0 dX9_bunch_81 rfl rfl ?_
          refine m_callVi C (as := []) (rest := []) ok_X9_unevenness ml_X9_183 so_0 rfl rfl rfl (Nat.le_of_ble_eq_true rfl) (fun _ => rfl) dX9_bunch_82 (Con.mono h (fun r3 M4 _ _ h => ?_))
          exact m_iret C E (Or.inl rfl) dX9_bunch_85 h
        · have h := h.2.2.2.1 (by omega)
          refine m_tabI C (tgt := 86) dX9_bunch_47 (by omega) (by omega) (by rw [hx]; rfl) (by decide) ?_
          refine m_aload_n C 0 dX9_bunch_86 rfl rfl ?_
          refine m_callVi C (as := []) (rest := []) ok_X9_costOfAll ml_X9_186 so_0 rfl rfl rfl (Nat.le_of_ble_eq_true rfl) (fun _ => rfl) dX9_bunch_87 (Con.mono h (fun r5 M6 _ _ h => ?_))
          exact m_iret C E (Or.inl rfl) dX9_bunch_90 h
        · have h := h.2.2.2.2 (by omega)
          refine m_tabI C (tgt := 91) dX9_bunch_47 (by omega) (by omega) (by rw [hx]; rfl) (by decide) ?_
          refine m_aload_n C 0 dX9_bunch_91 rfl rfl ?_
          refine m_getR C (k := 0) cl_X9 (by decide) so_0 rfl fl_X9_10 dX9_bunch_92 ?_
          refine m_callVi C (as := []) (rest := []) ok_X0_roomLeft ml_X9_189 so_1 rfl rfl rfl (Nat.le_of_ble_eq_true rfl) (fun _ => rfl) dX9_bunch_95 (Con.mono h (fun r7 M8 _ _ h => ?_))
          exact m_iret C E (Or.inl rfl) dX9_bunch_98 h
    · have h := h.2 e
      refine m_iload_n C 1 dX9_bunch_28 rfl rfl ?_
      refine m_bipush C dX9_bunch_29 (r32_of rfl) (by decide) ?_
      refine m_icmp_ge C (tgt := 46) dX9_bunch_31 (by decide) (fun e => ?_) (fun e => ?_)
      · have h := h.1 e
        refine m_iload_n C 1 dX9_bunch_46 rfl rfl ?_
        by_cases ho : a1 < 0 ∨ 3 < a1
        · have h := h.1 (by omega)
          refine m_tabO C (tgt := 99) dX9_bunch_47 ho (by decide) ?_
          refine m_ldc C (v := (-100000)) dX9_bunch_99 kc_X9_192 (r32_of rfl) ?_
          exact m_iret C E (Or.inl rfl) dX9_bunch_101 h
        · obtain hx | hx | hx | hx : a1 = 0 ∨ a1 = 1 ∨ a1 = 2 ∨ a1 = 3 := by omega
          · have h := h.2.1 (by omega)
            refine m_tabI C (tgt := 76) dX9_bunch_47 (by omega) (by omega) (by rw [hx]; rfl) (by decide) ?_
            refine m_aload_n C 0 dX9_bunch_76 rfl rfl ?_
            refine m_callVi C (as := []) (rest := []) ok_X9_touchingNow ml_X9_180 so_0 rfl rfl rfl (Nat.le_of_ble_eq_true rfl) (fun _ => rfl) dX9_bunch_77 (Con.mono h (fun r9 M10 _ _ h => ?_))
            exact m_iret C E (Or.inl rfl) dX9_bunch_80 h
          · have h := h.2.2.1 (by omega)
            refine m_tabI C (tgt := 81) dX9_bunch_47 (by omega) (by omega) (by rw [hx]; rfl) (by decide) ?_
            refine m_aload_n C 0 dX9_bunch_81 rfl rfl ?_
            refine m_callVi C (as := []) (rest := []) ok_X9_unevenness ml_X9_183 so_0 rfl rfl rfl (Nat.le_of_ble_eq_true rfl) (fun _ => rfl) dX9_bunch_82 (Con.mono h (fun r11 M12 _ _ h => ?_))
            exact m_iret C E (Or.inl rfl) dX9_bunch_85 h
          · have h := h.2.2.2.1 (by omega)
            refine m_tabI C (tgt := 86) dX9_bunch_47 (by omega) (by omega) (by rw [hx]; rfl) (by decide) ?_
            refine m_aload_n C 0 dX9_bunch_86 rfl rfl ?_
            refine m_callVi C (as := []) (rest := []) ok_X9_costOfAll ml_X9_186 so_0 rfl rfl rfl (Nat.le_of_ble_eq_true rfl) (fun _ => rfl) dX9_bunch_87 (Con.mono h (fun r13 M14 _ _ h => ?_))
            exact m_iret C E (Or.inl rfl) dX9_bunch_90 h
          · have h := h.2.2.2.2 (by omega)
            refine m_tabI C (tgt := 91) dX9_bunch_47 (by omega) (by omega) (by rw [hx]; rfl) (by decide) ?_
            refine m_aload_n C 0 dX9_bunch_91 rfl rfl ?_
            refine m_getR C (k := 0) cl_X9 (by decide) so_0 rfl fl_X9_10 dX9_bunch_92 ?_
            refine m_callVi C (as := []) (rest := []) ok_X0_roomLeft ml_X9_189 so_1 rfl rfl rfl (Nat.le_of_ble_eq_true rfl) (fun _ => rfl) dX9_bunch_95 (Con.mono h (fun r15 M16 _ _ h => ?_))
            exact m_iret C E (Or.inl rfl) dX9_bunch_98 h
      · have h := h.2 e
        refine m_aload_n C 0 dX9_bunch_34 rfl rfl ?_
        refine m_getR C (k := 0) cl_X9 (by decide) so_0 rfl fl_X9_10 dX9_bunch_35 ?_
        refine m_iload_n C 1 dX9_bunch_38 rfl rfl ?_
        refine m_bipush C dX9_bunch_39 (r32_of rfl) (by decide) ?_
        refine m_isub C dX9_bunch_41 ?_
        refine m_callVi C (as := [vI (w32 (a1 - 10))]) (rest := []) ok_X0_stemsOfColour ml_X9_177 so_1 rfl rfl rfl (Nat.le_of_ble_eq_true rfl) (fun _ => rfl) dX9_bunch_42 (Con.mono h (fun r17 M18 _ _ h => ?_))
        exact m_iret C E (Or.inl rfl) dX9_bunch_45 h
  · have h := h.2 e
    refine m_iload_n C 1 dX9_bunch_5 rfl rfl ?_
    refine m_bipush C dX9_bunch_6 (r32_of rfl) (by decide) ?_
    refine m_icmp_ge C (tgt := 22) dX9_bunch_8 (by decide) (fun e => ?_) (fun e => ?_)
    · have h := h.1 e
      refine m_iload_n C 1 dX9_bunch_22 rfl rfl ?_
      refine m_bipush C dX9_bunch_23 (r32_of rfl) (by decide) ?_
      refine m_icmp_lt C (tgt := 46) dX9_bunch_25 (by decide) (fun e => ?_) (fun e => ?_)
      · have h := h.1 e
        refine m_iload_n C 1 dX9_bunch_46 rfl rfl ?_
        by_cases ho : a1 < 0 ∨ 3 < a1
        · have h := h.1 (by omega)
          refine m_tabO C (tgt := 99) dX9_bunch_47 ho (by decide) ?_
          refine m_ldc C (v := (-100000)) dX9_bunch_99 kc_X9_192 (r32_of rfl) ?_
          exact m_iret C E (Or.inl rfl) dX9_bunch_101 h
        · obtain hx | hx | hx | hx : a1 = 0 ∨ a1 = 1 ∨ a1 = 2 ∨ a1 = 3 := by omega
          · have h := h.2.1 (by omega)
            refine m_tabI C (tgt := 76) dX9_bunch_47 (by omega) (by omega) (by rw [hx]; rfl) (by decide) ?_
            refine m_aload_n C 0 dX9_bunch_76 rfl rfl ?_
            refine m_callVi C (as := []) (rest := []) ok_X9_touchingNow ml_X9_180 so_0 rfl rfl rfl (Nat.le_of_ble_eq_true rfl) (fun _ => rfl) dX9_bunch_77 (Con.mono h (fun r19 M20 _ _ h => ?_))
            exact m_iret C E (Or.inl rfl) dX9_bunch_80 h
          · have h := h.2.2.1 (by omega)
            refine m_tabI C (tgt := 81) dX9_bunch_47 (by omega) (by omega) (by rw [hx]; rfl) (by decide) ?_
            refine m_aload_n C 0 dX9_bunch_81 rfl rfl ?_
            refine m_callVi C (as := []) (rest := []) ok_X9_unevenness ml_X9_183 so_0 rfl rfl rfl (Nat.le_of_ble_eq_true rfl) (fun _ => rfl) dX9_bunch_82 (Con.mono h (fun r21 M22 _ _ h => ?_))
            exact m_iret C E (Or.inl rfl) dX9_bunch_85 h
          · have h := h.2.2.2.1 (by omega)
            refine m_tabI C (tgt := 86) dX9_bunch_47 (by omega) (by omega) (by rw [hx]; rfl) (by decide) ?_
            refine m_aload_n C 0 dX9_bunch_86 rfl rfl ?_
            refine m_callVi C (as := []) (rest := []) ok_X9_costOfAll ml_X9_186 so_0 rfl rfl rfl (Nat.le_of_ble_eq_true rfl) (fun _ => rfl) dX9_bunch_87 (Con.mono h (fun r23 M24 _ _ h => ?_))
            exact m_iret C E (Or.inl rfl) dX9_bunch_90 h
          · have h := h.2.2.2.2 (by omega)
            refine m_tabI C (tgt := 91) dX9_bunch_47 (by omega) (by omega) (by rw [hx]; rfl) (by decide) ?_
            refine m_aload_n C 0 dX9_bunch_91 rfl rfl ?_
            refine m_getR C (k := 0) cl_X9 (by decide) so_0 rfl fl_X9_10 dX9_bunch_92 ?_
            refine m_callVi C (as := []) (rest := []) ok_X0_roomLeft ml_X9_189 so_1 rfl rfl rfl (Nat.le_of_ble_eq_true rfl) (fun _ => rfl) dX9_bunch_95 (Con.mono h (fun r25 M26 _ _ h => ?_))
            exact m_iret C E (Or.inl rfl) dX9_bunch_98 h
      · have h := h.2 e
        refine m_iload_n C 1 dX9_bunch_28 rfl rfl ?_
        refine m_bipush C dX9_bunch_29 (r32_of rfl) (by decide) ?_
        refine m_icmp_ge C (tgt := 46) dX9_bunch_31 (by decide) (fun e => ?_) (fun e => ?_)
        · have h := h.1 e
          refine m_iload_n C 1 dX9_bunch_46 rfl rfl ?_
          by_cases ho : a1 < 0 ∨ 3 < a1
          · have h := h.1 (by omega)
            refine m_tabO C (tgt := 99) dX9_bunch_47 ho (by decide) ?_
            refine m_ldc C (v := (-100000)) dX9_bunch_99 kc_X9_192 (r32_of rfl) ?_
            exact m_iret C E (Or.inl rfl) dX9_bunch_101 h
          · obtain hx | hx | hx | hx : a1 = 0 ∨ a1 = 1 ∨ a1 = 2 ∨ a1 = 3 := by omega
            · have h := h.2.1 (by omega)
              refine m_tabI C (tgt := 76) dX9_bunch_47 (by omega) (by omega) (by rw [hx]; rfl) (by decide) ?_
              refine m_aload_n C 0 dX9_bunch_76 rfl rfl ?_
              refine m_callVi C (as := []) (rest := []) ok_X9_touchingNow ml_X9_180 so_0 rfl rfl rfl (Nat.le_of_ble_eq_true rfl) (fun _ => rfl) dX9_bunch_77 (Con.mono h (fun r27 M28 _ _ h => ?_))
              exact m_iret C E (Or.inl rfl) dX9_bunch_80 h
            · have h := h.2.2.1 (by omega)
              refine m_tabI C (tgt := 81) dX9_bunch_47 (by omega) (by omega) (by rw [hx]; rfl) (by decide) ?_
              refine m_aload_n C 0 dX9_bunch_81 rfl rfl ?_
              refine m_callVi C (as := []) (rest := []) ok_X9_unevenness ml_X9_183 so_0 rfl rfl rfl (Nat.le_of_ble_eq_true rfl) (fun _ => rfl) dX9_bunch_82 (Con.mono h (fun r29 M30 _ _ h => ?_))
              exact m_iret C E (Or.inl rfl) dX9_bunch_85 h
            · have h := h.2.2.2.1 (by omega)
              refine m_tabI C (tgt := 86) dX9_bunch_47 (by omega) (by omega) (by rw [hx]; rfl) (by decide) ?_
              refine m_aload_n C 0 dX9_bunch_86 rfl rfl ?_
              refine m_callVi C (as := []) (rest := []) ok_X9_costOfAll ml_X9_186 so_0 rfl rfl rfl (Nat.le_of_ble_eq_true rfl) (fun _ => rfl) dX9_bunch_87 (Con.mono h (fun r31 M32 _ _ h => ?_))
              exact m_iret C E (Or.inl rfl) dX9_bunch_90 h
            · have h := h.2.2.2.2 (by omega)
              refine m_tabI C (tgt := 91) dX9_bunch_47 (by omega) (by omega) (by rw [hx]; rfl) (by decide) ?_
              refine m_aload_n C 0 dX9_bunch_91 rfl rfl ?_
              refine m_getR C (k := 0) cl_X9 (by decide) so_0 rfl fl_X9_10 dX9_bunch_92 ?_
              refine m_callVi C (as := []) (rest := []) ok_X0_roomLeft ml_X9_189 so_1 rfl rfl rfl (Nat.le_of_ble_eq_true rfl) (fun _ => rfl) dX9_bunch_95 (Con.mono h (fun r33 M34 _ _ h => ?_))
              exact m_iret C E (Or.inl rfl) dX9_bunch_98 h
        · have h := h.2 e
          refine m_aload_n C 0 dX9_bunch_34 rfl rfl ?_
          refine m_getR C (k := 0) cl_X9 (by decide) so_0 rfl fl_X9_10 dX9_bunch_35 ?_
          refine m_iload_n C 1 dX9_bunch_38 rfl rfl ?_
          refine m_bipush C dX9_bunch_39 (r32_of rfl) (by decide) ?_
          refine m_isub C dX9_bunch_41 ?_
          refine m_callVi C (as := [vI (w32 (a1 - 10))]) (rest := []) ok_X0_stemsOfColour ml_X9_177 so_1 rfl rfl rfl (Nat.le_of_ble_eq_true rfl) (fun _ => rfl) dX9_bunch_42 (Con.mono h (fun r35 M36 _ _ h => ?_))
          exact m_iret C E (Or.inl rfl) dX9_bunch_45 h
    · have h := h.2 e
      refine m_aload_n C 0 dX9_bunch_11 rfl rfl ?_
      refine m_getR C (k := 0) cl_X9 (by decide) so_0 rfl fl_X9_10 dX9_bunch_12 ?_
      refine m_iload_n C 1 dX9_bunch_15 rfl rfl ?_
      refine m_iconst C dX9_bunch_16 (r32_of rfl) ?_
      refine m_isub C dX9_bunch_17 ?_
      refine m_callVi C (as := [vI (w32 (a1 - 4))]) (rest := []) ok_X0_stemsInQuarter ml_X9_174 so_1 rfl rfl rfl (Nat.le_of_ble_eq_true rfl) (fun _ => rfl) dX9_bunch_18 (Con.mono h (fun r37 M38 _ _ h => ?_))
      exact m_iret C E (Or.inl rfl) dX9_bunch_21 h
def B_X9_touchingNow (n : Nat)  (M : Mem) (Q : Int → Mem → Prop)  : Prop :=
  Con n md_X8_start [vR 38] M (fun _ M2 =>
  Q (M2 38 7) M2)
set_option maxHeartbeats 4000000 in
set_option maxRecDepth 20000 in
theorem g_X9_touchingNow {n : Nat}  {M : Mem} {Q : Int → Mem → Prop}  (h : B_X9_touchingNow n  M Q) : Con (n + 1) md_X9_touchingNow [vR 0] M Q := by
  refine Con.ofF (n := n + 1) (Nat.succ_pos n) pl_X9_touchingNow (Nat.le_of_ble_eq_true rfl) (fun X C E hnL => ?_)
  have C : Cx X cX9_touchingNow RX9 n := C
  show WM X 0 [(0, vR 0)] [] M
  unfold B_X9_touchingNow at h
  refine m_aload_n C 0 dX9_touchingNow_0 rfl rfl ?_
  refine m_getR C (k := 7) cl_X9 (by decide) so_0 rfl fl_X9_60 dX9_touchingNow_1 ?_
  refine m_callVv C (as := []) (rest := []) ok_X8_start ml_X9_149 so_38 rfl rfl rfl (Nat.le_of_ble_eq_true rfl) (fun _ => rfl) dX9_touchingNow_4 (Con.mono h (fun _ M2 _ _ h => ?_))
  refine m_aload_n C 0 dX9_touchingNow_7 rfl rfl ?_
  refine m_getR C (k := 7) cl_X9 (by decide) so_0 rfl fl_X9_60 dX9_touchingNow_8 ?_
  refine m_getI C (k := 7) cl_X8 (by decide) so_38 rfl fl_X9_193 dX9_touchingNow_11 ?_
  exact m_iret C E (Or.inl rfl) dX9_touchingNow_14 h
def B_X9_unevenness_7 (n : Nat)  (x1 : Int) (x2 : Int) (x3 : Int) (M : Mem) (Q : Int → Mem → Prop) (K7 : Int → Int → Int → Mem → Prop) : Prop :=
  ((4 ≤ x3 →
  Q (w32 (x1 - x2)) M) ∧ (¬ 4 ≤ x3 →
  Con n md_X0_stemsInQuarter [vR 1, vI x3] M (fun r1 M2 =>
    Con n md_J9_max_7cf53 [vI x1, vI r1] M2 (fun r3 M4 =>
    Con n md_J9_min_7cf53 [vI x2, vI r1] M4 (fun r5 M6 =>
    K7 r3 r5 (w32 (x3 + 1)) M6)))))
def B_X9_unevenness (n : Nat)  (M : Mem) (Q : Int → Mem → Prop) (K7 : Int → Int → Int → Mem → Prop) : Prop :=
  K7 0 40 0 M
set_option maxHeartbeats 4000000 in
set_option maxRecDepth 20000 in
theorem g_X9_unevenness {n : Nat}  {M : Mem} {Q : Int → Mem → Prop}  (h : ∀ (K7 : Int → Int → Int → Mem → Prop), (∀ (x1 : Int) (x2 : Int) (x3 : Int) (M : Mem), B_X9_unevenness_7 n  x1 x2 x3 M Q K7 → K7 x1 x2 x3 M) → B_X9_unevenness n  M Q K7) : Con (n + 1) md_X9_unevenness [vR 0] M Q := by
  refine Con.ofF (n := n + 1) (Nat.succ_pos n) pl_X9_unevenness (Nat.le_of_ble_eq_true rfl) (fun X C E hnL => ?_)
  have C : Cx X cX9_unevenness RX9 n := C
  show WM X 0 [(0, vR 0)] [] M
  have hb7 : ∀ (x1 : Int) (x2 : Int) (x3 : Int) (M : Mem), B_X9_unevenness_7 n  x1 x2 x3 M Q (fun (x1 : Int) (x2 : Int) (x3 : Int) (M : Mem) => WM X 7 [(0, vR 0), (1, vI x1), (2, vI x2), (3, vI x3)] [] M) → WM X 7 [(0, vR 0), (1, vI x1), (2, vI x2), (3, vI x3)] [] M := by
    intro x1 x2 x3 M h
    unfold B_X9_unevenness_7 at h
    refine m_iload_n C 3 dX9_unevenness_7 rfl rfl ?_
    refine m_iconst C dX9_unevenness_8 (r32_of rfl) ?_
    refine m_icmp_ge C (tgt := 42) dX9_unevenness_9 (by decide) (fun e => ?_) (fun e => ?_)
    · have h := h.1 e
      refine m_iload_n C 1 dX9_unevenness_42 rfl rfl ?_
      refine m_iload_n C 2 dX9_unevenness_43 rfl rfl ?_
      refine m_isub C dX9_unevenness_44 ?_
      exact m_iret C E (Or.inl rfl) dX9_unevenness_45 h
    · have h := h.2 e
      refine m_aload_n C 0 dX9_unevenness_12 rfl rfl ?_
      refine m_getR C (k := 0) cl_X9 (by decide) so_0 rfl fl_X9_10 dX9_unevenness_13 ?_
      refine m_iload_n C 3 dX9_unevenness_16 rfl rfl ?_
      refine m_callVi C (as := [vI x3]) (rest := []) ok_X0_stemsInQuarter ml_X9_174 so_1 rfl rfl rfl (Nat.le_of_ble_eq_true rfl) (fun _ => rfl) dX9_unevenness_17 (Con.mono h (fun r1 M2 _ _ h => ?_))
      refine m_istore C (L' := [(4, vI r1), (0, vR 0), (1, vI x1), (2, vI x2), (3, vI x3)]) dX9_unevenness_20 (by rw [hnL]; decide) rfl ?_
      refine m_iload_n C 2 dX9_unevenness_22 rfl rfl ?_
      refine m_iload C 0 dX9_unevenness_23 rfl ?_
      refine m_callSi C (as := [vI x1, vI r1]) (rest := []) ok_J9_max_7cf53 ml_X9_196 rfl rfl (Nat.le_of_ble_eq_true rfl) (fun _ => rfl) dX9_unevenness_25 (Con.mono h (fun r3 M4 _ _ h => ?_))
      refine m_istore_n C (L' := [(1, vI r3), (4, vI r1), (0, vR 0), (2, vI x2), (3, vI x3)]) dX9_unevenness_28 rfl (by rw [hnL]; decide) rfl ?_
      refine m_iload_n C 3 dX9_unevenness_29 rfl rfl ?_
      refine m_iload C 1 dX9_unevenness_30 rfl ?_
      refine m_callSi C (as := [vI x2, vI r1]) (rest := []) ok_J9_min_7cf53 ml_X9_201 rfl rfl (Nat.le_of_ble_eq_true rfl) (fun _ => rfl) dX9_unevenness_32 (Con.mono h (fun r5 M6 _ _ h => ?_))
      refine m_istore_n C (L' := [(2, vI r5), (1, vI r3), (4, vI r1), (0, vR 0), (3, vI x3)]) dX9_unevenness_35 rfl (by rw [hnL]; decide) rfl ?_
      refine m_iinc C (L' := [(3, vI (w32 (x3 + 1))), (2, vI r5), (1, vI r3), (4, vI r1), (0, vR 0)]) 4 dX9_unevenness_36 rfl (by rw [hnL]; decide) rfl ?_
      refine m_goto C (tgt := 7) dX9_unevenness_39 (by decide) ?_
      exact m_sub [4, 2, 1, 0] rfl h
  have h := h (fun (x1 : Int) (x2 : Int) (x3 : Int) (M : Mem) => WM X 7 [(0, vR 0), (1, vI x1), (2, vI x2), (3, vI x3)] [] M) hb7
  unfold B_X9_unevenness at h
  refine m_iconst C dX9_unevenness_0 (r32_of rfl) ?_
  refine m_istore_n C (L' := [(1, vI 0), (0, vR 0)]) dX9_unevenness_1 rfl (by rw [hnL]; decide) rfl ?_
  refine m_bipush C dX9_unevenness_2 (r32_of rfl) (by decide) ?_
  refine m_istore_n C (L' := [(2, vI 40), (1, vI 0), (0, vR 0)]) dX9_unevenness_4 rfl (by rw [hnL]; decide) rfl ?_
  refine m_iconst C dX9_unevenness_5 (r32_of rfl) ?_
  refine m_istore_n C (L' := [(3, vI 0), (2, vI 40), (1, vI 0), (0, vR 0)]) dX9_unevenness_6 rfl (by rw [hnL]; decide) rfl ?_
  exact m_sub [3, 2, 1, 0] rfl h
def B_X9_costOfAll_4 (n : Nat)  (x1 : Int) (x2 : Int) (M : Mem) (Q : Int → Mem → Prop) (K4 : Int → Int → Mem → Prop) : Prop :=
  (((M 1 3) ≤ x2 →
  Q x1 M) ∧ (¬ (M 1 3) ≤ x2 →
  Con n md_X2_asNow [vR 36, vR 1, vI x2] M (fun _ M2 =>
    Con n md_X2_costs [vR 36] M2 (fun r3 M4 =>
    Con n md_X0_stemsOf [vR 1, vI x2] M4 (fun r5 M6 =>
    K4 (w32 (x1 + (w32 (r3 * r5)))) (w32 (x2 + 1)) M6)))))
def B_X9_costOfAll (n : Nat)  (M : Mem) (Q : Int → Mem → Prop) (K4 : Int → Int → Mem → Prop) : Prop :=
  K4 0 0 M
set_option maxHeartbeats 4000000 in
set_option maxRecDepth 20000 in
theorem g_X9_costOfAll {n : Nat}  {M : Mem} {Q : Int → Mem → Prop}  (h : ∀ (K4 : Int → Int → Mem → Prop), (∀ (x1 : Int) (x2 : Int) (M : Mem), B_X9_costOfAll_4 n  x1 x2 M Q K4 → K4 x1 x2 M) → B_X9_costOfAll n  M Q K4) : Con (n + 1) md_X9_costOfAll [vR 0] M Q := by
  refine Con.ofF (n := n + 1) (Nat.succ_pos n) pl_X9_costOfAll (Nat.le_of_ble_eq_true rfl) (fun X C E hnL => ?_)
  have C : Cx X cX9_costOfAll RX9 n := C
  show WM X 0 [(0, vR 0)] [] M
  have hb4 : ∀ (x1 : Int) (x2 : Int) (M : Mem), B_X9_costOfAll_4 n  x1 x2 M Q (fun (x1 : Int) (x2 : Int) (M : Mem) => WM X 4 [(0, vR 0), (1, vI x1), (2, vI x2)] [] M) → WM X 4 [(0, vR 0), (1, vI x1), (2, vI x2)] [] M := by
    intro x1 x2 M h
    unfold B_X9_costOfAll_4 at h
    refine m_iload_n C 2 dX9_costOfAll_4 rfl rfl ?_
    refine m_aload_n C 0 dX9_costOfAll_5 rfl rfl ?_
    refine m_getR C (k := 0) cl_X9 (by decide) so_0 rfl fl_X9_10 dX9_costOfAll_6 ?_
    refine m_getI C (k := 3) cl_X0 (by decide) so_1 rfl fl_X9_204 dX9_costOfAll_9 ?_
    refine m_icmp_ge C (tgt := 52) dX9_costOfAll_12 (by decide) (fun e => ?_) (fun e => ?_)
    · have h := h.1 e
      refine m_iload_n C 1 dX9_costOfAll_52 rfl rfl ?_
      exact m_iret C E (Or.inl rfl) dX9_costOfAll_53 h
    · have h := h.2 e
      refine m_aload_n C 0 dX9_costOfAll_15 rfl rfl ?_
      refine m_getR C (k := 6) cl_X9 (by decide) so_0 rfl fl_X9_51 dX9_costOfAll_16 ?_
      refine m_aload_n C 0 dX9_costOfAll_19 rfl rfl ?_
      refine m_getR C (k := 0) cl_X9 (by decide) so_0 rfl fl_X9_10 dX9_costOfAll_20 ?_
      refine m_iload_n C 2 dX9_costOfAll_23 rfl rfl ?_
      refine m_callVv C (as := [vR 1, vI x2]) (rest := []) ok_X2_asNow ml_X9_99 so_36 rfl rfl rfl (Nat.le_of_ble_eq_true rfl) (fun _ => rfl) dX9_costOfAll_24 (Con.mono h (fun _ M2 _ _ h => ?_))
      refine m_iload_n C 1 dX9_costOfAll_27 rfl rfl ?_
      refine m_aload_n C 0 dX9_costOfAll_28 rfl rfl ?_
      refine m_getR C (k := 6) cl_X9 (by decide) so_0 rfl fl_X9_51 dX9_costOfAll_29 ?_
      refine m_callVi C (as := []) (rest := [vI x1]) ok_X2_costs ml_X9_114 so_36 rfl rfl rfl (Nat.le_of_ble_eq_true rfl) (fun _ => rfl) dX9_costOfAll_32 (Con.mono h (fun r3 M4 _ _ h => ?_))
      refine m_aload_n C 0 dX9_costOfAll_35 rfl rfl ?_
      refine m_getR C (k := 0) cl_X9 (by decide) so_0 rfl fl_X9_10 dX9_costOfAll_36 ?_
      refine m_iload_n C 2 dX9_costOfAll_39 rfl rfl ?_
      refine m_callVi C (as := [vI x2]) (rest := [vI r3, vI x1]) ok_X0_stemsOf ml_X9_207 so_1 rfl rfl rfl (Nat.le_of_ble_eq_true rfl) (fun _ => rfl) dX9_costOfAll_40 (Con.mono h (fun r5 M6 _ _ h => ?_))
      refine m_imul C dX9_costOfAll_43 ?_
      refine m_iadd C dX9_costOfAll_44 ?_
      refine m_istore_n C (L' := [(1, vI (w32 (x1 + (w32 (r3 * r5))))), (0, vR 0), (2, vI x2)]) dX9_costOfAll_45 rfl (by rw [hnL]; decide) rfl ?_
      refine m_iinc C (L' := [(2, vI (w32 (x2 + 1))), (1, vI (w32 (x1 + (w32 (r3 * r5))))), (0, vR 0)]) 2 dX9_costOfAll_46 rfl (by rw [hnL]; decide) rfl ?_
      refine m_goto C (tgt := 4) dX9_costOfAll_49 (by decide) ?_
      exact m_sub [2, 1, 0] rfl h
  have h := h (fun (x1 : Int) (x2 : Int) (M : Mem) => WM X 4 [(0, vR 0), (1, vI x1), (2, vI x2)] [] M) hb4
  unfold B_X9_costOfAll at h
  refine m_iconst C dX9_costOfAll_0 (r32_of rfl) ?_
  refine m_istore_n C (L' := [(1, vI 0), (0, vR 0)]) dX9_costOfAll_1 rfl (by rw [hnL]; decide) rfl ?_
  refine m_iconst C dX9_costOfAll_2 (r32_of rfl) ?_
  refine m_istore_n C (L' := [(2, vI 0), (1, vI 0), (0, vR 0)]) dX9_costOfAll_3 rfl (by rw [hnL]; decide) rfl ?_
  exact m_sub [2, 1, 0] rfl h
def B_X9_good_17 (n : Nat) (a1 : Int) (x2 : Int) (x3 : Int) (M : Mem) (Q : Int → Mem → Prop) (K17 : Int → Int → Mem → Prop) : Prop :=
  (((M 1 3) ≤ x3 →
  Q x2 M) ∧ (¬ (M 1 3) ≤ x3 →
  Con n md_X2_asNow [vR 36, vR 1, vI x3] M (fun _ M2 =>
    Con n md_X2_lasts [vR 36] M2 (fun r3 M4 =>
    ((r3 < a1 →
    K17 x2 (w32 (x3 + 1)) M4) ∧ (¬ r3 < a1 →
    Con n md_X0_stemsOf [vR 1, vI x3] M4 (fun r5 M6 =>
      K17 (w32 (x2 + r5)) (w32 (x3 + 1)) M6)))))))
def B_X9_good (n : Nat) (a1 : Int) (M : Mem) (Q : Int → Mem → Prop) (K17 : Int → Int → Mem → Prop) : Prop :=
  ((a1 < 0 →
  Q (-2) M) ∧ (¬ a1 < 0 →
  ((a1 ≤ 99 →
    K17 0 0 M) ∧ (¬ a1 ≤ 99 →
    Q (-2) M))))
set_option maxHeartbeats 4000000 in
set_option maxRecDepth 20000 in
theorem g_X9_good {n : Nat} {a1 : Int} {M : Mem} {Q : Int → Mem → Prop}  (h : ∀ (K17 : Int → Int → Mem → Prop), (∀ (x2 : Int) (x3 : Int) (M : Mem), B_X9_good_17 n a1 x2 x3 M Q K17 → K17 x2 x3 M) → B_X9_good n a1 M Q K17) : Con (n + 1) md_X9_good [vR 0, vI a1] M Q := by
  refine Con.ofF (n := n + 1) (Nat.succ_pos n) pl_X9_good (Nat.le_of_ble_eq_true rfl) (fun X C E hnL => ?_)
  have C : Cx X cX9_good RX9 n := C
  show WM X 0 [(0, vR 0), (1, vI a1)] [] M
  have hb17 : ∀ (x2 : Int) (x3 : Int) (M : Mem), B_X9_good_17 n a1 x2 x3 M Q (fun (x2 : Int) (x3 : Int) (M : Mem) => WM X 17 [(0, vR 0), (1, vI a1), (2, vI x2), (3, vI x3)] [] M) → WM X 17 [(0, vR 0), (1, vI a1), (2, vI x2), (3, vI x3)] [] M := by
    intro x2 x3 M h
    unfold B_X9_good_17 at h
    refine m_iload_n C 3 dX9_good_17 rfl rfl ?_
    refine m_aload_n C 0 dX9_good_18 rfl rfl ?_
    refine m_getR C (k := 0) cl_X9 (by decide) so_0 rfl fl_X9_10 dX9_good_19 ?_
    refine m_getI C (k := 3) cl_X0 (by decide) so_1 rfl fl_X9_204 dX9_good_22 ?_
    refine m_icmp_ge C (tgt := 68) dX9_good_25 (by decide) (fun e => ?_) (fun e => ?_)
    · have h := h.1 e
      refine m_iload_n C 2 dX9_good_68 rfl rfl ?_
      exact m_iret C E (Or.inl rfl) dX9_good_69 h
    · have h := h.2 e
      refine m_aload_n C 0 dX9_good_28 rfl rfl ?_
      refine m_getR C (k := 6) cl_X9 (by decide) so_0 rfl fl_X9_51 dX9_good_29 ?_
      refine m_aload_n C 0 dX9_good_32 rfl rfl ?_
      refine m_getR C (k := 0) cl_X9 (by decide) so_0 rfl fl_X9_10 dX9_good_33 ?_
      refine m_iload_n C 3 dX9_good_36 rfl rfl ?_
      refine m_callVv C (as := [vR 1, vI x3]) (rest := []) ok_X2_asNow ml_X9_99 so_36 rfl rfl rfl (Nat.le_of_ble_eq_true rfl) (fun _ => rfl) dX9_good_37 (Con.mono h (fun _ M2 _ _ h => ?_))
      refine m_aload_n C 0 dX9_good_40 rfl rfl ?_
      refine m_getR C (k := 6) cl_X9 (by decide) so_0 rfl fl_X9_51 dX9_good_41 ?_
      refine m_callVi C (as := []) (rest := []) ok_X2_lasts ml_X9_117 so_36 rfl rfl rfl (Nat.le_of_ble_eq_true rfl) (fun _ => rfl) dX9_good_44 (Con.mono h (fun r3 M4 _ _ h => ?_))
      refine m_iload_n C 1 dX9_good_47 rfl rfl ?_
      refine m_icmp_lt C (tgt := 62) dX9_good_48 (by decide) (fun e => ?_) (fun e => ?_)
      · have h := h.1 e
        refine m_iinc C (L' := [(3, vI (w32 (x3 + 1))), (0, vR 0), (1, vI a1), (2, vI x2)]) 3 dX9_good_62 rfl (by rw [hnL]; decide) rfl ?_
        refine m_goto C (tgt := 17) dX9_good_65 (by decide) ?_
        exact m_sub [1, 2, 3, 0] rfl h
      · have h := h.2 e
        refine m_iload_n C 2 dX9_good_51 rfl rfl ?_
        refine m_aload_n C 0 dX9_good_52 rfl rfl ?_
        refine m_getR C (k := 0) cl_X9 (by decide) so_0 rfl fl_X9_10 dX9_good_53 ?_
        refine m_iload_n C 3 dX9_good_56 rfl rfl ?_
        refine m_callVi C (as := [vI x3]) (rest := [vI x2]) ok_X0_stemsOf ml_X9_207 so_1 rfl rfl rfl (Nat.le_of_ble_eq_true rfl) (fun _ => rfl) dX9_good_57 (Con.mono h (fun r5 M6 _ _ h => ?_))
        refine m_iadd C dX9_good_60 ?_
        refine m_istore_n C (L' := [(2, vI (w32 (x2 + r5))), (0, vR 0), (1, vI a1), (3, vI x3)]) dX9_good_61 rfl (by rw [hnL]; decide) rfl ?_
        refine m_iinc C (L' := [(3, vI (w32 (x3 + 1))), (2, vI (w32 (x2 + r5))), (0, vR 0), (1, vI a1)]) 3 dX9_good_62 rfl (by rw [hnL]; decide) rfl ?_
        refine m_goto C (tgt := 17) dX9_good_65 (by decide) ?_
        exact m_sub [2, 3, 1, 0] rfl h
  have h := h (fun (x2 : Int) (x3 : Int) (M : Mem) => WM X 17 [(0, vR 0), (1, vI a1), (2, vI x2), (3, vI x3)] [] M) hb17
  unfold B_X9_good at h
  refine m_iload_n C 1 dX9_good_0 rfl rfl ?_
  refine m_if_lt C (tgt := 10) dX9_good_1 (by decide) (fun e => ?_) (fun e => ?_)
  · have h := h.1 e
    refine m_bipush C dX9_good_10 (r32_of rfl) (by decide) ?_
    exact m_iret C E (Or.inl rfl) dX9_good_12 h
  · have h := h.2 e
    refine m_iload_n C 1 dX9_good_4 rfl rfl ?_
    refine m_bipush C dX9_good_5 (r32_of rfl) (by decide) ?_
    refine m_icmp_le C (tgt := 13) dX9_good_7 (by decide) (fun e => ?_) (fun e => ?_)
    · have h := h.1 e
      refine m_iconst C dX9_good_13 (r32_of rfl) ?_
      refine m_istore_n C (L' := [(2, vI 0), (0, vR 0), (1, vI a1)]) dX9_good_14 rfl (by rw [hnL]; decide) rfl ?_
      refine m_iconst C dX9_good_15 (r32_of rfl) ?_
      refine m_istore_n C (L' := [(3, vI 0), (2, vI 0), (0, vR 0), (1, vI a1)]) dX9_good_16 rfl (by rw [hnL]; decide) rfl ?_
      exact m_sub [2, 3, 1, 0] rfl h
    · have h := h.2 e
      refine m_bipush C dX9_good_10 (r32_of rfl) (by decide) ?_
      exact m_iret C E (Or.inl rfl) dX9_good_12 h
def B_X9_next_32 (n : Nat) (a1 : Int) (x2 : Int) (x3 : Int) (x4 : Int) (M : Mem) (Q : Int → Mem → Prop) (K32 : Int → Int → Int → Mem → Prop) : Prop :=
  (((M 1 3) ≤ x4 →
  ((a1 = 0 →
    Q x2 M) ∧ (¬ a1 = 0 →
    Q x3 M))) ∧ (¬ (M 1 3) ≤ x4 →
  Con n md_X8_canBe [vR 38, vI x4] M (fun r1 M2 =>
    ((r1 = 0 →
    K32 x2 x3 (w32 (x4 + 1)) M2) ∧ (¬ r1 = 0 →
    Con n md_X8_touchingWith [vR 38, vI x4] M2 (fun r3 M4 =>
      ((x2 = (-1) →
      K32 x4 r3 (w32 (x4 + 1)) M4) ∧ (¬ x2 = (-1) →
      ((x3 ≤ r3 →
        K32 x2 x3 (w32 (x4 + 1)) M4) ∧ (¬ x3 ≤ r3 →
        K32 x4 r3 (w32 (x4 + 1)) M4))))))))))
def B_X9_next (n : Nat) (a1 : Int) (M : Mem) (Q : Int → Mem → Prop) (K32 : Int → Int → Int → Mem → Prop) : Prop :=
  ((a1 < 0 →
  Q (-2) M) ∧ (¬ a1 < 0 →
  ((a1 ≤ 1 →
    Con n md_X8_start [vR 38] M (fun _ M6 =>
      K32 (-1) (M6 38 7) 0 M6)) ∧ (¬ a1 ≤ 1 →
    Q (-2) M))))
set_option maxHeartbeats 4000000 in
set_option maxRecDepth 20000 in
theorem g_X9_next {n : Nat} {a1 : Int} {M : Mem} {Q : Int → Mem → Prop}  (h : ∀ (K32 : Int → Int → Int → Mem → Prop), (∀ (x2 : Int) (x3 : Int) (x4 : Int) (M : Mem), B_X9_next_32 n a1 x2 x3 x4 M Q K32 → K32 x2 x3 x4 M) → B_X9_next n a1 M Q K32) : Con (n + 1) md_X9_next [vR 0, vI a1] M Q := by
  refine Con.ofF (n := n + 1) (Nat.succ_pos n) pl_X9_next (Nat.le_of_ble_eq_true rfl) (fun X C E hnL => ?_)
  have C : Cx X cX9_next RX9 n := C
  show WM X 0 [(0, vR 0), (1, vI a1)] [] M
  have hb32 : ∀ (x2 : Int) (x3 : Int) (x4 : Int) (M : Mem), B_X9_next_32 n a1 x2 x3 x4 M Q (fun (x2 : Int) (x3 : Int) (x4 : Int) (M : Mem) => WM X 32 [(0, vR 0), (1, vI a1), (2, vI x2), (3, vI x3), (4, vI x4)] [] M) → WM X 32 [(0, vR 0), (1, vI a1), (2, vI x2), (3, vI x3), (4, vI x4)] [] M := by
    intro x2 x3 x4 M h
    unfold B_X9_next_32 at h
    refine m_iload C 4 dX9_next_32 rfl ?_
    refine m_aload_n C 0 dX9_next_34 rfl rfl ?_
    refine m_getR C (k := 0) cl_X9 (by decide) so_0 rfl fl_X9_10 dX9_next_35 ?_
    refine m_getI C (k := 3) cl_X0 (by decide) so_1 rfl fl_X9_204 dX9_next_38 ?_
    refine m_icmp_ge C (tgt := 90) dX9_next_41 (by decide) (fun e => ?_) (fun e => ?_)
    · have h := h.1 e
      refine m_iload_n C 1 dX9_next_90 rfl rfl ?_
      refine m_if_ne C (tgt := 98) dX9_next_91 (by decide) (fun e => ?_) (fun e => ?_)
      · have h := h.2 e
        refine m_iload_n C 3 dX9_next_98 rfl rfl ?_
        exact m_iret C E (Or.inl rfl) dX9_next_99 h
      · have h := h.1 e
        refine m_iload_n C 2 dX9_next_94 rfl rfl ?_
        refine m_goto C (tgt := 99) dX9_next_95 (by decide) ?_
        exact m_iret C E (Or.inl rfl) dX9_next_99 h
    · have h := h.2 e
      refine m_aload_n C 0 dX9_next_44 rfl rfl ?_
      refine m_getR C (k := 7) cl_X9 (by decide) so_0 rfl fl_X9_60 dX9_next_45 ?_
      refine m_iload C 4 dX9_next_48 rfl ?_
      refine m_callVi C (as := [vI x4]) (rest := []) ok_X8_canBe ml_X9_152 so_38 rfl rfl rfl (Nat.le_of_ble_eq_true rfl) (fun _ => rfl) dX9_next_50 (Con.mono h (fun r1 M2 _ _ h => ?_))
      refine m_if_eq C (tgt := 84) dX9_next_53 (by decide) (fun e => ?_) (fun e => ?_)
      · have h := h.1 e
        refine m_iinc C (L' := [(4, vI (w32 (x4 + 1))), (0, vR 0), (1, vI a1), (2, vI x2), (3, vI x3)]) 4 dX9_next_84 rfl (by rw [hnL]; decide) rfl ?_
        refine m_goto C (tgt := 32) dX9_next_87 (by decide) ?_
        exact m_sub [1, 2, 3, 4, 0] rfl h
      · have h := h.2 e
        refine m_aload_n C 0 dX9_next_56 rfl rfl ?_
        refine m_getR C (k := 7) cl_X9 (by decide) so_0 rfl fl_X9_60 dX9_next_57 ?_
        refine m_iload C 4 dX9_next_60 rfl ?_
        refine m_callVi C (as := [vI x4]) (rest := []) ok_X8_touchingWith ml_X9_210 so_38 rfl rfl rfl (Nat.le_of_ble_eq_true rfl) (fun _ => rfl) dX9_next_62 (Con.mono h (fun r3 M4 _ _ h => ?_))
        refine m_istore C (L' := [(5, vI r3), (0, vR 0), (1, vI a1), (2, vI x2), (3, vI x3), (4, vI x4)]) dX9_next_65 (by rw [hnL]; decide) rfl ?_
        refine m_iload_n C 3 dX9_next_67 rfl rfl ?_
        refine m_iconst C dX9_next_68 (r32_of rfl) ?_
        refine m_icmp_eq C (tgt := 78) dX9_next_69 (by decide) (fun e => ?_) (fun e => ?_)
        · have h := h.1 e
          refine m_iload C 5 dX9_next_78 rfl ?_
          refine m_istore_n C (L' := [(2, vI x4), (5, vI r3), (0, vR 0), (1, vI a1), (3, vI x3), (4, vI x4)]) dX9_next_80 rfl (by rw [hnL]; decide) rfl ?_
          refine m_iload C 1 dX9_next_81 rfl ?_
          refine m_istore_n C (L' := [(3, vI r3), (2, vI x4), (5, vI r3), (0, vR 0), (1, vI a1), (4, vI x4)]) dX9_next_83 rfl (by rw [hnL]; decide) rfl ?_
          refine m_iinc C (L' := [(4, vI (w32 (x4 + 1))), (3, vI r3), (2, vI x4), (5, vI r3), (0, vR 0), (1, vI a1)]) 5 dX9_next_84 rfl (by rw [hnL]; decide) rfl ?_
          refine m_goto C (tgt := 32) dX9_next_87 (by decide) ?_
          exact m_sub [4, 5, 2, 1, 0] rfl h
        · have h := h.2 e
          refine m_iload C 0 dX9_next_72 rfl ?_
          refine m_iload_n C 4 dX9_next_74 rfl rfl ?_
          refine m_icmp_ge C (tgt := 84) dX9_next_75 (by decide) (fun e => ?_) (fun e => ?_)
          · have h := h.1 e
            refine m_iinc C (L' := [(4, vI (w32 (x4 + 1))), (5, vI r3), (0, vR 0), (1, vI a1), (2, vI x2), (3, vI x3)]) 5 dX9_next_84 rfl (by rw [hnL]; decide) rfl ?_
            refine m_goto C (tgt := 32) dX9_next_87 (by decide) ?_
            exact m_sub [2, 3, 4, 5, 0] rfl h
          · have h := h.2 e
            refine m_iload C 5 dX9_next_78 rfl ?_
            refine m_istore_n C (L' := [(2, vI x4), (5, vI r3), (0, vR 0), (1, vI a1), (3, vI x3), (4, vI x4)]) dX9_next_80 rfl (by rw [hnL]; decide) rfl ?_
            refine m_iload C 1 dX9_next_81 rfl ?_
            refine m_istore_n C (L' := [(3, vI r3), (2, vI x4), (5, vI r3), (0, vR 0), (1, vI a1), (4, vI x4)]) dX9_next_83 rfl (by rw [hnL]; decide) rfl ?_
            refine m_iinc C (L' := [(4, vI (w32 (x4 + 1))), (3, vI r3), (2, vI x4), (5, vI r3), (0, vR 0), (1, vI a1)]) 5 dX9_next_84 rfl (by rw [hnL]; decide) rfl ?_
            refine m_goto C (tgt := 32) dX9_next_87 (by decide) ?_
            exact m_sub [4, 5, 2, 1, 0] rfl h
  have h := h (fun (x2 : Int) (x3 : Int) (x4 : Int) (M : Mem) => WM X 32 [(0, vR 0), (1, vI a1), (2, vI x2), (3, vI x3), (4, vI x4)] [] M) hb32
  unfold B_X9_next at h
  refine m_iload_n C 1 dX9_next_0 rfl rfl ?_
  refine m_if_lt C (tgt := 9) dX9_next_1 (by decide) (fun e => ?_) (fun e => ?_)
  · have h := h.1 e
    refine m_bipush C dX9_next_9 (r32_of rfl) (by decide) ?_
    exact m_iret C E (Or.inl rfl) dX9_next_11 h
  · have h := h.2 e
    refine m_iload_n C 1 dX9_next_4 rfl rfl ?_
    refine m_iconst C dX9_next_5 (r32_of rfl) ?_
    refine m_icmp_le C (tgt := 12) dX9_next_6 (by decide) (fun e => ?_) (fun e => ?_)
    · have h := h.1 e
      refine m_aload_n C 0 dX9_next_12 rfl rfl ?_
      refine m_getR C (k := 7) cl_X9 (by decide) so_0 rfl fl_X9_60 dX9_next_13 ?_
      refine m_callVv C (as := []) (rest := []) ok_X8_start ml_X9_149 so_38 rfl rfl rfl (Nat.le_of_ble_eq_true rfl) (fun _ => rfl) dX9_next_16 (Con.mono h (fun _ M6 _ _ h => ?_))
      refine m_iconst C dX9_next_19 (r32_of rfl) ?_
      refine m_istore_n C (L' := [(2, vI (-1)), (0, vR 0), (1, vI a1)]) dX9_next_20 rfl (by rw [hnL]; decide) rfl ?_
      refine m_aload_n C 1 dX9_next_21 rfl rfl ?_
      refine m_getR C (k := 7) cl_X9 (by decide) so_0 rfl fl_X9_60 dX9_next_22 ?_
      refine m_getI C (k := 7) cl_X8 (by decide) so_38 rfl fl_X9_193 dX9_next_25 ?_
      refine m_istore_n C (L' := [(3, vI (M6 38 7)), (2, vI (-1)), (0, vR 0), (1, vI a1)]) dX9_next_28 rfl (by rw [hnL]; decide) rfl ?_
      refine m_iconst C dX9_next_29 (r32_of rfl) ?_
      refine m_istore C (L' := [(4, vI 0), (3, vI (M6 38 7)), (2, vI (-1)), (0, vR 0), (1, vI a1)]) dX9_next_30 (by rw [hnL]; decide) rfl ?_
      exact m_sub [3, 4, 2, 1, 0] rfl h
    · have h := h.2 e
      refine m_bipush C dX9_next_9 (r32_of rfl) (by decide) ?_
      exact m_iret C E (Or.inl rfl) dX9_next_11 h
def B_X9_howMany_25 (n : Nat) (a1 : Int) (x2 : Int) (x3 : Int) (M : Mem) (Q : Int → Mem → Prop) (K25 : Int → Int → Mem → Prop) : Prop :=
  ((40 ≤ x3 →
  Q x2 M) ∧ (¬ 40 ≤ x3 →
  Con n md_X8_canBe [vR 38, vI a1] M (fun r1 M2 =>
    ((r1 = 0 →
    Q x2 M2) ∧ (¬ r1 = 0 →
    Con n md_X8_put [vR 38, vI a1] M2 (fun _ M4 =>
      K25 (w32 (x2 + 1)) (w32 (x3 + 1)) M4))))))
def B_X9_howMany (n : Nat) (a1 : Int) (M : Mem) (Q : Int → Mem → Prop) (K25 : Int → Int → Mem → Prop) : Prop :=
  Con n md_X0_hasFlower [vR 1, vI a1] M (fun r5 M6 =>
  ((r5 = 0 →
  Q (-2) M6) ∧ (¬ r5 = 0 →
  Con n md_X8_start [vR 38] M6 (fun _ M8 =>
    K25 0 0 M8))))
set_option maxHeartbeats 4000000 in
set_option maxRecDepth 20000 in
theorem g_X9_howMany {n : Nat} {a1 : Int} {M : Mem} {Q : Int → Mem → Prop}  (h : ∀ (K25 : Int → Int → Mem → Prop), (∀ (x2 : Int) (x3 : Int) (M : Mem), B_X9_howMany_25 n a1 x2 x3 M Q K25 → K25 x2 x3 M) → B_X9_howMany n a1 M Q K25) : Con (n + 1) md_X9_howMany [vR 0, vI a1] M Q := by
  refine Con.ofF (n := n + 1) (Nat.succ_pos n) pl_X9_howMany (Nat.le_of_ble_eq_true rfl) (fun X C E hnL => ?_)
  have C : Cx X cX9_howMany RX9 n := C
  show WM X 0 [(0, vR 0), (1, vI a1)] [] M
  have hb25 : ∀ (x2 : Int) (x3 : Int) (M : Mem), B_X9_howMany_25 n a1 x2 x3 M Q (fun (x2 : Int) (x3 : Int) (M : Mem) => WM X 25 [(0, vR 0), (1, vI a1), (2, vI x2), (3, vI x3)] [] M) → WM X 25 [(0, vR 0), (1, vI a1), (2, vI x2), (3, vI x3)] [] M := by
    intro x2 x3 M h
    unfold B_X9_howMany_25 at h
    refine m_iload_n C 3 dX9_howMany_25 rfl rfl ?_
    refine m_bipush C dX9_howMany_26 (r32_of rfl) (by decide) ?_
    refine m_icmp_ge C (tgt := 59) dX9_howMany_28 (by decide) (fun e => ?_) (fun e => ?_)
    · have h := h.1 e
      refine m_iload_n C 2 dX9_howMany_59 rfl rfl ?_
      exact m_iret C E (Or.inl rfl) dX9_howMany_60 h
    · have h := h.2 e
      refine m_aload_n C 0 dX9_howMany_31 rfl rfl ?_
      refine m_getR C (k := 7) cl_X9 (by decide) so_0 rfl fl_X9_60 dX9_howMany_32 ?_
      refine m_iload_n C 1 dX9_howMany_35 rfl rfl ?_
      refine m_callVi C (as := [vI a1]) (rest := []) ok_X8_canBe ml_X9_152 so_38 rfl rfl rfl (Nat.le_of_ble_eq_true rfl) (fun _ => rfl) dX9_howMany_36 (Con.mono h (fun r1 M2 _ _ h => ?_))
      refine m_if_eq C (tgt := 59) dX9_howMany_39 (by decide) (fun e => ?_) (fun e => ?_)
      · have h := h.1 e
        refine m_iload_n C 2 dX9_howMany_59 rfl rfl ?_
        exact m_iret C E (Or.inl rfl) dX9_howMany_60 h
      · have h := h.2 e
        refine m_aload_n C 0 dX9_howMany_42 rfl rfl ?_
        refine m_getR C (k := 7) cl_X9 (by decide) so_0 rfl fl_X9_60 dX9_howMany_43 ?_
        refine m_iload_n C 1 dX9_howMany_46 rfl rfl ?_
        refine m_callVv C (as := [vI a1]) (rest := []) ok_X8_put ml_X9_213 so_38 rfl rfl rfl (Nat.le_of_ble_eq_true rfl) (fun _ => rfl) dX9_howMany_47 (Con.mono h (fun _ M4 _ _ h => ?_))
        refine m_iinc C (L' := [(2, vI (w32 (x2 + 1))), (0, vR 0), (1, vI a1), (3, vI x3)]) 2 dX9_howMany_50 rfl (by rw [hnL]; decide) rfl ?_
        refine m_iinc C (L' := [(3, vI (w32 (x3 + 1))), (2, vI (w32 (x2 + 1))), (0, vR 0), (1, vI a1)]) 3 dX9_howMany_53 rfl (by rw [hnL]; decide) rfl ?_
        refine m_goto C (tgt := 25) dX9_howMany_56 (by decide) ?_
        exact m_sub [2, 3, 1, 0] rfl h
  have h := h (fun (x2 : Int) (x3 : Int) (M : Mem) => WM X 25 [(0, vR 0), (1, vI a1), (2, vI x2), (3, vI x3)] [] M) hb25
  unfold B_X9_howMany at h
  refine m_aload_n C 0 dX9_howMany_0 rfl rfl ?_
  refine m_getR C (k := 0) cl_X9 (by decide) so_0 rfl fl_X9_10 dX9_howMany_1 ?_
  refine m_iload_n C 1 dX9_howMany_4 rfl rfl ?_
  refine m_callVi C (as := [vI a1]) (rest := []) ok_X0_hasFlower ml_X9_84 so_1 rfl rfl rfl (Nat.le_of_ble_eq_true rfl) (fun _ => rfl) dX9_howMany_5 (Con.mono h (fun r5 M6 _ _ h => ?_))
  refine m_if_ne C (tgt := 14) dX9_howMany_8 (by decide) (fun e => ?_) (fun e => ?_)
  · have h := h.2 e
    refine m_aload_n C 0 dX9_howMany_14 rfl rfl ?_
    refine m_getR C (k := 7) cl_X9 (by decide) so_0 rfl fl_X9_60 dX9_howMany_15 ?_
    refine m_callVv C (as := []) (rest := []) ok_X8_start ml_X9_149 so_38 rfl rfl rfl (Nat.le_of_ble_eq_true rfl) (fun _ => rfl) dX9_howMany_18 (Con.mono h (fun _ M8 _ _ h => ?_))
    refine m_iconst C dX9_howMany_21 (r32_of rfl) ?_
    refine m_istore_n C (L' := [(2, vI 0), (0, vR 0), (1, vI a1)]) dX9_howMany_22 rfl (by rw [hnL]; decide) rfl ?_
    refine m_iconst C dX9_howMany_23 (r32_of rfl) ?_
    refine m_istore_n C (L' := [(3, vI 0), (2, vI 0), (0, vR 0), (1, vI a1)]) dX9_howMany_24 rfl (by rw [hnL]; decide) rfl ?_
    exact m_sub [2, 3, 1, 0] rfl h
  · have h := h.1 e
    refine m_bipush C dX9_howMany_11 (r32_of rfl) (by decide) ?_
    exact m_iret C E (Or.inl rfl) dX9_howMany_13 h
def B_X9_order_60 (n : Nat) (a1 : Int) (a2 : Int) (x3 : Int) (x4 : Int) (M : Mem) (Q : Int → Mem → Prop) (K60 : Int → Int → Mem → Prop) : Prop :=
  ((x3 ≤ x4 →
  Con n md_X8_start [vR 38] M (fun _ M2 =>
    ((0 ≤ a1 ∧ a1 < 4) ∧ Con n md_X3_start [vR 41, vR (47 + Int.toNat a1), vI x3] M2 (fun _ M5 =>
    Con n md_X3_search [vR 41, vI 0, vI 0, vI 0] M5 (fun _ M7 =>
    ((a2 = 0 →
    Q (M7 41 3) M7) ∧ (¬ a2 = 0 →
    Q (M7 41 4) M7))))))) ∧ (¬ x3 ≤ x4 →
  Con n md_X5_itemAt [vR 43, vI a1, vI x4] M (fun r8 M9 =>
    Con n md_X0_hasFlower [vR 1, vI r8] M9 (fun r10 M11 =>
    ((r10 = 0 →
    Q (-2) M11) ∧ (¬ r10 = 0 →
    K60 x3 (w32 (x4 + 1)) M11))))))
def B_X9_order (n : Nat) (a1 : Int) (a2 : Int) (M : Mem) (Q : Int → Mem → Prop) (K60 : Int → Int → Mem → Prop) : Prop :=
  Con n md_X5_isNumber [vI a1] M (fun r12 M13 =>
  ((r12 = 0 →
  Q (-2) M13) ∧ (¬ r12 = 0 →
  ((a2 < 0 →
    Q (-2) M13) ∧ (¬ a2 < 0 →
    ((a2 ≤ 1 →
      Con n md_X5_isMissing [vR 43, vI a1] M13 (fun r14 M15 =>
        ((r14 = 0 →
        ((0 ≤ a1 ∧ a1 < 4) ∧ (((M15 45 (Int.toNat a1)) < 1 →
          Q (-2) M15) ∧ (¬ (M15 45 (Int.toNat a1)) < 1 →
          (((M15 45 (Int.toNat a1)) ≤ 6 →
            K60 (M15 45 (Int.toNat a1)) 0 M15) ∧ (¬ (M15 45 (Int.toNat a1)) ≤ 6 →
            Q (-2) M15)))))) ∧ (¬ r14 = 0 →
        Q (-11) M15)))) ∧ (¬ a2 ≤ 1 →
      Q (-2) M13)))))))
set_option maxHeartbeats 4000000 in
set_option maxRecDepth 20000 in
theorem g_X9_order {n : Nat} {a1 : Int} {a2 : Int} {M : Mem} {Q : Int → Mem → Prop}  (h : ∀ (K60 : Int → Int → Mem → Prop), (∀ (x3 : Int) (x4 : Int) (M : Mem), B_X9_order_60 n a1 a2 x3 x4 M Q K60 → K60 x3 x4 M) → B_X9_order n a1 a2 M Q K60) : Con (n + 1) md_X9_order [vR 0, vI a1, vI a2] M Q := by
  refine Con.ofF (n := n + 1) (Nat.succ_pos n) pl_X9_order (Nat.le_of_ble_eq_true rfl) (fun X C E hnL => ?_)
  have C : Cx X cX9_order RX9 n := C
  show WM X 0 [(0, vR 0), (1, vI a1), (2, vI a2)] [] M
  have hb60 : ∀ (x3 : Int) (x4 : Int) (M : Mem), B_X9_order_60 n a1 a2 x3 x4 M Q (fun (x3 : Int) (x4 : Int) (M : Mem) => WM X 60 [(0, vR 0), (1, vI a1), (2, vI a2), (3, vI x3), (4, vI x4)] [] M) → WM X 60 [(0, vR 0), (1, vI a1), (2, vI a2), (3, vI x3), (4, vI x4)] [] M := by
    intro x3 x4 M h
    unfold B_X9_order_60 at h
    refine m_iload C 4 dX9_order_60 rfl ?_
    refine m_iload_n C 3 dX9_order_62 rfl rfl ?_
    refine m_icmp_ge C (tgt := 95) dX9_order_63 (by decide) (fun e => ?_) (fun e => ?_)
    · have h := h.1 e
      refine m_aload_n C 0 dX9_order_95 rfl rfl ?_
      refine m_getR C (k := 7) cl_X9 (by decide) so_0 rfl fl_X9_60 dX9_order_96 ?_
      refine m_callVv C (as := []) (rest := []) ok_X8_start ml_X9_149 so_38 rfl rfl rfl (Nat.le_of_ble_eq_true rfl) (fun _ => rfl) dX9_order_99 (Con.mono h (fun _ M2 _ _ h => ?_))
      refine m_aload_n C 0 dX9_order_102 rfl rfl ?_
      refine m_getR C (k := 8) cl_X9 (by decide) so_0 rfl fl_X9_69 dX9_order_103 ?_
      refine m_aload_n C 0 dX9_order_106 rfl rfl ?_
      refine m_getR C (k := 9) cl_X9 (by decide) so_0 rfl fl_X9_76 dX9_order_107 ?_
      refine m_getR C (k := 2) cl_X5 (by decide) so_43 rfl fl_X9_229 dX9_order_110 ?_
      refine m_iload_n C 1 dX9_order_113 rfl rfl ?_
      have hg3 := h.1
      refine m_aald C gr_46 h.1 (grp_46 h.1) dX9_order_114 ?_
      have h := h.2
      refine m_iload_n C 3 dX9_order_115 rfl rfl ?_
      refine m_callVv C (as := [vR (47 + Int.toNat a1), vI x3]) (rest := []) ok_X3_start ml_X9_233 so_41 rfl rfl rfl (Nat.le_of_ble_eq_true rfl) (fun _ => rfl) dX9_order_116 (Con.mono h (fun _ M5 _ _ h => ?_))
      refine m_aload_n C 0 dX9_order_119 rfl rfl ?_
      refine m_getR C (k := 8) cl_X9 (by decide) so_0 rfl fl_X9_69 dX9_order_120 ?_
      refine m_iconst C dX9_order_123 (r32_of rfl) ?_
      refine m_iconst C dX9_order_124 (r32_of rfl) ?_
      refine m_iconst C dX9_order_125 (r32_of rfl) ?_
      refine m_callVv C (as := [vI 0, vI 0, vI 0]) (rest := []) ok_X3_search ml_X9_236 so_41 rfl rfl rfl (Nat.le_of_ble_eq_true rfl) (fun _ => rfl) dX9_order_126 (Con.mono h (fun _ M7 _ _ h => ?_))
      refine m_iload_n C 2 dX9_order_129 rfl rfl ?_
      refine m_if_ne C (tgt := 143) dX9_order_130 (by decide) (fun e => ?_) (fun e => ?_)
      · have h := h.2 e
        refine m_aload_n C 0 dX9_order_143 rfl rfl ?_
        refine m_getR C (k := 8) cl_X9 (by decide) so_0 rfl fl_X9_69 dX9_order_144 ?_
        refine m_getI C (k := 4) cl_X3 (by decide) so_41 rfl fl_X9_242 dX9_order_147 ?_
        exact m_iret C E (Or.inl rfl) dX9_order_150 h
      · have h := h.1 e
        refine m_aload_n C 0 dX9_order_133 rfl rfl ?_
        refine m_getR C (k := 8) cl_X9 (by decide) so_0 rfl fl_X9_69 dX9_order_134 ?_
        refine m_getI C (k := 3) cl_X3 (by decide) so_41 rfl fl_X9_239 dX9_order_137 ?_
        refine m_goto C (tgt := 150) dX9_order_140 (by decide) ?_
        exact m_iret C E (Or.inl rfl) dX9_order_150 h
    · have h := h.2 e
      refine m_aload_n C 0 dX9_order_66 rfl rfl ?_
      refine m_getR C (k := 0) cl_X9 (by decide) so_0 rfl fl_X9_10 dX9_order_67 ?_
      refine m_aload_n C 0 dX9_order_70 rfl rfl ?_
      refine m_getR C (k := 9) cl_X9 (by decide) so_0 rfl fl_X9_76 dX9_order_71 ?_
      refine m_iload_n C 1 dX9_order_74 rfl rfl ?_
      refine m_iload C 4 dX9_order_75 rfl ?_
      refine m_callVi C (as := [vI a1, vI x4]) (rest := [vR 1]) ok_X5_itemAt ml_X9_226 so_43 rfl rfl rfl (Nat.le_of_ble_eq_true rfl) (fun _ => rfl) dX9_order_77 (Con.mono h (fun r8 M9 _ _ h => ?_))
      refine m_callVi C (as := [vI r8]) (rest := []) ok_X0_hasFlower ml_X9_84 so_1 rfl rfl rfl (Nat.le_of_ble_eq_true rfl) (fun _ => rfl) dX9_order_80 (Con.mono h (fun r10 M11 _ _ h => ?_))
      refine m_if_ne C (tgt := 89) dX9_order_83 (by decide) (fun e => ?_) (fun e => ?_)
      · have h := h.2 e
        refine m_iinc C (L' := [(4, vI (w32 (x4 + 1))), (0, vR 0), (1, vI a1), (2, vI a2), (3, vI x3)]) 4 dX9_order_89 rfl (by rw [hnL]; decide) rfl ?_
        refine m_goto C (tgt := 60) dX9_order_92 (by decide) ?_
        exact m_sub [1, 2, 3, 4, 0] rfl h
      · have h := h.1 e
        refine m_bipush C dX9_order_86 (r32_of rfl) (by decide) ?_
        exact m_iret C E (Or.inl rfl) dX9_order_88 h
  have h := h (fun (x3 : Int) (x4 : Int) (M : Mem) => WM X 60 [(0, vR 0), (1, vI a1), (2, vI a2), (3, vI x3), (4, vI x4)] [] M) hb60
  unfold B_X9_order at h
  refine m_iload_n C 1 dX9_order_0 rfl rfl ?_
  refine m_callSi C (as := [vI a1]) (rest := []) ok_X5_isNumber ml_X9_217 rfl rfl (Nat.le_of_ble_eq_true rfl) (fun _ => rfl) dX9_order_1 (Con.mono h (fun r12 M13 _ _ h => ?_))
  refine m_if_eq C (tgt := 16) dX9_order_4 (by decide) (fun e => ?_) (fun e => ?_)
  · have h := h.1 e
    refine m_bipush C dX9_order_16 (r32_of rfl) (by decide) ?_
    exact m_iret C E (Or.inl rfl) dX9_order_18 h
  · have h := h.2 e
    refine m_iload_n C 2 dX9_order_7 rfl rfl ?_
    refine m_if_lt C (tgt := 16) dX9_order_8 (by decide) (fun e => ?_) (fun e => ?_)
    · have h := h.1 e
      refine m_bipush C dX9_order_16 (r32_of rfl) (by decide) ?_
      exact m_iret C E (Or.inl rfl) dX9_order_18 h
    · have h := h.2 e
      refine m_iload_n C 2 dX9_order_11 rfl rfl ?_
      refine m_iconst C dX9_order_12 (r32_of rfl) ?_
      refine m_icmp_le C (tgt := 19) dX9_order_13 (by decide) (fun e => ?_) (fun e => ?_)
      · have h := h.1 e
        refine m_aload_n C 0 dX9_order_19 rfl rfl ?_
        refine m_getR C (k := 9) cl_X9 (by decide) so_0 rfl fl_X9_76 dX9_order_20 ?_
        refine m_iload_n C 1 dX9_order_23 rfl rfl ?_
        refine m_callVi C (as := [vI a1]) (rest := []) ok_X5_isMissing ml_X9_220 so_43 rfl rfl rfl (Nat.le_of_ble_eq_true rfl) (fun _ => rfl) dX9_order_24 (Con.mono h (fun r14 M15 _ _ h => ?_))
        refine m_if_eq C (tgt := 33) dX9_order_27 (by decide) (fun e => ?_) (fun e => ?_)
        · have h := h.1 e
          refine m_aload_n C 0 dX9_order_33 rfl rfl ?_
          refine m_getR C (k := 9) cl_X9 (by decide) so_0 rfl fl_X9_76 dX9_order_34 ?_
          refine m_getR C (k := 1) cl_X5 (by decide) so_43 rfl fl_X9_223 dX9_order_37 ?_
          refine m_iload_n C 1 dX9_order_40 rfl rfl ?_
          refine m_iald C (N := 4) sa_45 h.1 dX9_order_41 ?_
          have h := h.2
          refine m_istore_n C (L' := [(3, vI (M15 45 (Int.toNat a1))), (0, vR 0), (1, vI a1), (2, vI a2)]) dX9_order_42 rfl (by rw [hnL]; decide) rfl ?_
          refine m_iload_n C 0 dX9_order_43 rfl rfl ?_
          refine m_iconst C dX9_order_44 (r32_of rfl) ?_
          refine m_icmp_lt C (tgt := 54) dX9_order_45 (by decide) (fun e => ?_) (fun e => ?_)
          · have h := h.1 e
            refine m_bipush C dX9_order_54 (r32_of rfl) (by decide) ?_
            exact m_iret C E (Or.inl rfl) dX9_order_56 h
          · have h := h.2 e
            refine m_iload_n C 0 dX9_order_48 rfl rfl ?_
            refine m_bipush C dX9_order_49 (r32_of rfl) (by decide) ?_
            refine m_icmp_le C (tgt := 57) dX9_order_51 (by decide) (fun e => ?_) (fun e => ?_)
            · have h := h.1 e
              refine m_iconst C dX9_order_57 (r32_of rfl) ?_
              refine m_istore C (L' := [(4, vI 0), (3, vI (M15 45 (Int.toNat a1))), (0, vR 0), (1, vI a1), (2, vI a2)]) dX9_order_58 (by rw [hnL]; decide) rfl ?_
              exact m_sub [2, 3, 4, 1, 0] rfl h
            · have h := h.2 e
              refine m_bipush C dX9_order_54 (r32_of rfl) (by decide) ?_
              exact m_iret C E (Or.inl rfl) dX9_order_56 h
        · have h := h.2 e
          refine m_bipush C dX9_order_30 (r32_of rfl) (by decide) ?_
          exact m_iret C E (Or.inl rfl) dX9_order_32 h
      · have h := h.2 e
        refine m_bipush C dX9_order_16 (r32_of rfl) (by decide) ?_
        exact m_iret C E (Or.inl rfl) dX9_order_18 h
def B_X9_forMoney_24 (n : Nat) (a1 : Int) (x2 : Int) (x3 : Int) (x4 : Int) (x5 : Int) (M : Mem) (Q : Int → Mem → Prop) (K24 : Int → Int → Int → Int → Mem → Prop) : Prop :=
  (((M 1 3) ≤ x5 →
  Q x3 M) ∧ (¬ (M 1 3) ≤ x5 →
  Con n md_X9_cheapestBut [vR 0, vI x4] M (fun r1 M2 =>
    ((r1 = (-1) →
    Q x3 M2) ∧ (¬ r1 = (-1) →
    Con n md_X2_asNow [vR 36, vR 1, vI r1] M2 (fun _ M4 =>
      Con n md_X2_costs [vR 36] M4 (fun r5 M6 =>
      ((r5 ≤ 0 →
      ((0 ≤ r1 ∧ r1 < 6) ∧ K24 (w32 (x2 - (w32 ((M6 5 (Int.toNat r1)) * r5)))) (w32 (x3 + (M6 5 (Int.toNat r1)))) (o_r x4 (sh_l 1 r1)) (w32 (x5 + 1)) M6)) ∧ (¬ r5 ≤ 0 →
      ((0 ≤ r1 ∧ r1 < 6) ∧ (r5 ≠ 0 ∧ Con n md_J9_min_7cf53 [vI (M6 5 (Int.toNat r1)), vI (w32 (Int.tdiv x2 r5))] M6 (fun r7 M8 =>
        K24 (w32 (x2 - (w32 (r7 * r5)))) (w32 (x3 + r7)) (o_r x4 (sh_l 1 r1)) (w32 (x5 + 1)) M8))))))))))))
def B_X9_forMoney (n : Nat) (a1 : Int) (M : Mem) (Q : Int → Mem → Prop) (K24 : Int → Int → Int → Int → Mem → Prop) : Prop :=
  ((a1 < 0 →
  Q (-2) M) ∧ (¬ a1 < 0 →
  ((a1 ≤ 9999 →
    K24 a1 0 0 0 M) ∧ (¬ a1 ≤ 9999 →
    Q (-2) M))))
set_option maxHeartbeats 4000000 in
set_option maxRecDepth 20000 in
theorem g_X9_forMoney {n : Nat} {a1 : Int} {M : Mem} {Q : Int → Mem → Prop}  (h : ∀ (K24 : Int → Int → Int → Int → Mem → Prop), (∀ (x2 : Int) (x3 : Int) (x4 : Int) (x5 : Int) (M : Mem), B_X9_forMoney_24 n a1 x2 x3 x4 x5 M Q K24 → K24 x2 x3 x4 x5 M) → B_X9_forMoney n a1 M Q K24) : Con (n + 1) md_X9_forMoney [vR 0, vI a1] M Q := by
  refine Con.ofF (n := n + 1) (Nat.succ_pos n) pl_X9_forMoney (Nat.le_of_ble_eq_true rfl) (fun X C E hnL => ?_)
  have C : Cx X cX9_forMoney RX9 n := C
  show WM X 0 [(0, vR 0), (1, vI a1)] [] M
  have hb24 : ∀ (x2 : Int) (x3 : Int) (x4 : Int) (x5 : Int) (M : Mem), B_X9_forMoney_24 n a1 x2 x3 x4 x5 M Q (fun (x2 : Int) (x3 : Int) (x4 : Int) (x5 : Int) (M : Mem) => WM X 24 [(0, vR 0), (1, vI a1), (2, vI x2), (3, vI x3), (4, vI x4), (5, vI x5)] [] M) → WM X 24 [(0, vR 0), (1, vI a1), (2, vI x2), (3, vI x3), (4, vI x4), (5, vI x5)] [] M := by
    intro x2 x3 x4 x5 M h
    unfold B_X9_forMoney_24 at h
    refine m_iload C 5 dX9_forMoney_24 rfl ?_
    refine m_aload_n C 0 dX9_forMoney_26 rfl rfl ?_
    refine m_getR C (k := 0) cl_X9 (by decide) so_0 rfl fl_X9_10 dX9_forMoney_27 ?_
    refine m_getI C (k := 3) cl_X0 (by decide) so_1 rfl fl_X9_204 dX9_forMoney_30 ?_
    refine m_icmp_ge C (tgt := 140) dX9_forMoney_33 (by decide) (fun e => ?_) (fun e => ?_)
    · have h := h.1 e
      refine m_iload_n C 3 dX9_forMoney_140 rfl rfl ?_
      exact m_iret C E (Or.inl rfl) dX9_forMoney_141 h
    · have h := h.2 e
      refine m_aload_n C 0 dX9_forMoney_36 rfl rfl ?_
      refine m_iload C 4 dX9_forMoney_37 rfl ?_
      refine m_callVi C (as := [vI x4]) (rest := []) ok_X9_cheapestBut ml_X9_245 so_0 rfl rfl rfl (Nat.le_of_ble_eq_true rfl) (fun _ => rfl) dX9_forMoney_39 (Con.mono h (fun r1 M2 _ _ h => ?_))
      refine m_istore C (L' := [(6, vI r1), (0, vR 0), (1, vI a1), (2, vI x2), (3, vI x3), (4, vI x4), (5, vI x5)]) dX9_forMoney_42 (by rw [hnL]; decide) rfl ?_
      refine m_iload C 0 dX9_forMoney_44 rfl ?_
      refine m_iconst C dX9_forMoney_46 (r32_of rfl) ?_
      refine m_icmp_ne C (tgt := 53) dX9_forMoney_47 (by decide) (fun e => ?_) (fun e => ?_)
      · have h := h.2 e
        refine m_iload C 5 dX9_forMoney_53 rfl ?_
        refine m_iconst C dX9_forMoney_55 (r32_of rfl) ?_
        refine m_iload C 0 dX9_forMoney_56 rfl ?_
        refine m_ishl C dX9_forMoney_58 ?_
        refine m_ior C dX9_forMoney_59 ?_
        refine m_istore C (L' := [(4, vI (o_r x4 (sh_l 1 r1))), (6, vI r1), (0, vR 0), (1, vI a1), (2, vI x2), (3, vI x3), (5, vI x5)]) dX9_forMoney_60 (by rw [hnL]; decide) rfl ?_
        refine m_aload_n C 2 dX9_forMoney_62 rfl rfl ?_
        refine m_getR C (k := 6) cl_X9 (by decide) so_0 rfl fl_X9_51 dX9_forMoney_63 ?_
        refine m_aload_n C 2 dX9_forMoney_66 rfl rfl ?_
        refine m_getR C (k := 0) cl_X9 (by decide) so_0 rfl fl_X9_10 dX9_forMoney_67 ?_
        refine m_iload C 1 dX9_forMoney_70 rfl ?_
        refine m_callVv C (as := [vR 1, vI r1]) (rest := []) ok_X2_asNow ml_X9_99 so_36 rfl rfl rfl (Nat.le_of_ble_eq_true rfl) (fun _ => rfl) dX9_forMoney_72 (Con.mono h (fun _ M4 _ _ h => ?_))
        refine m_aload_n C 2 dX9_forMoney_75 rfl rfl ?_
        refine m_getR C (k := 6) cl_X9 (by decide) so_0 rfl fl_X9_51 dX9_forMoney_76 ?_
        refine m_callVi C (as := []) (rest := []) ok_X2_costs ml_X9_114 so_36 rfl rfl rfl (Nat.le_of_ble_eq_true rfl) (fun _ => rfl) dX9_forMoney_79 (Con.mono h (fun r5 M6 _ _ h => ?_))
        refine m_istore C (L' := [(7, vI r5), (4, vI (o_r x4 (sh_l 1 r1))), (6, vI r1), (0, vR 0), (1, vI a1), (2, vI x2), (3, vI x3), (5, vI x5)]) dX9_forMoney_82 (by rw [hnL]; decide) rfl ?_
        refine m_iload C 0 dX9_forMoney_84 rfl ?_
        refine m_if_le C (tgt := 109) dX9_forMoney_86 (by decide) (fun e => ?_) (fun e => ?_)
        · have h := h.1 e
          refine m_aload_n C 3 dX9_forMoney_109 rfl rfl ?_
          refine m_getR C (k := 0) cl_X9 (by decide) so_0 rfl fl_X9_10 dX9_forMoney_110 ?_
          refine m_getR C (k := 7) cl_X0 (by decide) so_1 rfl fl_X9_146 dX9_forMoney_113 ?_
          refine m_iload C 2 dX9_forMoney_116 rfl ?_
          refine m_iald C (N := 6) sa_5 h.1 dX9_forMoney_118 ?_
          have h := h.2
          refine m_istore C (L' := [(8, vI (M6 5 (Int.toNat r1))), (7, vI r5), (4, vI (o_r x4 (sh_l 1 r1))), (6, vI r1), (0, vR 0), (1, vI a1), (2, vI x2), (3, vI x3), (5, vI x5)]) dX9_forMoney_119 (by rw [hnL]; decide) rfl ?_
          refine m_iload_n C 7 dX9_forMoney_121 rfl rfl ?_
          refine m_iload C 0 dX9_forMoney_122 rfl ?_
          refine m_iadd C dX9_forMoney_124 ?_
          refine m_istore_n C (L' := [(3, vI (w32 (x3 + (M6 5 (Int.toNat r1))))), (8, vI (M6 5 (Int.toNat r1))), (7, vI r5), (4, vI (o_r x4 (sh_l 1 r1))), (6, vI r1), (0, vR 0), (1, vI a1), (2, vI x2), (5, vI x5)]) dX9_forMoney_125 rfl (by rw [hnL]; decide) rfl ?_
          refine m_iload_n C 7 dX9_forMoney_126 rfl rfl ?_
          refine m_iload C 1 dX9_forMoney_127 rfl ?_
          refine m_iload C 2 dX9_forMoney_129 rfl ?_
          refine m_imul C dX9_forMoney_131 ?_
          refine m_isub C dX9_forMoney_132 ?_
          refine m_istore_n C (L' := [(2, vI (w32 (x2 - (w32 ((M6 5 (Int.toNat r1)) * r5))))), (3, vI (w32 (x3 + (M6 5 (Int.toNat r1))))), (8, vI (M6 5 (Int.toNat r1))), (7, vI r5), (4, vI (o_r x4 (sh_l 1 r1))), (6, vI r1), (0, vR 0), (1, vI a1), (5, vI x5)]) dX9_forMoney_133 rfl (by rw [hnL]; decide) rfl ?_
          refine m_iinc C (L' := [(5, vI (w32 (x5 + 1))), (2, vI (w32 (x2 - (w32 ((M6 5 (Int.toNat r1)) * r5))))), (3, vI (w32 (x3 + (M6 5 (Int.toNat r1))))), (8, vI (M6 5 (Int.toNat r1))), (7, vI r5), (4, vI (o_r x4 (sh_l 1 r1))), (6, vI r1), (0, vR 0), (1, vI a1)]) 8 dX9_forMoney_134 rfl (by rw [hnL]; decide) rfl ?_
          refine m_goto C (tgt := 24) dX9_forMoney_137 (by decide) ?_
          exact m_sub [7, 8, 1, 2, 5, 0] rfl h
        · have h := h.2 e
          refine m_aload_n C 3 dX9_forMoney_89 rfl rfl ?_
          refine m_getR C (k := 0) cl_X9 (by decide) so_0 rfl fl_X9_10 dX9_forMoney_90 ?_
          refine m_getR C (k := 7) cl_X0 (by decide) so_1 rfl fl_X9_146 dX9_forMoney_93 ?_
          refine m_iload C 2 dX9_forMoney_96 rfl ?_
          refine m_iald C (N := 6) sa_5 h.1 dX9_forMoney_98 ?_
          have h := h.2
          refine m_iload_n C 5 dX9_forMoney_99 rfl rfl ?_
          refine m_iload C 0 dX9_forMoney_100 rfl ?_
          refine m_idiv C dX9_forMoney_102 h.1 ?_
          have h := h.2
          refine m_callSi C (as := [vI (M6 5 (Int.toNat r1)), vI (w32 (Int.tdiv x2 r5))]) (rest := []) ok_J9_min_7cf53 ml_X9_201 rfl rfl (Nat.le_of_ble_eq_true rfl) (fun _ => rfl) dX9_forMoney_103 (Con.mono h (fun r7 M8 _ _ h => ?_))
          refine m_goto C (tgt := 119) dX9_forMoney_106 (by decide) ?_
          refine m_istore C (L' := [(8, vI r7), (7, vI r5), (4, vI (o_r x4 (sh_l 1 r1))), (6, vI r1), (0, vR 0), (1, vI a1), (2, vI x2), (3, vI x3), (5, vI x5)]) dX9_forMoney_119 (by rw [hnL]; decide) rfl ?_
          refine m_iload_n C 7 dX9_forMoney_121 rfl rfl ?_
          refine m_iload C 0 dX9_forMoney_122 rfl ?_
          refine m_iadd C dX9_forMoney_124 ?_
          refine m_istore_n C (L' := [(3, vI (w32 (x3 + r7))), (8, vI r7), (7, vI r5), (4, vI (o_r x4 (sh_l 1 r1))), (6, vI r1), (0, vR 0), (1, vI a1), (2, vI x2), (5, vI x5)]) dX9_forMoney_125 rfl (by rw [hnL]; decide) rfl ?_
          refine m_iload_n C 7 dX9_forMoney_126 rfl rfl ?_
          refine m_iload C 1 dX9_forMoney_127 rfl ?_
          refine m_iload C 2 dX9_forMoney_129 rfl ?_
          refine m_imul C dX9_forMoney_131 ?_
          refine m_isub C dX9_forMoney_132 ?_
          refine m_istore_n C (L' := [(2, vI (w32 (x2 - (w32 (r7 * r5))))), (3, vI (w32 (x3 + r7))), (8, vI r7), (7, vI r5), (4, vI (o_r x4 (sh_l 1 r1))), (6, vI r1), (0, vR 0), (1, vI a1), (5, vI x5)]) dX9_forMoney_133 rfl (by rw [hnL]; decide) rfl ?_
          refine m_iinc C (L' := [(5, vI (w32 (x5 + 1))), (2, vI (w32 (x2 - (w32 (r7 * r5))))), (3, vI (w32 (x3 + r7))), (8, vI r7), (7, vI r5), (4, vI (o_r x4 (sh_l 1 r1))), (6, vI r1), (0, vR 0), (1, vI a1)]) 8 dX9_forMoney_134 rfl (by rw [hnL]; decide) rfl ?_
          refine m_goto C (tgt := 24) dX9_forMoney_137 (by decide) ?_
          exact m_sub [7, 8, 1, 2, 5, 0] rfl h
      · have h := h.1 e
        refine m_goto C (tgt := 140) dX9_forMoney_50 (by decide) ?_
        refine m_iload_n C 4 dX9_forMoney_140 rfl rfl ?_
        exact m_iret C E (Or.inl rfl) dX9_forMoney_141 h
  have h := h (fun (x2 : Int) (x3 : Int) (x4 : Int) (x5 : Int) (M : Mem) => WM X 24 [(0, vR 0), (1, vI a1), (2, vI x2), (3, vI x3), (4, vI x4), (5, vI x5)] [] M) hb24
  unfold B_X9_forMoney at h
  refine m_iload_n C 1 dX9_forMoney_0 rfl rfl ?_
  refine m_if_lt C (tgt := 11) dX9_forMoney_1 (by decide) (fun e => ?_) (fun e => ?_)
  · have h := h.1 e
    refine m_bipush C dX9_forMoney_11 (r32_of rfl) (by decide) ?_
    exact m_iret C E (Or.inl rfl) dX9_forMoney_13 h
  · have h := h.2 e
    refine m_iload_n C 1 dX9_forMoney_4 rfl rfl ?_
    refine m_sipush C dX9_forMoney_5 (r32_of rfl) (by decide) ?_
    refine m_icmp_le C (tgt := 14) dX9_forMoney_8 (by decide) (fun e => ?_) (fun e => ?_)
    · have h := h.1 e
      refine m_iload_n C 1 dX9_forMoney_14 rfl rfl ?_
      refine m_istore_n C (L' := [(2, vI a1), (0, vR 0), (1, vI a1)]) dX9_forMoney_15 rfl (by rw [hnL]; decide) rfl ?_
      refine m_iconst C dX9_forMoney_16 (r32_of rfl) ?_
      refine m_istore_n C (L' := [(3, vI 0), (2, vI a1), (0, vR 0), (1, vI a1)]) dX9_forMoney_17 rfl (by rw [hnL]; decide) rfl ?_
      refine m_iconst C dX9_forMoney_18 (r32_of rfl) ?_
      refine m_istore C (L' := [(4, vI 0), (3, vI 0), (2, vI a1), (0, vR 0), (1, vI a1)]) dX9_forMoney_19 (by rw [hnL]; decide) rfl ?_
      refine m_iconst C dX9_forMoney_21 (r32_of rfl) ?_
      refine m_istore C (L' := [(5, vI 0), (4, vI 0), (3, vI 0), (2, vI a1), (0, vR 0), (1, vI a1)]) dX9_forMoney_22 (by rw [hnL]; decide) rfl ?_
      exact m_sub [4, 5, 3, 2, 1, 0] rfl h
    · have h := h.2 e
      refine m_bipush C dX9_forMoney_11 (r32_of rfl) (by decide) ?_
      exact m_iret C E (Or.inl rfl) dX9_forMoney_13 h
def B_X9_cheapestBut_7 (n : Nat) (a1 : Int) (x2 : Int) (x3 : Int) (x4 : Int) (M : Mem) (Q : Int → Mem → Prop) (K7 : Int → Int → Int → Mem → Prop) : Prop :=
  (((M 1 3) ≤ x4 →
  Q x2 M) ∧ (¬ (M 1 3) ≤ x4 →
  Con n md_X2_asNow [vR 36, vR 1, vI x4] M (fun _ M2 =>
    Con n md_X2_costs [vR 36] M2 (fun r3 M4 =>
    (((an_d (sh_r a1 x4) 1) = 0 →
    ((x2 = (-1) →
      K7 x4 r3 (w32 (x4 + 1)) M4) ∧ (¬ x2 = (-1) →
      ((x3 ≤ r3 →
        K7 x2 x3 (w32 (x4 + 1)) M4) ∧ (¬ x3 ≤ r3 →
        K7 x4 r3 (w32 (x4 + 1)) M4))))) ∧ (¬ (an_d (sh_r a1 x4) 1) = 0 →
    K7 x2 x3 (w32 (x4 + 1)) M4))))))
def B_X9_cheapestBut (n : Nat) (a1 : Int) (M : Mem) (Q : Int → Mem → Prop) (K7 : Int → Int → Int → Mem → Prop) : Prop :=
  K7 (-1) 0 0 M
set_option maxHeartbeats 4000000 in
set_option maxRecDepth 20000 in
theorem g_X9_cheapestBut {n : Nat} {a1 : Int} {M : Mem} {Q : Int → Mem → Prop}  (h : ∀ (K7 : Int → Int → Int → Mem → Prop), (∀ (x2 : Int) (x3 : Int) (x4 : Int) (M : Mem), B_X9_cheapestBut_7 n a1 x2 x3 x4 M Q K7 → K7 x2 x3 x4 M) → B_X9_cheapestBut n a1 M Q K7) : Con (n + 1) md_X9_cheapestBut [vR 0, vI a1] M Q := by
  refine Con.ofF (n := n + 1) (Nat.succ_pos n) pl_X9_cheapestBut (Nat.le_of_ble_eq_true rfl) (fun X C E hnL => ?_)
  have C : Cx X cX9_cheapestBut RX9 n := C
  show WM X 0 [(0, vR 0), (1, vI a1)] [] M
  have hb7 : ∀ (x2 : Int) (x3 : Int) (x4 : Int) (M : Mem), B_X9_cheapestBut_7 n a1 x2 x3 x4 M Q (fun (x2 : Int) (x3 : Int) (x4 : Int) (M : Mem) => WM X 7 [(0, vR 0), (1, vI a1), (2, vI x2), (3, vI x3), (4, vI x4)] [] M) → WM X 7 [(0, vR 0), (1, vI a1), (2, vI x2), (3, vI x3), (4, vI x4)] [] M := by
    intro x2 x3 x4 M h
    unfold B_X9_cheapestBut_7 at h
    refine m_iload C 4 dX9_cheapestBut_7 rfl ?_
    refine m_aload_n C 0 dX9_cheapestBut_9 rfl rfl ?_
    refine m_getR C (k := 0) cl_X9 (by decide) so_0 rfl fl_X9_10 dX9_cheapestBut_10 ?_
    refine m_getI C (k := 3) cl_X0 (by decide) so_1 rfl fl_X9_204 dX9_cheapestBut_13 ?_
    refine m_icmp_ge C (tgt := 73) dX9_cheapestBut_16 (by decide) (fun e => ?_) (fun e => ?_)
    · have h := h.1 e
      refine m_iload_n C 2 dX9_cheapestBut_73 rfl rfl ?_
      exact m_iret C E (Or.inl rfl) dX9_cheapestBut_74 h
    · have h := h.2 e
      refine m_aload_n C 0 dX9_cheapestBut_19 rfl rfl ?_
      refine m_getR C (k := 6) cl_X9 (by decide) so_0 rfl fl_X9_51 dX9_cheapestBut_20 ?_
      refine m_aload_n C 0 dX9_cheapestBut_23 rfl rfl ?_
      refine m_getR C (k := 0) cl_X9 (by decide) so_0 rfl fl_X9_10 dX9_cheapestBut_24 ?_
      refine m_iload C 4 dX9_cheapestBut_27 rfl ?_
      refine m_callVv C (as := [vR 1, vI x4]) (rest := []) ok_X2_asNow ml_X9_99 so_36 rfl rfl rfl (Nat.le_of_ble_eq_true rfl) (fun _ => rfl) dX9_cheapestBut_29 (Con.mono h (fun _ M2 _ _ h => ?_))
      refine m_aload_n C 0 dX9_cheapestBut_32 rfl rfl ?_
      refine m_getR C (k := 6) cl_X9 (by decide) so_0 rfl fl_X9_51 dX9_cheapestBut_33 ?_
      refine m_callVi C (as := []) (rest := []) ok_X2_costs ml_X9_114 so_36 rfl rfl rfl (Nat.le_of_ble_eq_true rfl) (fun _ => rfl) dX9_cheapestBut_36 (Con.mono h (fun r3 M4 _ _ h => ?_))
      refine m_istore C (L' := [(5, vI r3), (0, vR 0), (1, vI a1), (2, vI x2), (3, vI x3), (4, vI x4)]) dX9_cheapestBut_39 (by rw [hnL]; decide) rfl ?_
      refine m_iload_n C 2 dX9_cheapestBut_41 rfl rfl ?_
      refine m_iload C 5 dX9_cheapestBut_42 rfl ?_
      refine m_ishr C dX9_cheapestBut_44 ?_
      refine m_iconst C dX9_cheapestBut_45 (r32_of rfl) ?_
      refine m_iand C dX9_cheapestBut_46 ?_
      refine m_if_ne C (tgt := 67) dX9_cheapestBut_47 (by decide) (fun e => ?_) (fun e => ?_)
      · have h := h.2 e
        refine m_iinc C (L' := [(4, vI (w32 (x4 + 1))), (5, vI r3), (0, vR 0), (1, vI a1), (2, vI x2), (3, vI x3)]) 5 dX9_cheapestBut_67 rfl (by rw [hnL]; decide) rfl ?_
        refine m_goto C (tgt := 7) dX9_cheapestBut_70 (by decide) ?_
        exact m_sub [2, 3, 4, 5, 0] rfl h
      · have h := h.1 e
        refine m_iload_n C 3 dX9_cheapestBut_50 rfl rfl ?_
        refine m_iconst C dX9_cheapestBut_51 (r32_of rfl) ?_
        refine m_icmp_eq C (tgt := 61) dX9_cheapestBut_52 (by decide) (fun e => ?_) (fun e => ?_)
        · have h := h.1 e
          refine m_iload C 5 dX9_cheapestBut_61 rfl ?_
          refine m_istore_n C (L' := [(2, vI x4), (5, vI r3), (0, vR 0), (1, vI a1), (3, vI x3), (4, vI x4)]) dX9_cheapestBut_63 rfl (by rw [hnL]; decide) rfl ?_
          refine m_iload C 1 dX9_cheapestBut_64 rfl ?_
          refine m_istore_n C (L' := [(3, vI r3), (2, vI x4), (5, vI r3), (0, vR 0), (1, vI a1), (4, vI x4)]) dX9_cheapestBut_66 rfl (by rw [hnL]; decide) rfl ?_
          refine m_iinc C (L' := [(4, vI (w32 (x4 + 1))), (3, vI r3), (2, vI x4), (5, vI r3), (0, vR 0), (1, vI a1)]) 5 dX9_cheapestBut_67 rfl (by rw [hnL]; decide) rfl ?_
          refine m_goto C (tgt := 7) dX9_cheapestBut_70 (by decide) ?_
          exact m_sub [4, 5, 2, 1, 0] rfl h
        · have h := h.2 e
          refine m_iload C 0 dX9_cheapestBut_55 rfl ?_
          refine m_iload_n C 4 dX9_cheapestBut_57 rfl rfl ?_
          refine m_icmp_ge C (tgt := 67) dX9_cheapestBut_58 (by decide) (fun e => ?_) (fun e => ?_)
          · have h := h.1 e
            refine m_iinc C (L' := [(4, vI (w32 (x4 + 1))), (5, vI r3), (0, vR 0), (1, vI a1), (2, vI x2), (3, vI x3)]) 5 dX9_cheapestBut_67 rfl (by rw [hnL]; decide) rfl ?_
            refine m_goto C (tgt := 7) dX9_cheapestBut_70 (by decide) ?_
            exact m_sub [2, 3, 4, 5, 0] rfl h
          · have h := h.2 e
            refine m_iload C 5 dX9_cheapestBut_61 rfl ?_
            refine m_istore_n C (L' := [(2, vI x4), (5, vI r3), (0, vR 0), (1, vI a1), (3, vI x3), (4, vI x4)]) dX9_cheapestBut_63 rfl (by rw [hnL]; decide) rfl ?_
            refine m_iload C 1 dX9_cheapestBut_64 rfl ?_
            refine m_istore_n C (L' := [(3, vI r3), (2, vI x4), (5, vI r3), (0, vR 0), (1, vI a1), (4, vI x4)]) dX9_cheapestBut_66 rfl (by rw [hnL]; decide) rfl ?_
            refine m_iinc C (L' := [(4, vI (w32 (x4 + 1))), (3, vI r3), (2, vI x4), (5, vI r3), (0, vR 0), (1, vI a1)]) 5 dX9_cheapestBut_67 rfl (by rw [hnL]; decide) rfl ?_
            refine m_goto C (tgt := 7) dX9_cheapestBut_70 (by decide) ?_
            exact m_sub [4, 5, 2, 1, 0] rfl h
  have h := h (fun (x2 : Int) (x3 : Int) (x4 : Int) (M : Mem) => WM X 7 [(0, vR 0), (1, vI a1), (2, vI x2), (3, vI x3), (4, vI x4)] [] M) hb7
  unfold B_X9_cheapestBut at h
  refine m_iconst C dX9_cheapestBut_0 (r32_of rfl) ?_
  refine m_istore_n C (L' := [(2, vI (-1)), (0, vR 0), (1, vI a1)]) dX9_cheapestBut_1 rfl (by rw [hnL]; decide) rfl ?_
  refine m_iconst C dX9_cheapestBut_2 (r32_of rfl) ?_
  refine m_istore_n C (L' := [(3, vI 0), (2, vI (-1)), (0, vR 0), (1, vI a1)]) dX9_cheapestBut_3 rfl (by rw [hnL]; decide) rfl ?_
  refine m_iconst C dX9_cheapestBut_4 (r32_of rfl) ?_
  refine m_istore C (L' := [(4, vI 0), (3, vI 0), (2, vI (-1)), (0, vR 0), (1, vI a1)]) dX9_cheapestBut_5 (by rw [hnL]; decide) rfl ?_
  exact m_sub [3, 4, 2, 1, 0] rfl h
def B_X9_worst_26 (n : Nat) (a1 : Int) (x2 : Int) (x3 : Int) (x4 : Int) (M : Mem) (Q : Int → Mem → Prop) (K26 : Int → Int → Int → Mem → Prop) : Prop :=
  (((M 1 8) ≤ x4 →
  ((a1 = 0 →
    Q x2 M) ∧ (¬ a1 = 0 →
    Q (w32 ((M 38 7) - x3)) M))) ∧ (¬ (M 1 8) ≤ x4 →
  Con n md_X8_touchedBy [vR 38, vI x4] M (fun r1 M2 =>
    ((r1 ≤ x3 →
    K26 x2 x3 (w32 (x4 + 1)) M2) ∧ (¬ r1 ≤ x3 →
    K26 x4 r1 (w32 (x4 + 1)) M2)))))
def B_X9_worst (n : Nat) (a1 : Int) (M : Mem) (Q : Int → Mem → Prop) (K26 : Int → Int → Int → Mem → Prop) : Prop :=
  ((a1 < 0 →
  Q (-2) M) ∧ (¬ a1 < 0 →
  ((a1 ≤ 1 →
    Con n md_X8_start [vR 38] M (fun _ M4 =>
      K26 (-1) 0 0 M4)) ∧ (¬ a1 ≤ 1 →
    Q (-2) M))))
set_option maxHeartbeats 4000000 in
set_option maxRecDepth 20000 in
theorem g_X9_worst {n : Nat} {a1 : Int} {M : Mem} {Q : Int → Mem → Prop}  (h : ∀ (K26 : Int → Int → Int → Mem → Prop), (∀ (x2 : Int) (x3 : Int) (x4 : Int) (M : Mem), B_X9_worst_26 n a1 x2 x3 x4 M Q K26 → K26 x2 x3 x4 M) → B_X9_worst n a1 M Q K26) : Con (n + 1) md_X9_worst [vR 0, vI a1] M Q := by
  refine Con.ofF (n := n + 1) (Nat.succ_pos n) pl_X9_worst (Nat.le_of_ble_eq_true rfl) (fun X C E hnL => ?_)
  have C : Cx X cX9_worst RX9 n := C
  show WM X 0 [(0, vR 0), (1, vI a1)] [] M
  have hb26 : ∀ (x2 : Int) (x3 : Int) (x4 : Int) (M : Mem), B_X9_worst_26 n a1 x2 x3 x4 M Q (fun (x2 : Int) (x3 : Int) (x4 : Int) (M : Mem) => WM X 26 [(0, vR 0), (1, vI a1), (2, vI x2), (3, vI x3), (4, vI x4)] [] M) → WM X 26 [(0, vR 0), (1, vI a1), (2, vI x2), (3, vI x3), (4, vI x4)] [] M := by
    intro x2 x3 x4 M h
    unfold B_X9_worst_26 at h
    refine m_iload C 4 dX9_worst_26 rfl ?_
    refine m_aload_n C 0 dX9_worst_28 rfl rfl ?_
    refine m_getR C (k := 0) cl_X9 (by decide) so_0 rfl fl_X9_10 dX9_worst_29 ?_
    refine m_getI C (k := 8) cl_X0 (by decide) so_1 rfl fl_X9_248 dX9_worst_32 ?_
    refine m_icmp_ge C (tgt := 67) dX9_worst_35 (by decide) (fun e => ?_) (fun e => ?_)
    · have h := h.1 e
      refine m_iload_n C 1 dX9_worst_67 rfl rfl ?_
      refine m_if_ne C (tgt := 75) dX9_worst_68 (by decide) (fun e => ?_) (fun e => ?_)
      · have h := h.2 e
        refine m_aload_n C 0 dX9_worst_75 rfl rfl ?_
        refine m_getR C (k := 7) cl_X9 (by decide) so_0 rfl fl_X9_60 dX9_worst_76 ?_
        refine m_getI C (k := 7) cl_X8 (by decide) so_38 rfl fl_X9_193 dX9_worst_79 ?_
        refine m_iload_n C 3 dX9_worst_82 rfl rfl ?_
        refine m_isub C dX9_worst_83 ?_
        exact m_iret C E (Or.inl rfl) dX9_worst_84 h
      · have h := h.1 e
        refine m_iload_n C 2 dX9_worst_71 rfl rfl ?_
        refine m_goto C (tgt := 84) dX9_worst_72 (by decide) ?_
        exact m_iret C E (Or.inl rfl) dX9_worst_84 h
    · have h := h.2 e
      refine m_aload_n C 0 dX9_worst_38 rfl rfl ?_
      refine m_getR C (k := 7) cl_X9 (by decide) so_0 rfl fl_X9_60 dX9_worst_39 ?_
      refine m_iload C 4 dX9_worst_42 rfl ?_
      refine m_callVi C (as := [vI x4]) (rest := []) ok_X8_touchedBy ml_X9_251 so_38 rfl rfl rfl (Nat.le_of_ble_eq_true rfl) (fun _ => rfl) dX9_worst_44 (Con.mono h (fun r1 M2 _ _ h => ?_))
      refine m_istore C (L' := [(5, vI r1), (0, vR 0), (1, vI a1), (2, vI x2), (3, vI x3), (4, vI x4)]) dX9_worst_47 (by rw [hnL]; decide) rfl ?_
      refine m_iload C 0 dX9_worst_49 rfl ?_
      refine m_iload_n C 4 dX9_worst_51 rfl rfl ?_
      refine m_icmp_le C (tgt := 61) dX9_worst_52 (by decide) (fun e => ?_) (fun e => ?_)
      · have h := h.1 e
        refine m_iinc C (L' := [(4, vI (w32 (x4 + 1))), (5, vI r1), (0, vR 0), (1, vI a1), (2, vI x2), (3, vI x3)]) 5 dX9_worst_61 rfl (by rw [hnL]; decide) rfl ?_
        refine m_goto C (tgt := 26) dX9_worst_64 (by decide) ?_
        exact m_sub [2, 3, 4, 5, 0] rfl h
      · have h := h.2 e
        refine m_iload C 5 dX9_worst_55 rfl ?_
        refine m_istore_n C (L' := [(2, vI x4), (5, vI r1), (0, vR 0), (1, vI a1), (3, vI x3), (4, vI x4)]) dX9_worst_57 rfl (by rw [hnL]; decide) rfl ?_
        refine m_iload C 1 dX9_worst_58 rfl ?_
        refine m_istore_n C (L' := [(3, vI r1), (2, vI x4), (5, vI r1), (0, vR 0), (1, vI a1), (4, vI x4)]) dX9_worst_60 rfl (by rw [hnL]; decide) rfl ?_
        refine m_iinc C (L' := [(4, vI (w32 (x4 + 1))), (3, vI r1), (2, vI x4), (5, vI r1), (0, vR 0), (1, vI a1)]) 5 dX9_worst_61 rfl (by rw [hnL]; decide) rfl ?_
        refine m_goto C (tgt := 26) dX9_worst_64 (by decide) ?_
        exact m_sub [4, 5, 2, 1, 0] rfl h
  have h := h (fun (x2 : Int) (x3 : Int) (x4 : Int) (M : Mem) => WM X 26 [(0, vR 0), (1, vI a1), (2, vI x2), (3, vI x3), (4, vI x4)] [] M) hb26
  unfold B_X9_worst at h
  refine m_iload_n C 1 dX9_worst_0 rfl rfl ?_
  refine m_if_lt C (tgt := 9) dX9_worst_1 (by decide) (fun e => ?_) (fun e => ?_)
  · have h := h.1 e
    refine m_bipush C dX9_worst_9 (r32_of rfl) (by decide) ?_
    exact m_iret C E (Or.inl rfl) dX9_worst_11 h
  · have h := h.2 e
    refine m_iload_n C 1 dX9_worst_4 rfl rfl ?_
    refine m_iconst C dX9_worst_5 (r32_of rfl) ?_
    refine m_icmp_le C (tgt := 12) dX9_worst_6 (by decide) (fun e => ?_) (fun e => ?_)
    · have h := h.1 e
      refine m_aload_n C 0 dX9_worst_12 rfl rfl ?_
      refine m_getR C (k := 7) cl_X9 (by decide) so_0 rfl fl_X9_60 dX9_worst_13 ?_
      refine m_callVv C (as := []) (rest := []) ok_X8_start ml_X9_149 so_38 rfl rfl rfl (Nat.le_of_ble_eq_true rfl) (fun _ => rfl) dX9_worst_16 (Con.mono h (fun _ M4 _ _ h => ?_))
      refine m_iconst C dX9_worst_19 (r32_of rfl) ?_
      refine m_istore_n C (L' := [(2, vI (-1)), (0, vR 0), (1, vI a1)]) dX9_worst_20 rfl (by rw [hnL]; decide) rfl ?_
      refine m_iconst C dX9_worst_21 (r32_of rfl) ?_
      refine m_istore_n C (L' := [(3, vI 0), (2, vI (-1)), (0, vR 0), (1, vI a1)]) dX9_worst_22 rfl (by rw [hnL]; decide) rfl ?_
      refine m_iconst C dX9_worst_23 (r32_of rfl) ?_
      refine m_istore C (L' := [(4, vI 0), (3, vI 0), (2, vI (-1)), (0, vR 0), (1, vI a1)]) dX9_worst_24 (by rw [hnL]; decide) rfl ?_
      exact m_sub [3, 4, 2, 1, 0] rfl h
    · have h := h.2 e
      refine m_bipush C dX9_worst_9 (r32_of rfl) (by decide) ?_
      exact m_iret C E (Or.inl rfl) dX9_worst_11 h
def B_X9_tells (n : Nat) (a1 : Int) (a2 : Int) (a3 : Int) (M : Mem) (Q : Int → Mem → Prop)  : Prop :=
  Con n md_X5_isNumber [vI a1] M (fun r1 M2 =>
  ((r1 = 0 →
  Q (-2) M2) ∧ (¬ r1 = 0 →
  Con n md_X0_hasFlower [vR 1, vI a2] M2 (fun r3 M4 =>
    ((r3 = 0 →
    Q (-2) M4) ∧ (¬ r3 = 0 →
    ((a3 < 0 →
      Q (-2) M4) ∧ (¬ a3 < 0 →
      ((a3 ≤ 5 →
        Con n md_X5_isMissing [vR 43, vI a1] M4 (fun r5 M6 =>
          ((r5 = 0 →
          ((0 ≤ a1 ∧ a1 < 4) ∧ (((M6 45 (Int.toNat a1)) ≤ 20 →
            ((a3 = 0 →
              Con n md_X2_inEmptyHand [vR 36, vR 1, vI a2] M6 (fun _ M10 =>
                Con n md_X9_firstOtherwise [vR 0, vI a1] M10 (fun r11 M12 =>
                Q r11 M12))) ∧ (¬ a3 = 0 →
              Con n md_X9_agreeing [vR 0, vI a1, vI a2, vI a3] M6 (fun r7 M8 =>
                Q r7 M8)))) ∧ (¬ (M6 45 (Int.toNat a1)) ≤ 20 →
            Q (-2) M6)))) ∧ (¬ r5 = 0 →
          Q (-11) M6)))) ∧ (¬ a3 ≤ 5 →
        Q (-2) M4))))))))))
set_option maxHeartbeats 4000000 in
set_option maxRecDepth 20000 in
theorem g_X9_tells {n : Nat} {a1 : Int} {a2 : Int} {a3 : Int} {M : Mem} {Q : Int → Mem → Prop}  (h : B_X9_tells n a1 a2 a3 M Q) : Con (n + 1) md_X9_tells [vR 0, vI a1, vI a2, vI a3] M Q := by
  refine Con.ofF (n := n + 1) (Nat.succ_pos n) pl_X9_tells (Nat.le_of_ble_eq_true rfl) (fun X C E hnL => ?_)
  have C : Cx X cX9_tells RX9 n := C
  show WM X 0 [(0, vR 0), (1, vI a1), (2, vI a2), (3, vI a3)] [] M
  unfold B_X9_tells at h
  refine m_iload_n C 1 dX9_tells_0 rfl rfl ?_
  refine m_callSi C (as := [vI a1]) (rest := []) ok_X5_isNumber ml_X9_217 rfl rfl (Nat.le_of_ble_eq_true rfl) (fun _ => rfl) dX9_tells_1 (Con.mono h (fun r1 M2 _ _ h => ?_))
  refine m_if_eq C (tgt := 27) dX9_tells_4 (by decide) (fun e => ?_) (fun e => ?_)
  · have h := h.1 e
    refine m_bipush C dX9_tells_27 (r32_of rfl) (by decide) ?_
    exact m_iret C E (Or.inl rfl) dX9_tells_29 h
  · have h := h.2 e
    refine m_aload_n C 0 dX9_tells_7 rfl rfl ?_
    refine m_getR C (k := 0) cl_X9 (by decide) so_0 rfl fl_X9_10 dX9_tells_8 ?_
    refine m_iload_n C 2 dX9_tells_11 rfl rfl ?_
    refine m_callVi C (as := [vI a2]) (rest := []) ok_X0_hasFlower ml_X9_84 so_1 rfl rfl rfl (Nat.le_of_ble_eq_true rfl) (fun _ => rfl) dX9_tells_12 (Con.mono h (fun r3 M4 _ _ h => ?_))
    refine m_if_eq C (tgt := 27) dX9_tells_15 (by decide) (fun e => ?_) (fun e => ?_)
    · have h := h.1 e
      refine m_bipush C dX9_tells_27 (r32_of rfl) (by decide) ?_
      exact m_iret C E (Or.inl rfl) dX9_tells_29 h
    · have h := h.2 e
      refine m_iload_n C 3 dX9_tells_18 rfl rfl ?_
      refine m_if_lt C (tgt := 27) dX9_tells_19 (by decide) (fun e => ?_) (fun e => ?_)
      · have h := h.1 e
        refine m_bipush C dX9_tells_27 (r32_of rfl) (by decide) ?_
        exact m_iret C E (Or.inl rfl) dX9_tells_29 h
      · have h := h.2 e
        refine m_iload_n C 3 dX9_tells_22 rfl rfl ?_
        refine m_iconst C dX9_tells_23 (r32_of rfl) ?_
        refine m_icmp_le C (tgt := 30) dX9_tells_24 (by decide) (fun e => ?_) (fun e => ?_)
        · have h := h.1 e
          refine m_aload_n C 0 dX9_tells_30 rfl rfl ?_
          refine m_getR C (k := 9) cl_X9 (by decide) so_0 rfl fl_X9_76 dX9_tells_31 ?_
          refine m_iload_n C 1 dX9_tells_34 rfl rfl ?_
          refine m_callVi C (as := [vI a1]) (rest := []) ok_X5_isMissing ml_X9_220 so_43 rfl rfl rfl (Nat.le_of_ble_eq_true rfl) (fun _ => rfl) dX9_tells_35 (Con.mono h (fun r5 M6 _ _ h => ?_))
          refine m_if_eq C (tgt := 44) dX9_tells_38 (by decide) (fun e => ?_) (fun e => ?_)
          · have h := h.1 e
            refine m_aload_n C 0 dX9_tells_44 rfl rfl ?_
            refine m_getR C (k := 9) cl_X9 (by decide) so_0 rfl fl_X9_76 dX9_tells_45 ?_
            refine m_getR C (k := 1) cl_X5 (by decide) so_43 rfl fl_X9_223 dX9_tells_48 ?_
            refine m_iload_n C 1 dX9_tells_51 rfl rfl ?_
            refine m_iald C (N := 4) sa_45 h.1 dX9_tells_52 ?_
            have h := h.2
            refine m_bipush C dX9_tells_53 (r32_of rfl) (by decide) ?_
            refine m_icmp_le C (tgt := 61) dX9_tells_55 (by decide) (fun e => ?_) (fun e => ?_)
            · have h := h.1 e
              refine m_iload_n C 3 dX9_tells_61 rfl rfl ?_
              refine m_if_ne C (tgt := 83) dX9_tells_62 (by decide) (fun e => ?_) (fun e => ?_)
              · have h := h.2 e
                refine m_aload_n C 0 dX9_tells_83 rfl rfl ?_
                refine m_iload_n C 1 dX9_tells_84 rfl rfl ?_
                refine m_iload_n C 2 dX9_tells_85 rfl rfl ?_
                refine m_iload_n C 3 dX9_tells_86 rfl rfl ?_
                refine m_callVi C (as := [vI a1, vI a2, vI a3]) (rest := []) ok_X9_agreeing ml_X9_260 so_0 rfl rfl rfl (Nat.le_of_ble_eq_true rfl) (fun _ => rfl) dX9_tells_87 (Con.mono h (fun r7 M8 _ _ h => ?_))
                exact m_iret C E (Or.inl rfl) dX9_tells_90 h
              · have h := h.1 e
                refine m_aload_n C 0 dX9_tells_65 rfl rfl ?_
                refine m_getR C (k := 6) cl_X9 (by decide) so_0 rfl fl_X9_51 dX9_tells_66 ?_
                refine m_aload_n C 0 dX9_tells_69 rfl rfl ?_
                refine m_getR C (k := 0) cl_X9 (by decide) so_0 rfl fl_X9_10 dX9_tells_70 ?_
                refine m_iload_n C 2 dX9_tells_73 rfl rfl ?_
                refine m_callVv C (as := [vR 1, vI a2]) (rest := []) ok_X2_inEmptyHand ml_X9_254 so_36 rfl rfl rfl (Nat.le_of_ble_eq_true rfl) (fun _ => rfl) dX9_tells_74 (Con.mono h (fun _ M10 _ _ h => ?_))
                refine m_aload_n C 0 dX9_tells_77 rfl rfl ?_
                refine m_iload_n C 1 dX9_tells_78 rfl rfl ?_
                refine m_callVi C (as := [vI a1]) (rest := []) ok_X9_firstOtherwise ml_X9_257 so_0 rfl rfl rfl (Nat.le_of_ble_eq_true rfl) (fun _ => rfl) dX9_tells_79 (Con.mono h (fun r11 M12 _ _ h => ?_))
                exact m_iret C E (Or.inl rfl) dX9_tells_82 h
            · have h := h.2 e
              refine m_bipush C dX9_tells_58 (r32_of rfl) (by decide) ?_
              exact m_iret C E (Or.inl rfl) dX9_tells_60 h
          · have h := h.2 e
            refine m_bipush C dX9_tells_41 (r32_of rfl) (by decide) ?_
            exact m_iret C E (Or.inl rfl) dX9_tells_43 h
        · have h := h.2 e
          refine m_bipush C dX9_tells_27 (r32_of rfl) (by decide) ?_
          exact m_iret C E (Or.inl rfl) dX9_tells_29 h
def B_X9_agreeing_13 (n : Nat) (a1 : Int) (a2 : Int) (a3 : Int) (x4 : Int) (x5 : Int) (x6 : Int) (M : Mem) (Q : Int → Mem → Prop) (K13 : Int → Int → Int → Mem → Prop) : Prop :=
  ((x5 ≤ x6 →
  Q x4 M) ∧ (¬ x5 ≤ x6 →
  Con n md_X2_inEmptyHand [vR 36, vR 1, vI a2] M (fun _ M2 =>
    Con n md_X2_suppose [vR 36, vI a3, vI x6] M2 (fun _ M4 =>
    Con n md_X9_firstOtherwise [vR 0, vI a1] M4 (fun r5 M6 =>
    ((r5 = (-1) →
    K13 (o_r x4 (sh_l 1 x6)) x5 (w32 (x6 + 1)) M6) ∧ (¬ r5 = (-1) →
    K13 x4 x5 (w32 (x6 + 1)) M6)))))))
def B_X9_agreeing (n : Nat) (a1 : Int) (a2 : Int) (a3 : Int) (M : Mem) (Q : Int → Mem → Prop) (K13 : Int → Int → Int → Mem → Prop) : Prop :=
  Con n md_X9_choicesOf [vR 0, vI a3] M (fun r7 M8 =>
  K13 0 r7 0 M8)
set_option maxHeartbeats 4000000 in
set_option maxRecDepth 20000 in
theorem g_X9_agreeing {n : Nat} {a1 : Int} {a2 : Int} {a3 : Int} {M : Mem} {Q : Int → Mem → Prop}  (h : ∀ (K13 : Int → Int → Int → Mem → Prop), (∀ (x4 : Int) (x5 : Int) (x6 : Int) (M : Mem), B_X9_agreeing_13 n a1 a2 a3 x4 x5 x6 M Q K13 → K13 x4 x5 x6 M) → B_X9_agreeing n a1 a2 a3 M Q K13) : Con (n + 1) md_X9_agreeing [vR 0, vI a1, vI a2, vI a3] M Q := by
  refine Con.ofF (n := n + 1) (Nat.succ_pos n) pl_X9_agreeing (Nat.le_of_ble_eq_true rfl) (fun X C E hnL => ?_)
  have C : Cx X cX9_agreeing RX9 n := C
  show WM X 0 [(0, vR 0), (1, vI a1), (2, vI a2), (3, vI a3)] [] M
  have hb13 : ∀ (x4 : Int) (x5 : Int) (x6 : Int) (M : Mem), B_X9_agreeing_13 n a1 a2 a3 x4 x5 x6 M Q (fun (x4 : Int) (x5 : Int) (x6 : Int) (M : Mem) => WM X 13 [(0, vR 0), (1, vI a1), (2, vI a2), (3, vI a3), (4, vI x4), (5, vI x5), (6, vI x6)] [] M) → WM X 13 [(0, vR 0), (1, vI a1), (2, vI a2), (3, vI a3), (4, vI x4), (5, vI x5), (6, vI x6)] [] M := by
    intro x4 x5 x6 M h
    unfold B_X9_agreeing_13 at h
    refine m_iload C 6 dX9_agreeing_13 rfl ?_
    refine m_iload C 5 dX9_agreeing_15 rfl ?_
    refine m_icmp_ge C (tgt := 66) dX9_agreeing_17 (by decide) (fun e => ?_) (fun e => ?_)
    · have h := h.1 e
      refine m_iload C 4 dX9_agreeing_66 rfl ?_
      exact m_iret C E (Or.inl rfl) dX9_agreeing_68 h
    · have h := h.2 e
      refine m_aload_n C 0 dX9_agreeing_20 rfl rfl ?_
      refine m_getR C (k := 6) cl_X9 (by decide) so_0 rfl fl_X9_51 dX9_agreeing_21 ?_
      refine m_aload_n C 0 dX9_agreeing_24 rfl rfl ?_
      refine m_getR C (k := 0) cl_X9 (by decide) so_0 rfl fl_X9_10 dX9_agreeing_25 ?_
      refine m_iload_n C 2 dX9_agreeing_28 rfl rfl ?_
      refine m_callVv C (as := [vR 1, vI a2]) (rest := []) ok_X2_inEmptyHand ml_X9_254 so_36 rfl rfl rfl (Nat.le_of_ble_eq_true rfl) (fun _ => rfl) dX9_agreeing_29 (Con.mono h (fun _ M2 _ _ h => ?_))
      refine m_aload_n C 0 dX9_agreeing_32 rfl rfl ?_
      refine m_getR C (k := 6) cl_X9 (by decide) so_0 rfl fl_X9_51 dX9_agreeing_33 ?_
      refine m_iload_n C 3 dX9_agreeing_36 rfl rfl ?_
      refine m_iload C 6 dX9_agreeing_37 rfl ?_
      refine m_callVv C (as := [vI a3, vI x6]) (rest := []) ok_X2_suppose ml_X9_267 so_36 rfl rfl rfl (Nat.le_of_ble_eq_true rfl) (fun _ => rfl) dX9_agreeing_39 (Con.mono h (fun _ M4 _ _ h => ?_))
      refine m_aload_n C 0 dX9_agreeing_42 rfl rfl ?_
      refine m_iload_n C 1 dX9_agreeing_43 rfl rfl ?_
      refine m_callVi C (as := [vI a1]) (rest := []) ok_X9_firstOtherwise ml_X9_257 so_0 rfl rfl rfl (Nat.le_of_ble_eq_true rfl) (fun _ => rfl) dX9_agreeing_44 (Con.mono h (fun r5 M6 _ _ h => ?_))
      refine m_iconst C dX9_agreeing_47 (r32_of rfl) ?_
      refine m_icmp_ne C (tgt := 60) dX9_agreeing_48 (by decide) (fun e => ?_) (fun e => ?_)
      · have h := h.2 e
        refine m_iinc C (L' := [(6, vI (w32 (x6 + 1))), (0, vR 0), (1, vI a1), (2, vI a2), (3, vI a3), (4, vI x4), (5, vI x5)]) 6 dX9_agreeing_60 rfl (by rw [hnL]; decide) rfl ?_
        refine m_goto C (tgt := 13) dX9_agreeing_63 (by decide) ?_
        exact m_sub [1, 2, 3, 4, 5, 6, 0] rfl h
      · have h := h.1 e
        refine m_iload C 4 dX9_agreeing_51 rfl ?_
        refine m_iconst C dX9_agreeing_53 (r32_of rfl) ?_
        refine m_iload C 6 dX9_agreeing_54 rfl ?_
        refine m_ishl C dX9_agreeing_56 ?_
        refine m_ior C dX9_agreeing_57 ?_
        refine m_istore C (L' := [(4, vI (o_r x4 (sh_l 1 x6))), (0, vR 0), (1, vI a1), (2, vI a2), (3, vI a3), (5, vI x5), (6, vI x6)]) dX9_agreeing_58 (by rw [hnL]; decide) rfl ?_
        refine m_iinc C (L' := [(6, vI (w32 (x6 + 1))), (4, vI (o_r x4 (sh_l 1 x6))), (0, vR 0), (1, vI a1), (2, vI a2), (3, vI a3), (5, vI x5)]) 6 dX9_agreeing_60 rfl (by rw [hnL]; decide) rfl ?_
        refine m_goto C (tgt := 13) dX9_agreeing_63 (by decide) ?_
        exact m_sub [2, 3, 4, 5, 1, 6, 0] rfl h
  have h := h (fun (x4 : Int) (x5 : Int) (x6 : Int) (M : Mem) => WM X 13 [(0, vR 0), (1, vI a1), (2, vI a2), (3, vI a3), (4, vI x4), (5, vI x5), (6, vI x6)] [] M) hb13
  unfold B_X9_agreeing at h
  refine m_iconst C dX9_agreeing_0 (r32_of rfl) ?_
  refine m_istore C (L' := [(4, vI 0), (0, vR 0), (1, vI a1), (2, vI a2), (3, vI a3)]) dX9_agreeing_1 (by rw [hnL]; decide) rfl ?_
  refine m_aload_n C 1 dX9_agreeing_3 rfl rfl ?_
  refine m_iload_n C 4 dX9_agreeing_4 rfl rfl ?_
  refine m_callVi C (as := [vI a3]) (rest := []) ok_X9_choicesOf ml_X9_264 so_0 rfl rfl rfl (Nat.le_of_ble_eq_true rfl) (fun _ => rfl) dX9_agreeing_5 (Con.mono h (fun r7 M8 _ _ h => ?_))
  refine m_istore C (L' := [(5, vI r7), (4, vI 0), (0, vR 0), (1, vI a1), (2, vI a2), (3, vI a3)]) dX9_agreeing_8 (by rw [hnL]; decide) rfl ?_
  refine m_iconst C dX9_agreeing_10 (r32_of rfl) ?_
  refine m_istore C (L' := [(6, vI 0), (5, vI r7), (4, vI 0), (0, vR 0), (1, vI a1), (2, vI a2), (3, vI a3)]) dX9_agreeing_11 (by rw [hnL]; decide) rfl ?_
  exact m_sub [3, 4, 5, 6, 2, 1, 0] rfl h
def B_X9_choicesOf (n : Nat) (a1 : Int) (M : Mem) (Q : Int → Mem → Prop)  : Prop :=
  (((a1 < 1 ∨ 5 < a1) →
  Q 0 M) ∧ ((a1 = 1) →
  Q 6 M) ∧ ((a1 = 2) →
  Q 10 M) ∧ ((a1 = 3) →
  Q 5 M) ∧ ((a1 = 4) →
  Q 16 M) ∧ ((a1 = 5) →
  Q (M 17 0) M))
set_option maxHeartbeats 4000000 in
set_option maxRecDepth 20000 in
theorem g_X9_choicesOf {n : Nat} {a1 : Int} {M : Mem} {Q : Int → Mem → Prop}  (h : B_X9_choicesOf n a1 M Q) : Con (n + 1) md_X9_choicesOf [vR 0, vI a1] M Q := by
  refine Con.ofF (n := n + 1) (Nat.succ_pos n) pl_X9_choicesOf (Nat.le_of_ble_eq_true rfl) (fun X C E hnL => ?_)
  have C : Cx X cX9_choicesOf RX9 n := C
  show WM X 0 [(0, vR 0), (1, vI a1)] [] M
  unfold B_X9_choicesOf at h
  refine m_iload_n C 1 dX9_choicesOf_0 rfl rfl ?_
  by_cases ho : a1 < 1 ∨ 5 < a1
  · have h := h.1 (by omega)
    refine m_tabO C (tgt := 55) dX9_choicesOf_1 ho (by decide) ?_
    refine m_iconst C dX9_choicesOf_55 (r32_of rfl) ?_
    exact m_iret C E (Or.inl rfl) dX9_choicesOf_56 h
  · obtain hx | hx | hx | hx | hx : a1 = 1 ∨ a1 = 2 ∨ a1 = 3 ∨ a1 = 4 ∨ a1 = 5 := by omega
    · have h := h.2.1 (by omega)
      refine m_tabI C (tgt := 36) dX9_choicesOf_1 (by omega) (by omega) (by rw [hx]; rfl) (by decide) ?_
      refine m_bipush C dX9_choicesOf_36 (r32_of rfl) (by decide) ?_
      exact m_iret C E (Or.inl rfl) dX9_choicesOf_38 h
    · have h := h.2.2.1 (by omega)
      refine m_tabI C (tgt := 39) dX9_choicesOf_1 (by omega) (by omega) (by rw [hx]; rfl) (by decide) ?_
      refine m_bipush C dX9_choicesOf_39 (r32_of rfl) (by decide) ?_
      exact m_iret C E (Or.inl rfl) dX9_choicesOf_41 h
    · have h := h.2.2.2.1 (by omega)
      refine m_tabI C (tgt := 42) dX9_choicesOf_1 (by omega) (by omega) (by rw [hx]; rfl) (by decide) ?_
      refine m_iconst C dX9_choicesOf_42 (r32_of rfl) ?_
      exact m_iret C E (Or.inl rfl) dX9_choicesOf_43 h
    · have h := h.2.2.2.2.1 (by omega)
      refine m_tabI C (tgt := 44) dX9_choicesOf_1 (by omega) (by omega) (by rw [hx]; rfl) (by decide) ?_
      refine m_bipush C dX9_choicesOf_44 (r32_of rfl) (by decide) ?_
      exact m_iret C E (Or.inl rfl) dX9_choicesOf_46 h
    · have h := h.2.2.2.2.2 (by omega)
      refine m_tabI C (tgt := 47) dX9_choicesOf_1 (by omega) (by omega) (by rw [hx]; rfl) (by decide) ?_
      refine m_aload_n C 0 dX9_choicesOf_47 rfl rfl ?_
      refine m_getR C (k := 4) cl_X9 (by decide) so_0 rfl fl_X9_33 dX9_choicesOf_48 ?_
      refine m_getI C (k := 0) cl_X7 (by decide) so_17 rfl fl_X9_270 dX9_choicesOf_51 ?_
      exact m_iret C E (Or.inl rfl) dX9_choicesOf_54 h
def B_X9_firstOtherwise_12 (n : Nat) (a1 : Int) (x2 : Int) (x3 : Int) (M : Mem) (Q : Int → Mem → Prop) (K12 : Int → Int → Mem → Prop) : Prop :=
  ((x2 ≤ x3 →
  Q (-1) M) ∧ (¬ x2 ≤ x3 →
  Con n md_X2_layOne [vR 36] M (fun r1 M2 =>
    Con n md_X5_itemAt [vR 43, vI a1, vI x3] M2 (fun r3 M4 =>
    ((r1 = r3 →
    K12 x2 (w32 (x3 + 1)) M4) ∧ (¬ r1 = r3 →
    Q x3 M4))))))
def B_X9_firstOtherwise (n : Nat) (a1 : Int) (M : Mem) (Q : Int → Mem → Prop) (K12 : Int → Int → Mem → Prop) : Prop :=
  ((0 ≤ a1 ∧ a1 < 4) ∧ K12 (M 45 (Int.toNat a1)) 0 M)
set_option maxHeartbeats 4000000 in
set_option maxRecDepth 20000 in
theorem g_X9_firstOtherwise {n : Nat} {a1 : Int} {M : Mem} {Q : Int → Mem → Prop}  (h : ∀ (K12 : Int → Int → Mem → Prop), (∀ (x2 : Int) (x3 : Int) (M : Mem), B_X9_firstOtherwise_12 n a1 x2 x3 M Q K12 → K12 x2 x3 M) → B_X9_firstOtherwise n a1 M Q K12) : Con (n + 1) md_X9_firstOtherwise [vR 0, vI a1] M Q := by
  refine Con.ofF (n := n + 1) (Nat.succ_pos n) pl_X9_firstOtherwise (Nat.le_of_ble_eq_true rfl) (fun X C E hnL => ?_)
  have C : Cx X cX9_firstOtherwise RX9 n := C
  show WM X 0 [(0, vR 0), (1, vI a1)] [] M
  have hb12 : ∀ (x2 : Int) (x3 : Int) (M : Mem), B_X9_firstOtherwise_12 n a1 x2 x3 M Q (fun (x2 : Int) (x3 : Int) (M : Mem) => WM X 12 [(0, vR 0), (1, vI a1), (2, vI x2), (3, vI x3)] [] M) → WM X 12 [(0, vR 0), (1, vI a1), (2, vI x2), (3, vI x3)] [] M := by
    intro x2 x3 M h
    unfold B_X9_firstOtherwise_12 at h
    refine m_iload_n C 3 dX9_firstOtherwise_12 rfl rfl ?_
    refine m_iload_n C 2 dX9_firstOtherwise_13 rfl rfl ?_
    refine m_icmp_ge C (tgt := 44) dX9_firstOtherwise_14 (by decide) (fun e => ?_) (fun e => ?_)
    · have h := h.1 e
      refine m_iconst C dX9_firstOtherwise_44 (r32_of rfl) ?_
      exact m_iret C E (Or.inl rfl) dX9_firstOtherwise_45 h
    · have h := h.2 e
      refine m_aload_n C 0 dX9_firstOtherwise_17 rfl rfl ?_
      refine m_getR C (k := 6) cl_X9 (by decide) so_0 rfl fl_X9_51 dX9_firstOtherwise_18 ?_
      refine m_callVi C (as := []) (rest := []) ok_X2_layOne ml_X9_271 so_36 rfl rfl rfl (Nat.le_of_ble_eq_true rfl) (fun _ => rfl) dX9_firstOtherwise_21 (Con.mono h (fun r1 M2 _ _ h => ?_))
      refine m_aload_n C 0 dX9_firstOtherwise_24 rfl rfl ?_
      refine m_getR C (k := 9) cl_X9 (by decide) so_0 rfl fl_X9_76 dX9_firstOtherwise_25 ?_
      refine m_iload_n C 1 dX9_firstOtherwise_28 rfl rfl ?_
      refine m_iload_n C 3 dX9_firstOtherwise_29 rfl rfl ?_
      refine m_callVi C (as := [vI a1, vI x3]) (rest := [vI r1]) ok_X5_itemAt ml_X9_226 so_43 rfl rfl rfl (Nat.le_of_ble_eq_true rfl) (fun _ => rfl) dX9_firstOtherwise_30 (Con.mono h (fun r3 M4 _ _ h => ?_))
      refine m_icmp_eq C (tgt := 38) dX9_firstOtherwise_33 (by decide) (fun e => ?_) (fun e => ?_)
      · have h := h.1 e
        refine m_iinc C (L' := [(3, vI (w32 (x3 + 1))), (0, vR 0), (1, vI a1), (2, vI x2)]) 3 dX9_firstOtherwise_38 rfl (by rw [hnL]; decide) rfl ?_
        refine m_goto C (tgt := 12) dX9_firstOtherwise_41 (by decide) ?_
        exact m_sub [1, 2, 3, 0] rfl h
      · have h := h.2 e
        refine m_iload_n C 3 dX9_firstOtherwise_36 rfl rfl ?_
        exact m_iret C E (Or.inl rfl) dX9_firstOtherwise_37 h
  have h := h (fun (x2 : Int) (x3 : Int) (M : Mem) => WM X 12 [(0, vR 0), (1, vI a1), (2, vI x2), (3, vI x3)] [] M) hb12
  unfold B_X9_firstOtherwise at h
  refine m_aload_n C 0 dX9_firstOtherwise_0 rfl rfl ?_
  refine m_getR C (k := 9) cl_X9 (by decide) so_0 rfl fl_X9_76 dX9_firstOtherwise_1 ?_
  refine m_getR C (k := 1) cl_X5 (by decide) so_43 rfl fl_X9_223 dX9_firstOtherwise_4 ?_
  refine m_iload_n C 1 dX9_firstOtherwise_7 rfl rfl ?_
  refine m_iald C (N := 4) sa_45 h.1 dX9_firstOtherwise_8 ?_
  have h := h.2
  refine m_istore_n C (L' := [(2, vI (M 45 (Int.toNat a1))), (0, vR 0), (1, vI a1)]) dX9_firstOtherwise_9 rfl (by rw [hnL]; decide) rfl ?_
  refine m_iconst C dX9_firstOtherwise_10 (r32_of rfl) ?_
  refine m_istore_n C (L' := [(3, vI 0), (2, vI (M 45 (Int.toNat a1))), (0, vR 0), (1, vI a1)]) dX9_firstOtherwise_11 rfl (by rw [hnL]; decide) rfl ?_
  exact m_sub [2, 3, 1, 0] rfl h
def B_X9_film_56 (n : Nat) (a1 : Int) (a2 : Int) (a3 : Int) (x4 : Int) (M : Mem) (Q : Int → Mem → Prop) (K56 : Int → Mem → Prop) : Prop :=
  ((a3 ≤ x4 →
  Q a3 M) ∧ (¬ a3 ≤ x4 →
  Con n md_X2_layOne [vR 36] M (fun r1 M2 =>
    Con n md_X5_write [vR 43, vI a1, vI x4, vI r1] M2 (fun _ M4 =>
    K56 (w32 (x4 + 1)) M4))))
def B_X9_film (n : Nat) (a1 : Int) (a2 : Int) (a3 : Int) (M : Mem) (Q : Int → Mem → Prop) (K56 : Int → Mem → Prop) : Prop :=
  Con n md_X5_isNumber [vI a1] M (fun r5 M6 =>
  ((r5 = 0 →
  Q (-2) M6) ∧ (¬ r5 = 0 →
  Con n md_X0_hasFlower [vR 1, vI a2] M6 (fun r7 M8 =>
    ((r7 = 0 →
    Q (-2) M8) ∧ (¬ r7 = 0 →
    ((a3 < 0 →
      Q (-2) M8) ∧ (¬ a3 < 0 →
      ((a3 ≤ 20 →
        Con n md_X5_become [vR 43, vI a1, vI 0, vI a3] M8 (fun _ M10 =>
          Con n md_X2_inEmptyHand [vR 36, vR 1, vI a2] M10 (fun _ M12 =>
          K56 0 M12))) ∧ (¬ a3 ≤ 20 →
        Q (-2) M8))))))))))
set_option maxHeartbeats 4000000 in
set_option maxRecDepth 20000 in
theorem g_X9_film {n : Nat} {a1 : Int} {a2 : Int} {a3 : Int} {M : Mem} {Q : Int → Mem → Prop}  (h : ∀ (K56 : Int → Mem → Prop), (∀ (x4 : Int) (M : Mem), B_X9_film_56 n a1 a2 a3 x4 M Q K56 → K56 x4 M) → B_X9_film n a1 a2 a3 M Q K56) : Con (n + 1) md_X9_film [vR 0, vI a1, vI a2, vI a3] M Q := by
  refine Con.ofF (n := n + 1) (Nat.succ_pos n) pl_X9_film (Nat.le_of_ble_eq_true rfl) (fun X C E hnL => ?_)
  have C : Cx X cX9_film RX9 n := C
  show WM X 0 [(0, vR 0), (1, vI a1), (2, vI a2), (3, vI a3)] [] M
  have hb56 : ∀ (x4 : Int) (M : Mem), B_X9_film_56 n a1 a2 a3 x4 M Q (fun (x4 : Int) (M : Mem) => WM X 56 [(0, vR 0), (1, vI a1), (2, vI a2), (3, vI a3), (4, vI x4)] [] M) → WM X 56 [(0, vR 0), (1, vI a1), (2, vI a2), (3, vI a3), (4, vI x4)] [] M := by
    intro x4 M h
    unfold B_X9_film_56 at h
    refine m_iload C 4 dX9_film_56 rfl ?_
    refine m_iload_n C 3 dX9_film_58 rfl rfl ?_
    refine m_icmp_ge C (tgt := 85) dX9_film_59 (by decide) (fun e => ?_) (fun e => ?_)
    · have h := h.1 e
      refine m_iload_n C 3 dX9_film_85 rfl rfl ?_
      exact m_iret C E (Or.inl rfl) dX9_film_86 h
    · have h := h.2 e
      refine m_aload_n C 0 dX9_film_62 rfl rfl ?_
      refine m_getR C (k := 9) cl_X9 (by decide) so_0 rfl fl_X9_76 dX9_film_63 ?_
      refine m_iload_n C 1 dX9_film_66 rfl rfl ?_
      refine m_iload C 4 dX9_film_67 rfl ?_
      refine m_aload_n C 0 dX9_film_69 rfl rfl ?_
      refine m_getR C (k := 6) cl_X9 (by decide) so_0 rfl fl_X9_51 dX9_film_70 ?_
      refine m_callVi C (as := []) (rest := [vI x4, vI a1, vR 43]) ok_X2_layOne ml_X9_271 so_36 rfl rfl rfl (Nat.le_of_ble_eq_true rfl) (fun _ => rfl) dX9_film_73 (Con.mono h (fun r1 M2 _ _ h => ?_))
      refine m_callVv C (as := [vI a1, vI x4, vI r1]) (rest := []) ok_X5_write ml_X9_277 so_43 rfl rfl rfl (Nat.le_of_ble_eq_true rfl) (fun _ => rfl) dX9_film_76 (Con.mono h (fun _ M4 _ _ h => ?_))
      refine m_iinc C (L' := [(4, vI (w32 (x4 + 1))), (0, vR 0), (1, vI a1), (2, vI a2), (3, vI a3)]) 4 dX9_film_79 rfl (by rw [hnL]; decide) rfl ?_
      refine m_goto C (tgt := 56) dX9_film_82 (by decide) ?_
      exact m_sub [1, 2, 3, 4, 0] rfl h
  have h := h (fun (x4 : Int) (M : Mem) => WM X 56 [(0, vR 0), (1, vI a1), (2, vI a2), (3, vI a3), (4, vI x4)] [] M) hb56
  unfold B_X9_film at h
  refine m_iload_n C 1 dX9_film_0 rfl rfl ?_
  refine m_callSi C (as := [vI a1]) (rest := []) ok_X5_isNumber ml_X9_217 rfl rfl (Nat.le_of_ble_eq_true rfl) (fun _ => rfl) dX9_film_1 (Con.mono h (fun r5 M6 _ _ h => ?_))
  refine m_if_eq C (tgt := 28) dX9_film_4 (by decide) (fun e => ?_) (fun e => ?_)
  · have h := h.1 e
    refine m_bipush C dX9_film_28 (r32_of rfl) (by decide) ?_
    exact m_iret C E (Or.inl rfl) dX9_film_30 h
  · have h := h.2 e
    refine m_aload_n C 0 dX9_film_7 rfl rfl ?_
    refine m_getR C (k := 0) cl_X9 (by decide) so_0 rfl fl_X9_10 dX9_film_8 ?_
    refine m_iload_n C 2 dX9_film_11 rfl rfl ?_
    refine m_callVi C (as := [vI a2]) (rest := []) ok_X0_hasFlower ml_X9_84 so_1 rfl rfl rfl (Nat.le_of_ble_eq_true rfl) (fun _ => rfl) dX9_film_12 (Con.mono h (fun r7 M8 _ _ h => ?_))
    refine m_if_eq C (tgt := 28) dX9_film_15 (by decide) (fun e => ?_) (fun e => ?_)
    · have h := h.1 e
      refine m_bipush C dX9_film_28 (r32_of rfl) (by decide) ?_
      exact m_iret C E (Or.inl rfl) dX9_film_30 h
    · have h := h.2 e
      refine m_iload_n C 3 dX9_film_18 rfl rfl ?_
      refine m_if_lt C (tgt := 28) dX9_film_19 (by decide) (fun e => ?_) (fun e => ?_)
      · have h := h.1 e
        refine m_bipush C dX9_film_28 (r32_of rfl) (by decide) ?_
        exact m_iret C E (Or.inl rfl) dX9_film_30 h
      · have h := h.2 e
        refine m_iload_n C 3 dX9_film_22 rfl rfl ?_
        refine m_bipush C dX9_film_23 (r32_of rfl) (by decide) ?_
        refine m_icmp_le C (tgt := 31) dX9_film_25 (by decide) (fun e => ?_) (fun e => ?_)
        · have h := h.1 e
          refine m_aload_n C 0 dX9_film_31 rfl rfl ?_
          refine m_getR C (k := 9) cl_X9 (by decide) so_0 rfl fl_X9_76 dX9_film_32 ?_
          refine m_iload_n C 1 dX9_film_35 rfl rfl ?_
          refine m_iconst C dX9_film_36 (r32_of rfl) ?_
          refine m_iload_n C 3 dX9_film_37 rfl rfl ?_
          refine m_callVv C (as := [vI a1, vI 0, vI a3]) (rest := []) ok_X5_become ml_X9_274 so_43 rfl rfl rfl (Nat.le_of_ble_eq_true rfl) (fun _ => rfl) dX9_film_38 (Con.mono h (fun _ M10 _ _ h => ?_))
          refine m_aload_n C 0 dX9_film_41 rfl rfl ?_
          refine m_getR C (k := 6) cl_X9 (by decide) so_0 rfl fl_X9_51 dX9_film_42 ?_
          refine m_aload_n C 0 dX9_film_45 rfl rfl ?_
          refine m_getR C (k := 0) cl_X9 (by decide) so_0 rfl fl_X9_10 dX9_film_46 ?_
          refine m_iload_n C 2 dX9_film_49 rfl rfl ?_
          refine m_callVv C (as := [vR 1, vI a2]) (rest := []) ok_X2_inEmptyHand ml_X9_254 so_36 rfl rfl rfl (Nat.le_of_ble_eq_true rfl) (fun _ => rfl) dX9_film_50 (Con.mono h (fun _ M12 _ _ h => ?_))
          refine m_iconst C dX9_film_53 (r32_of rfl) ?_
          refine m_istore C (L' := [(4, vI 0), (0, vR 0), (1, vI a1), (2, vI a2), (3, vI a3)]) dX9_film_54 (by rw [hnL]; decide) rfl ?_
          exact m_sub [1, 2, 3, 4, 0] rfl h
        · have h := h.2 e
          refine m_bipush C dX9_film_28 (r32_of rfl) (by decide) ?_
          exact m_iret C E (Or.inl rfl) dX9_film_30 h
def B_X9_drawn (n : Nat) (a1 : Int) (a2 : Int) (M : Mem) (Q : Int → Mem → Prop)  : Prop :=
  ((a2 < 0 →
  Q (-2) M) ∧ (¬ a2 < 0 →
  ((a2 ≤ 40 →
    (((M 1 3) = 0 →
      Q (-3) M) ∧ (¬ (M 1 3) = 0 →
      Con n md_X9_touchingDrawn [vR 0, vI a1, vI a2] M (fun r1 M2 =>
        Q r1 M2)))) ∧ (¬ a2 ≤ 40 →
    Q (-2) M))))
set_option maxHeartbeats 4000000 in
set_option maxRecDepth 20000 in
theorem g_X9_drawn {n : Nat} {a1 : Int} {a2 : Int} {M : Mem} {Q : Int → Mem → Prop}  (h : B_X9_drawn n a1 a2 M Q) : Con (n + 1) md_X9_drawn [vR 0, vI a1, vI a2] M Q := by
  refine Con.ofF (n := n + 1) (Nat.succ_pos n) pl_X9_drawn (Nat.le_of_ble_eq_true rfl) (fun X C E hnL => ?_)
  have C : Cx X cX9_drawn RX9 n := C
  show WM X 0 [(0, vR 0), (1, vI a1), (2, vI a2)] [] M
  unfold B_X9_drawn at h
  refine m_iload_n C 2 dX9_drawn_0 rfl rfl ?_
  refine m_if_lt C (tgt := 10) dX9_drawn_1 (by decide) (fun e => ?_) (fun e => ?_)
  · have h := h.1 e
    refine m_bipush C dX9_drawn_10 (r32_of rfl) (by decide) ?_
    exact m_iret C E (Or.inl rfl) dX9_drawn_12 h
  · have h := h.2 e
    refine m_iload_n C 2 dX9_drawn_4 rfl rfl ?_
    refine m_bipush C dX9_drawn_5 (r32_of rfl) (by decide) ?_
    refine m_icmp_le C (tgt := 13) dX9_drawn_7 (by decide) (fun e => ?_) (fun e => ?_)
    · have h := h.1 e
      refine m_aload_n C 0 dX9_drawn_13 rfl rfl ?_
      refine m_getR C (k := 0) cl_X9 (by decide) so_0 rfl fl_X9_10 dX9_drawn_14 ?_
      refine m_getI C (k := 3) cl_X0 (by decide) so_1 rfl fl_X9_204 dX9_drawn_17 ?_
      refine m_if_ne C (tgt := 28) dX9_drawn_20 (by decide) (fun e => ?_) (fun e => ?_)
      · have h := h.2 e
        refine m_aload_n C 0 dX9_drawn_28 rfl rfl ?_
        refine m_iload_n C 1 dX9_drawn_29 rfl rfl ?_
        refine m_iload_n C 2 dX9_drawn_30 rfl rfl ?_
        refine m_callVi C (as := [vI a1, vI a2]) (rest := []) ok_X9_touchingDrawn ml_X9_280 so_0 rfl rfl rfl (Nat.le_of_ble_eq_true rfl) (fun _ => rfl) dX9_drawn_31 (Con.mono h (fun r1 M2 _ _ h => ?_))
        exact m_iret C E (Or.inl rfl) dX9_drawn_34 h
      · have h := h.1 e
        refine m_bipush C dX9_drawn_23 (r32_of rfl) (by decide) ?_
        refine m_goto C (tgt := 34) dX9_drawn_25 (by decide) ?_
        exact m_iret C E (Or.inl rfl) dX9_drawn_34 h
    · have h := h.2 e
      refine m_bipush C dX9_drawn_10 (r32_of rfl) (by decide) ?_
      exact m_iret C E (Or.inl rfl) dX9_drawn_12 h
def B_X9_touchingDrawn_21 (n : Nat) (a1 : Int) (a2 : Int) (x3 : Int) (x4 : Int) (x5 : Int) (M : Mem) (Q : Int → Mem → Prop) (K21 : Int → Int → Int → Mem → Prop) : Prop :=
  ((a2 ≤ x5 →
  Q (M 38 7) M) ∧ (¬ a2 ≤ x5 →
  ((x3 ≤ 0 →
    Q (M 38 7) M) ∧ (¬ x3 ≤ 0 →
    (x3 ≠ 0 ∧ Con n md_X8_canBe [vR 38, vI (Int.tmod (us_r (w32 ((w32 (x4 * 1103515245)) + 12345)) 9) x3)] M (fun r1 M2 =>
      ((r1 = 0 →
      K21 x3 (w32 ((w32 (x4 * 1103515245)) + 12345)) (w32 (x5 + 1)) M2) ∧ (¬ r1 = 0 →
      Con n md_X8_put [vR 38, vI (Int.tmod (us_r (w32 ((w32 (x4 * 1103515245)) + 12345)) 9) x3)] M2 (fun _ M4 =>
        K21 x3 (w32 ((w32 (x4 * 1103515245)) + 12345)) (w32 (x5 + 1)) M4)))))))))
def B_X9_touchingDrawn (n : Nat) (a1 : Int) (a2 : Int) (M : Mem) (Q : Int → Mem → Prop) (K21 : Int → Int → Int → Mem → Prop) : Prop :=
  Con n md_X8_start [vR 38] M (fun _ M6 =>
  K21 (M6 1 3) a1 0 M6)
set_option maxHeartbeats 4000000 in
set_option maxRecDepth 20000 in
theorem g_X9_touchingDrawn {n : Nat} {a1 : Int} {a2 : Int} {M : Mem} {Q : Int → Mem → Prop}  (h : ∀ (K21 : Int → Int → Int → Mem → Prop), (∀ (x3 : Int) (x4 : Int) (x5 : Int) (M : Mem), B_X9_touchingDrawn_21 n a1 a2 x3 x4 x5 M Q K21 → K21 x3 x4 x5 M) → B_X9_touchingDrawn n a1 a2 M Q K21) : Con (n + 1) md_X9_touchingDrawn [vR 0, vI a1, vI a2] M Q := by
  refine Con.ofF (n := n + 1) (Nat.succ_pos n) pl_X9_touchingDrawn (Nat.le_of_ble_eq_true rfl) (fun X C E hnL => ?_)
  have C : Cx X cX9_touchingDrawn RX9 n := C
  show WM X 0 [(0, vR 0), (1, vI a1), (2, vI a2)] [] M
  have hb21 : ∀ (x3 : Int) (x4 : Int) (x5 : Int) (M : Mem), B_X9_touchingDrawn_21 n a1 a2 x3 x4 x5 M Q (fun (x3 : Int) (x4 : Int) (x5 : Int) (M : Mem) => WM X 21 [(0, vR 0), (1, vI a1), (2, vI a2), (3, vI x3), (4, vI x4), (5, vI x5)] [] M) → WM X 21 [(0, vR 0), (1, vI a1), (2, vI a2), (3, vI x3), (4, vI x4), (5, vI x5)] [] M := by
    intro x3 x4 x5 M h
    unfold B_X9_touchingDrawn_21 at h
    refine m_iload C 5 dX9_touchingDrawn_21 rfl ?_
    refine m_iload_n C 2 dX9_touchingDrawn_23 rfl rfl ?_
    refine m_icmp_ge C (tgt := 79) dX9_touchingDrawn_24 (by decide) (fun e => ?_) (fun e => ?_)
    · have h := h.1 e
      refine m_aload_n C 0 dX9_touchingDrawn_79 rfl rfl ?_
      refine m_getR C (k := 7) cl_X9 (by decide) so_0 rfl fl_X9_60 dX9_touchingDrawn_80 ?_
      refine m_getI C (k := 7) cl_X8 (by decide) so_38 rfl fl_X9_193 dX9_touchingDrawn_83 ?_
      exact m_iret C E (Or.inl rfl) dX9_touchingDrawn_86 h
    · have h := h.2 e
      refine m_iload_n C 3 dX9_touchingDrawn_27 rfl rfl ?_
      refine m_if_le C (tgt := 79) dX9_touchingDrawn_28 (by decide) (fun e => ?_) (fun e => ?_)
      · have h := h.1 e
        refine m_aload_n C 0 dX9_touchingDrawn_79 rfl rfl ?_
        refine m_getR C (k := 7) cl_X9 (by decide) so_0 rfl fl_X9_60 dX9_touchingDrawn_80 ?_
        refine m_getI C (k := 7) cl_X8 (by decide) so_38 rfl fl_X9_193 dX9_touchingDrawn_83 ?_
        exact m_iret C E (Or.inl rfl) dX9_touchingDrawn_86 h
      · have h := h.2 e
        refine m_iload C 4 dX9_touchingDrawn_31 rfl ?_
        refine m_ldc_w C (v := 1103515245) dX9_touchingDrawn_33 kc_X9_283 (r32_of rfl) ?_
        refine m_imul C dX9_touchingDrawn_36 ?_
        refine m_sipush C dX9_touchingDrawn_37 (r32_of rfl) (by decide) ?_
        refine m_iadd C dX9_touchingDrawn_40 ?_
        refine m_istore C (L' := [(4, vI (w32 ((w32 (x4 * 1103515245)) + 12345))), (0, vR 0), (1, vI a1), (2, vI a2), (3, vI x3), (5, vI x5)]) dX9_touchingDrawn_41 (by rw [hnL]; decide) rfl ?_
        refine m_iload C 0 dX9_touchingDrawn_43 rfl ?_
        refine m_bipush C dX9_touchingDrawn_45 (r32_of rfl) (by decide) ?_
        refine m_iushr C dX9_touchingDrawn_47 ?_
        refine m_iload_n C 4 dX9_touchingDrawn_48 rfl rfl ?_
        refine m_irem C dX9_touchingDrawn_49 h.1 ?_
        have h := h.2
        refine m_istore C (L' := [(6, vI (Int.tmod (us_r (w32 ((w32 (x4 * 1103515245)) + 12345)) 9) x3)), (4, vI (w32 ((w32 (x4 * 1103515245)) + 12345))), (0, vR 0), (1, vI a1), (2, vI a2), (3, vI x3), (5, vI x5)]) dX9_touchingDrawn_50 (by rw [hnL]; decide) rfl ?_
        refine m_aload_n C 2 dX9_touchingDrawn_52 rfl rfl ?_
        refine m_getR C (k := 7) cl_X9 (by decide) so_0 rfl fl_X9_60 dX9_touchingDrawn_53 ?_
        refine m_iload C 0 dX9_touchingDrawn_56 rfl ?_
        refine m_callVi C (as := [vI (Int.tmod (us_r (w32 ((w32 (x4 * 1103515245)) + 12345)) 9) x3)]) (rest := []) ok_X8_canBe ml_X9_152 so_38 rfl rfl rfl (Nat.le_of_ble_eq_true rfl) (fun _ => rfl) dX9_touchingDrawn_58 (Con.mono h (fun r1 M2 _ _ h => ?_))
        refine m_if_eq C (tgt := 73) dX9_touchingDrawn_61 (by decide) (fun e => ?_) (fun e => ?_)
        · have h := h.1 e
          refine m_iinc C (L' := [(5, vI (w32 (x5 + 1))), (6, vI (Int.tmod (us_r (w32 ((w32 (x4 * 1103515245)) + 12345)) 9) x3)), (4, vI (w32 ((w32 (x4 * 1103515245)) + 12345))), (0, vR 0), (1, vI a1), (2, vI a2), (3, vI x3)]) 6 dX9_touchingDrawn_73 rfl (by rw [hnL]; decide) rfl ?_
          refine m_goto C (tgt := 21) dX9_touchingDrawn_76 (by decide) ?_
          exact m_sub [3, 4, 5, 6, 2, 0] rfl h
        · have h := h.2 e
          refine m_aload_n C 2 dX9_touchingDrawn_64 rfl rfl ?_
          refine m_getR C (k := 7) cl_X9 (by decide) so_0 rfl fl_X9_60 dX9_touchingDrawn_65 ?_
          refine m_iload C 0 dX9_touchingDrawn_68 rfl ?_
          refine m_callVv C (as := [vI (Int.tmod (us_r (w32 ((w32 (x4 * 1103515245)) + 12345)) 9) x3)]) (rest := []) ok_X8_put ml_X9_213 so_38 rfl rfl rfl (Nat.le_of_ble_eq_true rfl) (fun _ => rfl) dX9_touchingDrawn_70 (Con.mono h (fun _ M4 _ _ h => ?_))
          refine m_iinc C (L' := [(5, vI (w32 (x5 + 1))), (6, vI (Int.tmod (us_r (w32 ((w32 (x4 * 1103515245)) + 12345)) 9) x3)), (4, vI (w32 ((w32 (x4 * 1103515245)) + 12345))), (0, vR 0), (1, vI a1), (2, vI a2), (3, vI x3)]) 6 dX9_touchingDrawn_73 rfl (by rw [hnL]; decide) rfl ?_
          refine m_goto C (tgt := 21) dX9_touchingDrawn_76 (by decide) ?_
          exact m_sub [3, 4, 5, 6, 2, 0] rfl h
  have h := h (fun (x3 : Int) (x4 : Int) (x5 : Int) (M : Mem) => WM X 21 [(0, vR 0), (1, vI a1), (2, vI a2), (3, vI x3), (4, vI x4), (5, vI x5)] [] M) hb21
  unfold B_X9_touchingDrawn at h
  refine m_aload_n C 0 dX9_touchingDrawn_0 rfl rfl ?_
  refine m_getR C (k := 7) cl_X9 (by decide) so_0 rfl fl_X9_60 dX9_touchingDrawn_1 ?_
  refine m_callVv C (as := []) (rest := []) ok_X8_start ml_X9_149 so_38 rfl rfl rfl (Nat.le_of_ble_eq_true rfl) (fun _ => rfl) dX9_touchingDrawn_4 (Con.mono h (fun _ M6 _ _ h => ?_))
  refine m_aload_n C 0 dX9_touchingDrawn_7 rfl rfl ?_
  refine m_getR C (k := 0) cl_X9 (by decide) so_0 rfl fl_X9_10 dX9_touchingDrawn_8 ?_
  refine m_getI C (k := 3) cl_X0 (by decide) so_1 rfl fl_X9_204 dX9_touchingDrawn_11 ?_
  refine m_istore_n C (L' := [(3, vI (M6 1 3)), (0, vR 0), (1, vI a1), (2, vI a2)]) dX9_touchingDrawn_14 rfl (by rw [hnL]; decide) rfl ?_
  refine m_iload_n C 2 dX9_touchingDrawn_15 rfl rfl ?_
  refine m_istore C (L' := [(4, vI a1), (3, vI (M6 1 3)), (0, vR 0), (1, vI a1), (2, vI a2)]) dX9_touchingDrawn_16 (by rw [hnL]; decide) rfl ?_
  refine m_iconst C dX9_touchingDrawn_18 (r32_of rfl) ?_
  refine m_istore C (L' := [(5, vI 0), (4, vI a1), (3, vI (M6 1 3)), (0, vR 0), (1, vI a1), (2, vI a2)]) dX9_touchingDrawn_19 (by rw [hnL]; decide) rfl ?_
  exact m_sub [3, 4, 5, 2, 1, 0] rfl h
def B_X9_chance_57 (n : Nat) (a1 : Int) (a2 : Int) (a3 : Int) (a4 : Int) (x5 : Int) (x6 : Int) (M : Mem) (Q : Int → Mem → Prop) (K57 : Int → Int → Mem → Prop) : Prop :=
  ((a2 ≤ x6 →
  Con n md_X9_commonDivisor [vI x5, vI a2] M (fun r1 M2 =>
    ((r1 = 0 →
    Q (-4611686018427387904) M2) ∧ (¬ r1 = 0 →
    ((a4 = 0 →
      (r1 ≠ 0 ∧ Q (w32 (Int.tdiv x5 r1)) M2)) ∧ (¬ a4 = 0 →
      (r1 ≠ 0 ∧ Q (w32 (Int.tdiv a2 r1)) M2))))))) ∧ (¬ a2 ≤ x6 →
  Con n md_X9_touchingDrawn [vR 0, vI (w32 (a1 + x6)), vI 20] M (fun r3 M4 =>
    ((a3 < r3 →
    K57 x5 (w32 (x6 + 1)) M4) ∧ (¬ a3 < r3 →
    K57 (w32 (x5 + 1)) (w32 (x6 + 1)) M4)))))
def B_X9_chance (n : Nat) (a1 : Int) (a2 : Int) (a3 : Int) (a4 : Int) (M : Mem) (Q : Int → Mem → Prop) (K57 : Int → Int → Mem → Prop) : Prop :=
  ((a2 < 1 →
  Q (-4611686018427387904) M) ∧ (¬ a2 < 1 →
  ((20 < a2 →
    Q (-4611686018427387904) M) ∧ (¬ 20 < a2 →
    ((a3 < 0 →
      Q (-4611686018427387904) M) ∧ (¬ a3 < 0 →
      ((999 < a3 →
        Q (-4611686018427387904) M) ∧ (¬ 999 < a3 →
        ((a4 < 0 →
          Q (-4611686018427387904) M) ∧ (¬ a4 < 0 →
          ((a4 ≤ 1 →
            (((M 1 3) = 0 →
              Q (-4611686018427387904) M) ∧ (¬ (M 1 3) = 0 →
              K57 0 0 M))) ∧ (¬ a4 ≤ 1 →
            Q (-4611686018427387904) M))))))))))))
set_option maxHeartbeats 4000000 in
set_option maxRecDepth 20000 in
theorem g_X9_chance {n : Nat} {a1 : Int} {a2 : Int} {a3 : Int} {a4 : Int} {M : Mem} {Q : Int → Mem → Prop}  (h : ∀ (K57 : Int → Int → Mem → Prop), (∀ (x5 : Int) (x6 : Int) (M : Mem), B_X9_chance_57 n a1 a2 a3 a4 x5 x6 M Q K57 → K57 x5 x6 M) → B_X9_chance n a1 a2 a3 a4 M Q K57) : Con (n + 1) md_X9_chance [vR 0, vI a1, vI a2, vI a3, vI a4] M Q := by
  refine Con.ofF (n := n + 1) (Nat.succ_pos n) pl_X9_chance (Nat.le_of_ble_eq_true rfl) (fun X C E hnL => ?_)
  have C : Cx X cX9_chance RX9 n := C
  show WM X 0 [(0, vR 0), (1, vI a1), (2, vI a2), (3, vI a3), (4, vI a4)] [] M
  have hb57 : ∀ (x5 : Int) (x6 : Int) (M : Mem), B_X9_chance_57 n a1 a2 a3 a4 x5 x6 M Q (fun (x5 : Int) (x6 : Int) (M : Mem) => WM X 57 [(0, vR 0), (1, vI a1), (2, vI a2), (3, vI a3), (4, vI a4), (5, vI x5), (6, vI x6)] [] M) → WM X 57 [(0, vR 0), (1, vI a1), (2, vI a2), (3, vI a3), (4, vI a4), (5, vI x5), (6, vI x6)] [] M := by
    intro x5 x6 M h
    unfold B_X9_chance_57 at h
    refine m_iload C 6 dX9_chance_57 rfl ?_
    refine m_iload_n C 2 dX9_chance_59 rfl rfl ?_
    refine m_icmp_ge C (tgt := 86) dX9_chance_60 (by decide) (fun e => ?_) (fun e => ?_)
    · have h := h.1 e
      refine m_iload C 5 dX9_chance_86 rfl ?_
      refine m_iload_n C 2 dX9_chance_88 rfl rfl ?_
      refine m_callSi C (as := [vI x5, vI a2]) (rest := []) ok_X9_commonDivisor ml_X9_286 rfl rfl (Nat.le_of_ble_eq_true rfl) (fun _ => rfl) dX9_chance_89 (Con.mono h (fun r1 M2 _ _ h => ?_))
      refine m_istore C (L' := [(6, vI r1), (0, vR 0), (1, vI a1), (2, vI a2), (3, vI a3), (4, vI a4), (5, vI x5)]) dX9_chance_92 (by rw [hnL]; decide) rfl ?_
      refine m_iload C 0 dX9_chance_94 rfl ?_
      refine m_if_ne C (tgt := 103) dX9_chance_96 (by decide) (fun e => ?_) (fun e => ?_)
      · have h := h.2 e
        refine m_iload C 5 dX9_chance_103 rfl ?_
        refine m_if_ne C (tgt := 117) dX9_chance_105 (by decide) (fun e => ?_) (fun e => ?_)
        · have h := h.2 e
          refine m_iload_n C 3 dX9_chance_117 rfl rfl ?_
          refine m_iload C 0 dX9_chance_118 rfl ?_
          refine m_idiv C dX9_chance_120 h.1 ?_
          have h := h.2
          refine m_i2l C dX9_chance_121 ?_
          exact m_lret C E dX9_chance_122 h
        · have h := h.1 e
          refine m_iload C 6 dX9_chance_108 rfl ?_
          refine m_iload C 0 dX9_chance_110 rfl ?_
          refine m_idiv C dX9_chance_112 h.1 ?_
          have h := h.2
          refine m_i2l C dX9_chance_113 ?_
          refine m_goto C (tgt := 122) dX9_chance_114 (by decide) ?_
          exact m_lret C E dX9_chance_122 h
      · have h := h.1 e
        refine m_ldc2 C (v := (-4611686018427387904)) dX9_chance_99 kc_X9_284 (r64_of rfl) ?_
        exact m_lret C E dX9_chance_102 h
    · have h := h.2 e
      refine m_aload_n C 0 dX9_chance_63 rfl rfl ?_
      refine m_iload_n C 1 dX9_chance_64 rfl rfl ?_
      refine m_iload C 6 dX9_chance_65 rfl ?_
      refine m_iadd C dX9_chance_67 ?_
      refine m_bipush C dX9_chance_68 (r32_of rfl) (by decide) ?_
      refine m_callVi C (as := [vI (w32 (a1 + x6)), vI 20]) (rest := []) ok_X9_touchingDrawn ml_X9_280 so_0 rfl rfl rfl (Nat.le_of_ble_eq_true rfl) (fun _ => rfl) dX9_chance_70 (Con.mono h (fun r3 M4 _ _ h => ?_))
      refine m_iload_n C 3 dX9_chance_73 rfl rfl ?_
      refine m_icmp_gt C (tgt := 80) dX9_chance_74 (by decide) (fun e => ?_) (fun e => ?_)
      · have h := h.1 e
        refine m_iinc C (L' := [(6, vI (w32 (x6 + 1))), (0, vR 0), (1, vI a1), (2, vI a2), (3, vI a3), (4, vI a4), (5, vI x5)]) 6 dX9_chance_80 rfl (by rw [hnL]; decide) rfl ?_
        refine m_goto C (tgt := 57) dX9_chance_83 (by decide) ?_
        exact m_sub [1, 2, 3, 4, 5, 6, 0] rfl h
      · have h := h.2 e
        refine m_iinc C (L' := [(5, vI (w32 (x5 + 1))), (0, vR 0), (1, vI a1), (2, vI a2), (3, vI a3), (4, vI a4), (6, vI x6)]) 5 dX9_chance_77 rfl (by rw [hnL]; decide) rfl ?_
        refine m_iinc C (L' := [(6, vI (w32 (x6 + 1))), (5, vI (w32 (x5 + 1))), (0, vR 0), (1, vI a1), (2, vI a2), (3, vI a3), (4, vI a4)]) 6 dX9_chance_80 rfl (by rw [hnL]; decide) rfl ?_
        refine m_goto C (tgt := 57) dX9_chance_83 (by decide) ?_
        exact m_sub [2, 3, 4, 5, 6, 1, 0] rfl h
  have h := h (fun (x5 : Int) (x6 : Int) (M : Mem) => WM X 57 [(0, vR 0), (1, vI a1), (2, vI a2), (3, vI a3), (4, vI a4), (5, vI x5), (6, vI x6)] [] M) hb57
  unfold B_X9_chance at h
  refine m_iload_n C 2 dX9_chance_0 rfl rfl ?_
  refine m_iconst C dX9_chance_1 (r32_of rfl) ?_
  refine m_icmp_lt C (tgt := 33) dX9_chance_2 (by decide) (fun e => ?_) (fun e => ?_)
  · have h := h.1 e
    refine m_ldc2 C (v := (-4611686018427387904)) dX9_chance_33 kc_X9_284 (r64_of rfl) ?_
    exact m_lret C E dX9_chance_36 h
  · have h := h.2 e
    refine m_iload_n C 2 dX9_chance_5 rfl rfl ?_
    refine m_bipush C dX9_chance_6 (r32_of rfl) (by decide) ?_
    refine m_icmp_gt C (tgt := 33) dX9_chance_8 (by decide) (fun e => ?_) (fun e => ?_)
    · have h := h.1 e
      refine m_ldc2 C (v := (-4611686018427387904)) dX9_chance_33 kc_X9_284 (r64_of rfl) ?_
      exact m_lret C E dX9_chance_36 h
    · have h := h.2 e
      refine m_iload_n C 3 dX9_chance_11 rfl rfl ?_
      refine m_if_lt C (tgt := 33) dX9_chance_12 (by decide) (fun e => ?_) (fun e => ?_)
      · have h := h.1 e
        refine m_ldc2 C (v := (-4611686018427387904)) dX9_chance_33 kc_X9_284 (r64_of rfl) ?_
        exact m_lret C E dX9_chance_36 h
      · have h := h.2 e
        refine m_iload_n C 3 dX9_chance_15 rfl rfl ?_
        refine m_sipush C dX9_chance_16 (r32_of rfl) (by decide) ?_
        refine m_icmp_gt C (tgt := 33) dX9_chance_19 (by decide) (fun e => ?_) (fun e => ?_)
        · have h := h.1 e
          refine m_ldc2 C (v := (-4611686018427387904)) dX9_chance_33 kc_X9_284 (r64_of rfl) ?_
          exact m_lret C E dX9_chance_36 h
        · have h := h.2 e
          refine m_iload C 4 dX9_chance_22 rfl ?_
          refine m_if_lt C (tgt := 33) dX9_chance_24 (by decide) (fun e => ?_) (fun e => ?_)
          · have h := h.1 e
            refine m_ldc2 C (v := (-4611686018427387904)) dX9_chance_33 kc_X9_284 (r64_of rfl) ?_
            exact m_lret C E dX9_chance_36 h
          · have h := h.2 e
            refine m_iload C 4 dX9_chance_27 rfl ?_
            refine m_iconst C dX9_chance_29 (r32_of rfl) ?_
            refine m_icmp_le C (tgt := 37) dX9_chance_30 (by decide) (fun e => ?_) (fun e => ?_)
            · have h := h.1 e
              refine m_aload_n C 0 dX9_chance_37 rfl rfl ?_
              refine m_getR C (k := 0) cl_X9 (by decide) so_0 rfl fl_X9_10 dX9_chance_38 ?_
              refine m_getI C (k := 3) cl_X0 (by decide) so_1 rfl fl_X9_204 dX9_chance_41 ?_
              refine m_if_ne C (tgt := 51) dX9_chance_44 (by decide) (fun e => ?_) (fun e => ?_)
              · have h := h.2 e
                refine m_iconst C dX9_chance_51 (r32_of rfl) ?_
                refine m_istore C (L' := [(5, vI 0), (0, vR 0), (1, vI a1), (2, vI a2), (3, vI a3), (4, vI a4)]) dX9_chance_52 (by rw [hnL]; decide) rfl ?_
                refine m_iconst C dX9_chance_54 (r32_of rfl) ?_
                refine m_istore C (L' := [(6, vI 0), (5, vI 0), (0, vR 0), (1, vI a1), (2, vI a2), (3, vI a3), (4, vI a4)]) dX9_chance_55 (by rw [hnL]; decide) rfl ?_
                exact m_sub [2, 3, 4, 5, 6, 1, 0] rfl h
              · have h := h.1 e
                refine m_ldc2 C (v := (-4611686018427387904)) dX9_chance_47 kc_X9_284 (r64_of rfl) ?_
                exact m_lret C E dX9_chance_50 h
            · have h := h.2 e
              refine m_ldc2 C (v := (-4611686018427387904)) dX9_chance_33 kc_X9_284 (r64_of rfl) ?_
              exact m_lret C E dX9_chance_36 h
def B_X9_commonDivisor_2 (n : Nat) (a1 : Int) (a2 : Int) (x2 : Int) (M : Mem) (Q : Int → Mem → Prop) (K2 : Int → Mem → Prop) : Prop :=
  ((x2 ≤ 1 →
  Q 1 M) ∧ (¬ x2 ≤ 1 →
  (x2 ≠ 0 ∧ (((Int.tmod a1 x2) = 0 →
    (x2 ≠ 0 ∧ (((Int.tmod a2 x2) = 0 →
      Q x2 M) ∧ (¬ (Int.tmod a2 x2) = 0 →
      K2 (w32 (x2 + (-1))) M)))) ∧ (¬ (Int.tmod a1 x2) = 0 →
    K2 (w32 (x2 + (-1))) M)))))
def B_X9_commonDivisor (n : Nat) (a1 : Int) (a2 : Int) (M : Mem) (Q : Int → Mem → Prop) (K2 : Int → Mem → Prop) : Prop :=
  K2 a2 M
set_option maxHeartbeats 4000000 in
set_option maxRecDepth 20000 in
theorem g_X9_commonDivisor {n : Nat} {a1 : Int} {a2 : Int} {M : Mem} {Q : Int → Mem → Prop}  (h : ∀ (K2 : Int → Mem → Prop), (∀ (x2 : Int) (M : Mem), B_X9_commonDivisor_2 n a1 a2 x2 M Q K2 → K2 x2 M) → B_X9_commonDivisor n a1 a2 M Q K2) : Con (n + 1) md_X9_commonDivisor [vI a1, vI a2] M Q := by
  refine Con.ofF (n := n + 1) (Nat.succ_pos n) pl_X9_commonDivisor (Nat.le_of_ble_eq_true rfl) (fun X C E hnL => ?_)
  have C : Cx X cX9_commonDivisor RX9 n := C
  show WM X 0 [(0, vI a1), (1, vI a2)] [] M
  have hb2 : ∀ (x2 : Int) (M : Mem), B_X9_commonDivisor_2 n a1 a2 x2 M Q (fun (x2 : Int) (M : Mem) => WM X 2 [(0, vI a1), (1, vI a2), (2, vI x2)] [] M) → WM X 2 [(0, vI a1), (1, vI a2), (2, vI x2)] [] M := by
    intro x2 M h
    unfold B_X9_commonDivisor_2 at h
    refine m_iload_n C 2 dX9_commonDivisor_2 rfl rfl ?_
    refine m_iconst C dX9_commonDivisor_3 (r32_of rfl) ?_
    refine m_icmp_le C (tgt := 27) dX9_commonDivisor_4 (by decide) (fun e => ?_) (fun e => ?_)
    · have h := h.1 e
      refine m_iconst C dX9_commonDivisor_27 (r32_of rfl) ?_
      exact m_iret C E (Or.inl rfl) dX9_commonDivisor_28 h
    · have h := h.2 e
      refine m_iload_n C 0 dX9_commonDivisor_7 rfl rfl ?_
      refine m_iload_n C 2 dX9_commonDivisor_8 rfl rfl ?_
      refine m_irem C dX9_commonDivisor_9 h.1 ?_
      have h := h.2
      refine m_if_ne C (tgt := 21) dX9_commonDivisor_10 (by decide) (fun e => ?_) (fun e => ?_)
      · have h := h.2 e
        refine m_iinc C (L' := [(2, vI (w32 (x2 + (-1)))), (0, vI a1), (1, vI a2)]) 2 dX9_commonDivisor_21 rfl (by rw [hnL]; decide) rfl ?_
        refine m_goto C (tgt := 2) dX9_commonDivisor_24 (by decide) ?_
        exact m_sub [1, 2, 0] rfl h
      · have h := h.1 e
        refine m_iload_n C 1 dX9_commonDivisor_13 rfl rfl ?_
        refine m_iload_n C 2 dX9_commonDivisor_14 rfl rfl ?_
        refine m_irem C dX9_commonDivisor_15 h.1 ?_
        have h := h.2
        refine m_if_ne C (tgt := 21) dX9_commonDivisor_16 (by decide) (fun e => ?_) (fun e => ?_)
        · have h := h.2 e
          refine m_iinc C (L' := [(2, vI (w32 (x2 + (-1)))), (0, vI a1), (1, vI a2)]) 2 dX9_commonDivisor_21 rfl (by rw [hnL]; decide) rfl ?_
          refine m_goto C (tgt := 2) dX9_commonDivisor_24 (by decide) ?_
          exact m_sub [1, 2, 0] rfl h
        · have h := h.1 e
          refine m_iload_n C 2 dX9_commonDivisor_19 rfl rfl ?_
          exact m_iret C E (Or.inl rfl) dX9_commonDivisor_20 h
  have h := h (fun (x2 : Int) (M : Mem) => WM X 2 [(0, vI a1), (1, vI a2), (2, vI x2)] [] M) hb2
  unfold B_X9_commonDivisor at h
  refine m_iload_n C 1 dX9_commonDivisor_0 rfl rfl ?_
  refine m_istore_n C (L' := [(2, vI a2), (0, vI a1), (1, vI a2)]) dX9_commonDivisor_1 rfl (by rw [hnL]; decide) rfl ?_
  exact m_sub [1, 2, 0] rfl h
def B_X9_image (n : Nat)  (M : Mem) (Q : Int → Mem → Prop)  : Prop :=
  Con n md_X0_become [vR 8, vR 1] M (fun _ M2 =>
  (∀ M3 : Mem, M3 = up M2 0 2 1 →
  Q (M3 1 3) M3))
set_option maxHeartbeats 4000000 in
set_option maxRecDepth 20000 in
theorem g_X9_image {n : Nat}  {M : Mem} {Q : Int → Mem → Prop}  (h : B_X9_image n  M Q) : Con (n + 1) md_X9_image [vR 0] M Q := by
  refine Con.ofF (n := n + 1) (Nat.succ_pos n) pl_X9_image (Nat.le_of_ble_eq_true rfl) (fun X C E hnL => ?_)
  have C : Cx X cX9_image RX9 n := C
  show WM X 0 [(0, vR 0)] [] M
  unfold B_X9_image at h
  refine m_aload_n C 0 dX9_image_0 rfl rfl ?_
  refine m_getR C (k := 1) cl_X9 (by decide) so_0 rfl fl_X9_16 dX9_image_1 ?_
  refine m_aload_n C 0 dX9_image_4 rfl rfl ?_
  refine m_getR C (k := 0) cl_X9 (by decide) so_0 rfl fl_X9_10 dX9_image_5 ?_
  refine m_callVv C (as := [vR 1]) (rest := []) ok_X0_become ml_X9_289 so_8 rfl rfl rfl (Nat.le_of_ble_eq_true rfl) (fun _ => rfl) dX9_image_8 (Con.mono h (fun _ M2 _ _ h => ?_))
  refine m_aload_n C 0 dX9_image_11 rfl rfl ?_
  refine m_iconst C dX9_image_12 (r32_of rfl) ?_
  refine m_putZ C (k := 2) cl_X9 (by decide) so_0 rfl rfl rfl (Or.inr rfl) fl_X9_19 dX9_image_13 ?_
  generalize eM3 : up M2 0 2 1 = M3
  have h := h M3 eM3.symm
  refine m_aload_n C 0 dX9_image_16 rfl rfl ?_
  refine m_getR C (k := 0) cl_X9 (by decide) so_0 rfl fl_X9_10 dX9_image_17 ?_
  refine m_getI C (k := 3) cl_X0 (by decide) so_1 rfl fl_X9_204 dX9_image_20 ?_
  exact m_iret C E (Or.inl rfl) dX9_image_23 h
def B_X9_back (n : Nat)  (M : Mem) (Q : Int → Mem → Prop)  : Prop :=
  (((M 0 2) = 0 →
  Q (-3) M) ∧ (¬ (M 0 2) = 0 →
  Con n md_X0_become [vR 1, vR 8] M (fun _ M2 =>
    Q (M2 1 3) M2)))
set_option maxHeartbeats 4000000 in
set_option maxRecDepth 20000 in
theorem g_X9_back {n : Nat}  {M : Mem} {Q : Int → Mem → Prop}  (h : B_X9_back n  M Q) : Con (n + 1) md_X9_back [vR 0] M Q := by
  refine Con.ofF (n := n + 1) (Nat.succ_pos n) pl_X9_back (Nat.le_of_ble_eq_true rfl) (fun X C E hnL => ?_)
  have C : Cx X cX9_back RX9 n := C
  show WM X 0 [(0, vR 0)] [] M
  unfold B_X9_back at h
  refine m_aload_n C 0 dX9_back_0 rfl rfl ?_
  refine m_getZ C (k := 2) cl_X9 (by decide) so_0 rfl fl_X9_19 dX9_back_1 ?_
  refine m_if_ne C (tgt := 10) dX9_back_4 (by decide) (fun e => ?_) (fun e => ?_)
  · have h := h.2 e
    refine m_aload_n C 0 dX9_back_10 rfl rfl ?_
    refine m_getR C (k := 0) cl_X9 (by decide) so_0 rfl fl_X9_10 dX9_back_11 ?_
    refine m_aload_n C 0 dX9_back_14 rfl rfl ?_
    refine m_getR C (k := 1) cl_X9 (by decide) so_0 rfl fl_X9_16 dX9_back_15 ?_
    refine m_callVv C (as := [vR 8]) (rest := []) ok_X0_become ml_X9_289 so_1 rfl rfl rfl (Nat.le_of_ble_eq_true rfl) (fun _ => rfl) dX9_back_18 (Con.mono h (fun _ M2 _ _ h => ?_))
    refine m_aload_n C 0 dX9_back_21 rfl rfl ?_
    refine m_getR C (k := 0) cl_X9 (by decide) so_0 rfl fl_X9_10 dX9_back_22 ?_
    refine m_getI C (k := 3) cl_X0 (by decide) so_1 rfl fl_X9_204 dX9_back_25 ?_
    exact m_iret C E (Or.inl rfl) dX9_back_28 h
  · have h := h.1 e
    refine m_bipush C dX9_back_7 (r32_of rfl) (by decide) ?_
    exact m_iret C E (Or.inl rfl) dX9_back_9 h
def B_X9_count (n : Nat) (a1 : Int) (M : Mem) (Q : Int → Mem → Prop)  : Prop :=
  (((a1 < 0 ∨ 5 < a1) →
  Q (-2) M) ∧ ((a1 = 0) →
  Q (M 1 3) M) ∧ ((a1 = 1) →
  Q (M 1 8) M) ∧ ((a1 = 2) →
  Con n md_X0_inAllBuckets [vR 1] M (fun r1 M2 =>
    Q r1 M2)) ∧ ((a1 = 3) →
  Q (M 17 0) M) ∧ ((a1 = 4) →
  Q (M 15 1) M) ∧ ((a1 = 5) →
  Q (M 1 2) M))
set_option maxHeartbeats 4000000 in
set_option maxRecDepth 20000 in
theorem g_X9_count {n : Nat} {a1 : Int} {M : Mem} {Q : Int → Mem → Prop}  (h : B_X9_count n a1 M Q) : Con (n + 1) md_X9_count [vR 0, vI a1] M Q := by
  refine Con.ofF (n := n + 1) (Nat.succ_pos n) pl_X9_count (Nat.le_of_ble_eq_true rfl) (fun X C E hnL => ?_)
  have C : Cx X cX9_count RX9 n := C
  show WM X 0 [(0, vR 0), (1, vI a1)] [] M
  unfold B_X9_count at h
  refine m_iload_n C 1 dX9_count_0 rfl rfl ?_
  by_cases ho : a1 < 0 ∨ 5 < a1
  · have h := h.1 (by omega)
    refine m_tabO C (tgt := 88) dX9_count_1 ho (by decide) ?_
    refine m_bipush C dX9_count_88 (r32_of rfl) (by decide) ?_
    exact m_iret C E (Or.inl rfl) dX9_count_90 h
  · obtain hx | hx | hx | hx | hx | hx : a1 = 0 ∨ a1 = 1 ∨ a1 = 2 ∨ a1 = 3 ∨ a1 = 4 ∨ a1 = 5 := by omega
    · have h := h.2.1 (by omega)
      refine m_tabI C (tgt := 40) dX9_count_1 (by omega) (by omega) (by rw [hx]; rfl) (by decide) ?_
      refine m_aload_n C 0 dX9_count_40 rfl rfl ?_
      refine m_getR C (k := 0) cl_X9 (by decide) so_0 rfl fl_X9_10 dX9_count_41 ?_
      refine m_getI C (k := 3) cl_X0 (by decide) so_1 rfl fl_X9_204 dX9_count_44 ?_
      exact m_iret C E (Or.inl rfl) dX9_count_47 h
    · have h := h.2.2.1 (by omega)
      refine m_tabI C (tgt := 48) dX9_count_1 (by omega) (by omega) (by rw [hx]; rfl) (by decide) ?_
      refine m_aload_n C 0 dX9_count_48 rfl rfl ?_
      refine m_getR C (k := 0) cl_X9 (by decide) so_0 rfl fl_X9_10 dX9_count_49 ?_
      refine m_getI C (k := 8) cl_X0 (by decide) so_1 rfl fl_X9_248 dX9_count_52 ?_
      exact m_iret C E (Or.inl rfl) dX9_count_55 h
    · have h := h.2.2.2.1 (by omega)
      refine m_tabI C (tgt := 56) dX9_count_1 (by omega) (by omega) (by rw [hx]; rfl) (by decide) ?_
      refine m_aload_n C 0 dX9_count_56 rfl rfl ?_
      refine m_getR C (k := 0) cl_X9 (by decide) so_0 rfl fl_X9_10 dX9_count_57 ?_
      refine m_callVi C (as := []) (rest := []) ok_X0_inAllBuckets ml_X9_292 so_1 rfl rfl rfl (Nat.le_of_ble_eq_true rfl) (fun _ => rfl) dX9_count_60 (Con.mono h (fun r1 M2 _ _ h => ?_))
      exact m_iret C E (Or.inl rfl) dX9_count_63 h
    · have h := h.2.2.2.2.1 (by omega)
      refine m_tabI C (tgt := 64) dX9_count_1 (by omega) (by omega) (by rw [hx]; rfl) (by decide) ?_
      refine m_aload_n C 0 dX9_count_64 rfl rfl ?_
      refine m_getR C (k := 4) cl_X9 (by decide) so_0 rfl fl_X9_33 dX9_count_65 ?_
      refine m_getI C (k := 0) cl_X7 (by decide) so_17 rfl fl_X9_270 dX9_count_68 ?_
      exact m_iret C E (Or.inl rfl) dX9_count_71 h
    · have h := h.2.2.2.2.2.1 (by omega)
      refine m_tabI C (tgt := 72) dX9_count_1 (by omega) (by omega) (by rw [hx]; rfl) (by decide) ?_
      refine m_aload_n C 0 dX9_count_72 rfl rfl ?_
      refine m_getR C (k := 3) cl_X9 (by decide) so_0 rfl fl_X9_26 dX9_count_73 ?_
      refine m_getI C (k := 1) cl_X6 (by decide) so_15 rfl fl_X9_123 dX9_count_76 ?_
      exact m_iret C E (Or.inl rfl) dX9_count_79 h
    · have h := h.2.2.2.2.2.2 (by omega)
      refine m_tabI C (tgt := 80) dX9_count_1 (by omega) (by omega) (by rw [hx]; rfl) (by decide) ?_
      refine m_aload_n C 0 dX9_count_80 rfl rfl ?_
      refine m_getR C (k := 0) cl_X9 (by decide) so_0 rfl fl_X9_10 dX9_count_81 ?_
      refine m_getI C (k := 2) cl_X0 (by decide) so_1 rfl fl_X9_143 dX9_count_84 ?_
      exact m_iret C E (Or.inl rfl) dX9_count_87 h
def B_X9_sheet (n : Nat) (a1 : Int) (a2 : Int) (a3 : Int) (M : Mem) (Q : Int → Mem → Prop)  : Prop :=
  Con n md_X5_isNumber [vI a1] M (fun r1 M2 =>
  ((r1 = 0 →
  Q (-2) M2) ∧ (¬ r1 = 0 →
  ((a2 = (-1) →
    Con n md_X5_become [vR 43, vI a1, vI a2, vI 0] M2 (fun _ M8 =>
      Q 1 M8)) ∧ (¬ a2 = (-1) →
    Con n md_X5_isSort [vI a2] M2 (fun r3 M4 =>
      ((r3 = 0 →
      Q (-2) M4) ∧ (¬ r3 = 0 →
      ((a3 ≤ 40 →
        ((0 ≤ a3 →
          Con n md_X5_become [vR 43, vI a1, vI a2, vI a3] M4 (fun _ M6 =>
            Q 1 M6)) ∧ (¬ 0 ≤ a3 →
          Q (-14) M4))) ∧ (¬ a3 ≤ 40 →
        Q (-2) M4))))))))))
set_option maxHeartbeats 4000000 in
set_option maxRecDepth 20000 in
theorem g_X9_sheet {n : Nat} {a1 : Int} {a2 : Int} {a3 : Int} {M : Mem} {Q : Int → Mem → Prop}  (h : B_X9_sheet n a1 a2 a3 M Q) : Con (n + 1) md_X9_sheet [vR 0, vI a1, vI a2, vI a3] M Q := by
  refine Con.ofF (n := n + 1) (Nat.succ_pos n) pl_X9_sheet (Nat.le_of_ble_eq_true rfl) (fun X C E hnL => ?_)
  have C : Cx X cX9_sheet RX9 n := C
  show WM X 0 [(0, vR 0), (1, vI a1), (2, vI a2), (3, vI a3)] [] M
  unfold B_X9_sheet at h
  refine m_iload_n C 1 dX9_sheet_0 rfl rfl ?_
  refine m_callSi C (as := [vI a1]) (rest := []) ok_X5_isNumber ml_X9_217 rfl rfl (Nat.le_of_ble_eq_true rfl) (fun _ => rfl) dX9_sheet_1 (Con.mono h (fun r1 M2 _ _ h => ?_))
  refine m_if_ne C (tgt := 10) dX9_sheet_4 (by decide) (fun e => ?_) (fun e => ?_)
  · have h := h.2 e
    refine m_iload_n C 2 dX9_sheet_10 rfl rfl ?_
    refine m_iconst C dX9_sheet_11 (r32_of rfl) ?_
    refine m_icmp_ne C (tgt := 27) dX9_sheet_12 (by decide) (fun e => ?_) (fun e => ?_)
    · have h := h.2 e
      refine m_iload_n C 2 dX9_sheet_27 rfl rfl ?_
      refine m_callSi C (as := [vI a2]) (rest := []) ok_X5_isSort ml_X9_295 rfl rfl (Nat.le_of_ble_eq_true rfl) (fun _ => rfl) dX9_sheet_28 (Con.mono h (fun r3 M4 _ _ h => ?_))
      refine m_if_eq C (tgt := 40) dX9_sheet_31 (by decide) (fun e => ?_) (fun e => ?_)
      · have h := h.1 e
        refine m_bipush C dX9_sheet_40 (r32_of rfl) (by decide) ?_
        exact m_iret C E (Or.inl rfl) dX9_sheet_42 h
      · have h := h.2 e
        refine m_iload_n C 3 dX9_sheet_34 rfl rfl ?_
        refine m_bipush C dX9_sheet_35 (r32_of rfl) (by decide) ?_
        refine m_icmp_le C (tgt := 43) dX9_sheet_37 (by decide) (fun e => ?_) (fun e => ?_)
        · have h := h.1 e
          refine m_iload_n C 3 dX9_sheet_43 rfl rfl ?_
          refine m_if_ge C (tgt := 50) dX9_sheet_44 (by decide) (fun e => ?_) (fun e => ?_)
          · have h := h.1 e
            refine m_aload_n C 0 dX9_sheet_50 rfl rfl ?_
            refine m_getR C (k := 9) cl_X9 (by decide) so_0 rfl fl_X9_76 dX9_sheet_51 ?_
            refine m_iload_n C 1 dX9_sheet_54 rfl rfl ?_
            refine m_iload_n C 2 dX9_sheet_55 rfl rfl ?_
            refine m_iload_n C 3 dX9_sheet_56 rfl rfl ?_
            refine m_callVv C (as := [vI a1, vI a2, vI a3]) (rest := []) ok_X5_become ml_X9_274 so_43 rfl rfl rfl (Nat.le_of_ble_eq_true rfl) (fun _ => rfl) dX9_sheet_57 (Con.mono h (fun _ M6 _ _ h => ?_))
            refine m_iconst C dX9_sheet_60 (r32_of rfl) ?_
            exact m_iret C E (Or.inl rfl) dX9_sheet_61 h
          · have h := h.2 e
            refine m_bipush C dX9_sheet_47 (r32_of rfl) (by decide) ?_
            exact m_iret C E (Or.inl rfl) dX9_sheet_49 h
        · have h := h.2 e
          refine m_bipush C dX9_sheet_40 (r32_of rfl) (by decide) ?_
          exact m_iret C E (Or.inl rfl) dX9_sheet_42 h
    · have h := h.1 e
      refine m_aload_n C 0 dX9_sheet_15 rfl rfl ?_
      refine m_getR C (k := 9) cl_X9 (by decide) so_0 rfl fl_X9_76 dX9_sheet_16 ?_
      refine m_iload_n C 1 dX9_sheet_19 rfl rfl ?_
      refine m_iload_n C 2 dX9_sheet_20 rfl rfl ?_
      refine m_iconst C dX9_sheet_21 (r32_of rfl) ?_
      refine m_callVv C (as := [vI a1, vI a2, vI 0]) (rest := []) ok_X5_become ml_X9_274 so_43 rfl rfl rfl (Nat.le_of_ble_eq_true rfl) (fun _ => rfl) dX9_sheet_22 (Con.mono h (fun _ M8 _ _ h => ?_))
      refine m_iconst C dX9_sheet_25 (r32_of rfl) ?_
      exact m_iret C E (Or.inl rfl) dX9_sheet_26 h
  · have h := h.1 e
    refine m_bipush C dX9_sheet_7 (r32_of rfl) (by decide) ?_
    exact m_iret C E (Or.inl rfl) dX9_sheet_9 h
def B_X9_cell (n : Nat) (a1 : Int) (a2 : Int) (a3 : Int) (M : Mem) (Q : Int → Mem → Prop)  : Prop :=
  Con n md_X5_isNumber [vI a1] M (fun r1 M2 =>
  ((r1 = 0 →
  Q (-2) M2) ∧ (¬ r1 = 0 →
  Con n md_X5_isMissing [vR 43, vI a1] M2 (fun r3 M4 =>
    ((r3 = 0 →
    Con n md_X5_hasItem [vR 43, vI a1, vI a2] M4 (fun r5 M6 =>
      ((r5 = 0 →
      Q (-12) M6) ∧ (¬ r5 = 0 →
      Con n md_X5_write [vR 43, vI a1, vI a2, vI a3] M6 (fun _ M8 =>
        Q 1 M8))))) ∧ (¬ r3 = 0 →
    Q (-11) M4))))))
set_option maxHeartbeats 4000000 in
set_option maxRecDepth 20000 in
theorem g_X9_cell {n : Nat} {a1 : Int} {a2 : Int} {a3 : Int} {M : Mem} {Q : Int → Mem → Prop}  (h : B_X9_cell n a1 a2 a3 M Q) : Con (n + 1) md_X9_cell [vR 0, vI a1, vI a2, vI a3] M Q := by
  refine Con.ofF (n := n + 1) (Nat.succ_pos n) pl_X9_cell (Nat.le_of_ble_eq_true rfl) (fun X C E hnL => ?_)
  have C : Cx X cX9_cell RX9 n := C
  show WM X 0 [(0, vR 0), (1, vI a1), (2, vI a2), (3, vI a3)] [] M
  unfold B_X9_cell at h
  refine m_iload_n C 1 dX9_cell_0 rfl rfl ?_
  refine m_callSi C (as := [vI a1]) (rest := []) ok_X5_isNumber ml_X9_217 rfl rfl (Nat.le_of_ble_eq_true rfl) (fun _ => rfl) dX9_cell_1 (Con.mono h (fun r1 M2 _ _ h => ?_))
  refine m_if_ne C (tgt := 10) dX9_cell_4 (by decide) (fun e => ?_) (fun e => ?_)
  · have h := h.2 e
    refine m_aload_n C 0 dX9_cell_10 rfl rfl ?_
    refine m_getR C (k := 9) cl_X9 (by decide) so_0 rfl fl_X9_76 dX9_cell_11 ?_
    refine m_iload_n C 1 dX9_cell_14 rfl rfl ?_
    refine m_callVi C (as := [vI a1]) (rest := []) ok_X5_isMissing ml_X9_220 so_43 rfl rfl rfl (Nat.le_of_ble_eq_true rfl) (fun _ => rfl) dX9_cell_15 (Con.mono h (fun r3 M4 _ _ h => ?_))
    refine m_if_eq C (tgt := 24) dX9_cell_18 (by decide) (fun e => ?_) (fun e => ?_)
    · have h := h.1 e
      refine m_aload_n C 0 dX9_cell_24 rfl rfl ?_
      refine m_getR C (k := 9) cl_X9 (by decide) so_0 rfl fl_X9_76 dX9_cell_25 ?_
      refine m_iload_n C 1 dX9_cell_28 rfl rfl ?_
      refine m_iload_n C 2 dX9_cell_29 rfl rfl ?_
      refine m_callVi C (as := [vI a1, vI a2]) (rest := []) ok_X5_hasItem ml_X9_298 so_43 rfl rfl rfl (Nat.le_of_ble_eq_true rfl) (fun _ => rfl) dX9_cell_30 (Con.mono h (fun r5 M6 _ _ h => ?_))
      refine m_if_ne C (tgt := 39) dX9_cell_33 (by decide) (fun e => ?_) (fun e => ?_)
      · have h := h.2 e
        refine m_aload_n C 0 dX9_cell_39 rfl rfl ?_
        refine m_getR C (k := 9) cl_X9 (by decide) so_0 rfl fl_X9_76 dX9_cell_40 ?_
        refine m_iload_n C 1 dX9_cell_43 rfl rfl ?_
        refine m_iload_n C 2 dX9_cell_44 rfl rfl ?_
        refine m_iload_n C 3 dX9_cell_45 rfl rfl ?_
        refine m_callVv C (as := [vI a1, vI a2, vI a3]) (rest := []) ok_X5_write ml_X9_277 so_43 rfl rfl rfl (Nat.le_of_ble_eq_true rfl) (fun _ => rfl) dX9_cell_46 (Con.mono h (fun _ M8 _ _ h => ?_))
        refine m_iconst C dX9_cell_49 (r32_of rfl) ?_
        exact m_iret C E (Or.inl rfl) dX9_cell_50 h
      · have h := h.1 e
        refine m_bipush C dX9_cell_36 (r32_of rfl) (by decide) ?_
        exact m_iret C E (Or.inl rfl) dX9_cell_38 h
    · have h := h.2 e
      refine m_bipush C dX9_cell_21 (r32_of rfl) (by decide) ?_
      exact m_iret C E (Or.inl rfl) dX9_cell_23 h
  · have h := h.1 e
    refine m_bipush C dX9_cell_7 (r32_of rfl) (by decide) ?_
    exact m_iret C E (Or.inl rfl) dX9_cell_9 h
def B_X9_copy (n : Nat) (a1 : Int) (a2 : Int) (a3 : Int) (a4 : Int) (a5 : Int) (M : Mem) (Q : Int → Mem → Prop)  : Prop :=
  Con n md_X5_isNumber [vI a1] M (fun r1 M2 =>
  ((r1 = 0 →
  Q (-2) M2) ∧ (¬ r1 = 0 →
  Con n md_X5_isNumber [vI a3] M2 (fun r3 M4 =>
    ((r3 = 0 →
    Q (-2) M4) ∧ (¬ r3 = 0 →
    Con n md_X5_isMissing [vR 43, vI a1] M4 (fun r5 M6 =>
      ((r5 = 0 →
      Con n md_X5_isMissing [vR 43, vI a3] M6 (fun r7 M8 =>
        ((r7 = 0 →
        ((0 ≤ a1 ∧ a1 < 4) ∧ ((0 ≤ a3 ∧ a3 < 4) ∧ (((M8 44 (Int.toNat a1)) = (M8 44 (Int.toNat a3)) →
          Con n md_X5_hasItems [vR 43, vI a1, vI a2, vI a5] M8 (fun r9 M10 =>
            ((r9 = 0 →
            Q (-12) M10) ∧ (¬ r9 = 0 →
            Con n md_X5_hasItems [vR 43, vI a3, vI a4, vI a5] M10 (fun r11 M12 =>
              ((r11 = 0 →
              Q (-12) M12) ∧ (¬ r11 = 0 →
              ((0 ≤ a1 ∧ a1 < 4) ∧ ((0 ≤ a3 ∧ a3 < 4) ∧ ((0 ≤ a2 ∧ 0 ≤ a4 ∧ 0 ≤ a5 ∧ a2 + a5 ≤ (40 : Int) ∧ a4 + a5 ≤ (40 : Int)) ∧ (∀ M15 : Mem, M15 = cpM M12 (47 + Int.toNat a1) (47 + Int.toNat a3) a2 a4 a5 →
                Q a5 M15))))))))))) ∧ (¬ (M8 44 (Int.toNat a1)) = (M8 44 (Int.toNat a3)) →
          Q (-13) M8))))) ∧ (¬ r7 = 0 →
        Q (-11) M8)))) ∧ (¬ r5 = 0 →
      Q (-11) M6)))))))))
set_option maxHeartbeats 4000000 in
set_option maxRecDepth 20000 in
theorem g_X9_copy {n : Nat} {a1 : Int} {a2 : Int} {a3 : Int} {a4 : Int} {a5 : Int} {M : Mem} {Q : Int → Mem → Prop}  (h : B_X9_copy n a1 a2 a3 a4 a5 M Q) : Con (n + 1) md_X9_copy [vR 0, vI a1, vI a2, vI a3, vI a4, vI a5] M Q := by
  refine Con.ofF (n := n + 1) (Nat.succ_pos n) pl_X9_copy (Nat.le_of_ble_eq_true rfl) (fun X C E hnL => ?_)
  have C : Cx X cX9_copy RX9 n := C
  show WM X 0 [(0, vR 0), (1, vI a1), (2, vI a2), (3, vI a3), (4, vI a4), (5, vI a5)] [] M
  unfold B_X9_copy at h
  refine m_iload_n C 1 dX9_copy_0 rfl rfl ?_
  refine m_callSi C (as := [vI a1]) (rest := []) ok_X5_isNumber ml_X9_217 rfl rfl (Nat.le_of_ble_eq_true rfl) (fun _ => rfl) dX9_copy_1 (Con.mono h (fun r1 M2 _ _ h => ?_))
  refine m_if_eq C (tgt := 14) dX9_copy_4 (by decide) (fun e => ?_) (fun e => ?_)
  · have h := h.1 e
    refine m_bipush C dX9_copy_14 (r32_of rfl) (by decide) ?_
    exact m_iret C E (Or.inl rfl) dX9_copy_16 h
  · have h := h.2 e
    refine m_iload_n C 3 dX9_copy_7 rfl rfl ?_
    refine m_callSi C (as := [vI a3]) (rest := []) ok_X5_isNumber ml_X9_217 rfl rfl (Nat.le_of_ble_eq_true rfl) (fun _ => rfl) dX9_copy_8 (Con.mono h (fun r3 M4 _ _ h => ?_))
    refine m_if_ne C (tgt := 17) dX9_copy_11 (by decide) (fun e => ?_) (fun e => ?_)
    · have h := h.2 e
      refine m_aload_n C 0 dX9_copy_17 rfl rfl ?_
      refine m_getR C (k := 9) cl_X9 (by decide) so_0 rfl fl_X9_76 dX9_copy_18 ?_
      refine m_iload_n C 1 dX9_copy_21 rfl rfl ?_
      refine m_callVi C (as := [vI a1]) (rest := []) ok_X5_isMissing ml_X9_220 so_43 rfl rfl rfl (Nat.le_of_ble_eq_true rfl) (fun _ => rfl) dX9_copy_22 (Con.mono h (fun r5 M6 _ _ h => ?_))
      refine m_if_ne C (tgt := 39) dX9_copy_25 (by decide) (fun e => ?_) (fun e => ?_)
      · have h := h.2 e
        refine m_bipush C dX9_copy_39 (r32_of rfl) (by decide) ?_
        exact m_iret C E (Or.inl rfl) dX9_copy_41 h
      · have h := h.1 e
        refine m_aload_n C 0 dX9_copy_28 rfl rfl ?_
        refine m_getR C (k := 9) cl_X9 (by decide) so_0 rfl fl_X9_76 dX9_copy_29 ?_
        refine m_iload_n C 3 dX9_copy_32 rfl rfl ?_
        refine m_callVi C (as := [vI a3]) (rest := []) ok_X5_isMissing ml_X9_220 so_43 rfl rfl rfl (Nat.le_of_ble_eq_true rfl) (fun _ => rfl) dX9_copy_33 (Con.mono h (fun r7 M8 _ _ h => ?_))
        refine m_if_eq C (tgt := 42) dX9_copy_36 (by decide) (fun e => ?_) (fun e => ?_)
        · have h := h.1 e
          refine m_aload_n C 0 dX9_copy_42 rfl rfl ?_
          refine m_getR C (k := 9) cl_X9 (by decide) so_0 rfl fl_X9_76 dX9_copy_43 ?_
          refine m_getR C (k := 0) cl_X5 (by decide) so_43 rfl fl_X9_302 dX9_copy_46 ?_
          refine m_iload_n C 1 dX9_copy_49 rfl rfl ?_
          refine m_iald C (N := 4) sa_44 h.1 dX9_copy_50 ?_
          have h := h.2
          refine m_aload_n C 0 dX9_copy_51 rfl rfl ?_
          refine m_getR C (k := 9) cl_X9 (by decide) so_0 rfl fl_X9_76 dX9_copy_52 ?_
          refine m_getR C (k := 0) cl_X5 (by decide) so_43 rfl fl_X9_302 dX9_copy_55 ?_
          refine m_iload_n C 3 dX9_copy_58 rfl rfl ?_
          refine m_iald C (N := 4) sa_44 h.1 dX9_copy_59 ?_
          have h := h.2
          refine m_icmp_eq C (tgt := 66) dX9_copy_60 (by decide) (fun e => ?_) (fun e => ?_)
          · have h := h.1 e
            refine m_aload_n C 0 dX9_copy_66 rfl rfl ?_
            refine m_getR C (k := 9) cl_X9 (by decide) so_0 rfl fl_X9_76 dX9_copy_67 ?_
            refine m_iload_n C 1 dX9_copy_70 rfl rfl ?_
            refine m_iload_n C 2 dX9_copy_71 rfl rfl ?_
            refine m_iload C 5 dX9_copy_72 rfl ?_
            refine m_callVi C (as := [vI a1, vI a2, vI a5]) (rest := []) ok_X5_hasItems ml_X9_305 so_43 rfl rfl rfl (Nat.le_of_ble_eq_true rfl) (fun _ => rfl) dX9_copy_74 (Con.mono h (fun r9 M10 _ _ h => ?_))
            refine m_if_eq C (tgt := 95) dX9_copy_77 (by decide) (fun e => ?_) (fun e => ?_)
            · have h := h.1 e
              refine m_bipush C dX9_copy_95 (r32_of rfl) (by decide) ?_
              exact m_iret C E (Or.inl rfl) dX9_copy_97 h
            · have h := h.2 e
              refine m_aload_n C 0 dX9_copy_80 rfl rfl ?_
              refine m_getR C (k := 9) cl_X9 (by decide) so_0 rfl fl_X9_76 dX9_copy_81 ?_
              refine m_iload_n C 3 dX9_copy_84 rfl rfl ?_
              refine m_iload C 4 dX9_copy_85 rfl ?_
              refine m_iload C 5 dX9_copy_87 rfl ?_
              refine m_callVi C (as := [vI a3, vI a4, vI a5]) (rest := []) ok_X5_hasItems ml_X9_305 so_43 rfl rfl rfl (Nat.le_of_ble_eq_true rfl) (fun _ => rfl) dX9_copy_89 (Con.mono h (fun r11 M12 _ _ h => ?_))
              refine m_if_ne C (tgt := 98) dX9_copy_92 (by decide) (fun e => ?_) (fun e => ?_)
              · have h := h.2 e
                refine m_aload_n C 0 dX9_copy_98 rfl rfl ?_
                refine m_getR C (k := 9) cl_X9 (by decide) so_0 rfl fl_X9_76 dX9_copy_99 ?_
                refine m_getR C (k := 2) cl_X5 (by decide) so_43 rfl fl_X9_229 dX9_copy_102 ?_
                refine m_iload_n C 1 dX9_copy_105 rfl rfl ?_
                have hg13 := h.1
                refine m_aald C gr_46 h.1 (grp_46 h.1) dX9_copy_106 ?_
                have h := h.2
                refine m_iload_n C 2 dX9_copy_107 rfl rfl ?_
                refine m_aload_n C 0 dX9_copy_108 rfl rfl ?_
                refine m_getR C (k := 9) cl_X9 (by decide) so_0 rfl fl_X9_76 dX9_copy_109 ?_
                refine m_getR C (k := 2) cl_X5 (by decide) so_43 rfl fl_X9_229 dX9_copy_112 ?_
                refine m_iload_n C 3 dX9_copy_115 rfl rfl ?_
                have hg14 := h.1
                refine m_aald C gr_46 h.1 (grp_46 h.1) dX9_copy_116 ?_
                have h := h.2
                refine m_iload C 4 dX9_copy_117 rfl ?_
                refine m_iload C 5 dX9_copy_119 rfl ?_
                refine m_copy C (N0 := 40) (N1 := 40) (gri_46 hg13) (gri_46 hg14) h.1 mlc_X9_309 ac_nat ac_st ac_ini (Nat.le_of_ble_eq_true rfl) dX9_copy_121 ?_
                have h := h.2
                generalize eM15 : cpM M12 (47 + Int.toNat a1) (47 + Int.toNat a3) a2 a4 a5 = M15
                have h := h M15 eM15.symm
                refine m_iload C 5 dX9_copy_124 rfl ?_
                exact m_iret C E (Or.inl rfl) dX9_copy_126 h
              · have h := h.1 e
                refine m_bipush C dX9_copy_95 (r32_of rfl) (by decide) ?_
                exact m_iret C E (Or.inl rfl) dX9_copy_97 h
          · have h := h.2 e
            refine m_bipush C dX9_copy_63 (r32_of rfl) (by decide) ?_
            exact m_iret C E (Or.inl rfl) dX9_copy_65 h
        · have h := h.2 e
          refine m_bipush C dX9_copy_39 (r32_of rfl) (by decide) ?_
          exact m_iret C E (Or.inl rfl) dX9_copy_41 h
    · have h := h.1 e
      refine m_bipush C dX9_copy_14 (r32_of rfl) (by decide) ?_
      exact m_iret C E (Or.inl rfl) dX9_copy_16 h
def B_X9_flowers_65 (n : Nat) (a1 : Int) (a2 : Int) (a3 : Int) (a4 : Int) (x5 : Int) (x6 : Int) (M : Mem) (Q : Int → Mem → Prop) (K65 : Int → Int → Mem → Prop) : Prop :=
  ((a4 ≤ x6 →
  Q x5 M) ∧ (¬ a4 ≤ x6 →
  Con n md_X5_hasItems [vR 43, vI a1, vI (w32 (a3 + (w32 (2 * x6)))), vI 2] M (fun r1 M2 =>
    ((r1 = 0 →
    Q (-12) M2) ∧ (¬ r1 = 0 →
    Con n md_X5_itemAt [vR 43, vI a1, vI (w32 (a3 + (w32 (2 * x6))))] M2 (fun r3 M4 =>
      Con n md_X5_itemAt [vR 43, vI a1, vI (w32 ((w32 (a3 + (w32 (2 * x6)))) + 1))] M4 (fun r5 M6 =>
      Con n md_X0_addFlower [vR 1, vI r3, vI r5] M6 (fun r7 M8 =>
      ((r7 < 0 →
      K65 x5 (w32 (x6 + 1)) M8) ∧ (¬ r7 < 0 →
      K65 (w32 (x5 + 1)) (w32 (x6 + 1)) M8))))))))))
def B_X9_flowers (n : Nat) (a1 : Int) (a2 : Int) (a3 : Int) (a4 : Int) (M : Mem) (Q : Int → Mem → Prop) (K65 : Int → Int → Mem → Prop) : Prop :=
  Con n md_X5_isNumber [vI a1] M (fun r9 M10 =>
  ((r9 = 0 →
  Q (-2) M10) ∧ (¬ r9 = 0 →
  Con n md_X5_isSort [vI a2] M10 (fun r11 M12 =>
    ((r11 = 0 →
    Q (-2) M12) ∧ (¬ r11 = 0 →
    ((a4 < 0 →
      Q (-2) M12) ∧ (¬ a4 < 0 →
      ((a4 ≤ 6 →
        Con n md_X5_isMissing [vR 43, vI a1] M12 (fun r13 M14 =>
          ((r13 = 0 →
          ((0 ≤ a1 ∧ a1 < 4) ∧ (((M14 44 (Int.toNat a1)) = a2 →
            K65 0 0 M14) ∧ (¬ (M14 44 (Int.toNat a1)) = a2 →
            Q (-13) M14)))) ∧ (¬ r13 = 0 →
          Q (-11) M14)))) ∧ (¬ a4 ≤ 6 →
        Q (-2) M12))))))))))
set_option maxHeartbeats 4000000 in
set_option maxRecDepth 20000 in
theorem g_X9_flowers {n : Nat} {a1 : Int} {a2 : Int} {a3 : Int} {a4 : Int} {M : Mem} {Q : Int → Mem → Prop}  (h : ∀ (K65 : Int → Int → Mem → Prop), (∀ (x5 : Int) (x6 : Int) (M : Mem), B_X9_flowers_65 n a1 a2 a3 a4 x5 x6 M Q K65 → K65 x5 x6 M) → B_X9_flowers n a1 a2 a3 a4 M Q K65) : Con (n + 1) md_X9_flowers [vR 0, vI a1, vI a2, vI a3, vI a4] M Q := by
  refine Con.ofF (n := n + 1) (Nat.succ_pos n) pl_X9_flowers (Nat.le_of_ble_eq_true rfl) (fun X C E hnL => ?_)
  have C : Cx X cX9_flowers RX9 n := C
  show WM X 0 [(0, vR 0), (1, vI a1), (2, vI a2), (3, vI a3), (4, vI a4)] [] M
  have hb65 : ∀ (x5 : Int) (x6 : Int) (M : Mem), B_X9_flowers_65 n a1 a2 a3 a4 x5 x6 M Q (fun (x5 : Int) (x6 : Int) (M : Mem) => WM X 65 [(0, vR 0), (1, vI a1), (2, vI a2), (3, vI a3), (4, vI a4), (5, vI x5), (6, vI x6)] [] M) → WM X 65 [(0, vR 0), (1, vI a1), (2, vI a2), (3, vI a3), (4, vI a4), (5, vI x5), (6, vI x6)] [] M := by
    intro x5 x6 M h
    unfold B_X9_flowers_65 at h
    refine m_iload C 6 dX9_flowers_65 rfl ?_
    refine m_iload C 4 dX9_flowers_67 rfl ?_
    refine m_icmp_ge C (tgt := 146) dX9_flowers_69 (by decide) (fun e => ?_) (fun e => ?_)
    · have h := h.1 e
      refine m_iload C 5 dX9_flowers_146 rfl ?_
      exact m_iret C E (Or.inl rfl) dX9_flowers_148 h
    · have h := h.2 e
      refine m_iload_n C 3 dX9_flowers_72 rfl rfl ?_
      refine m_iconst C dX9_flowers_73 (r32_of rfl) ?_
      refine m_iload C 6 dX9_flowers_74 rfl ?_
      refine m_imul C dX9_flowers_76 ?_
      refine m_iadd C dX9_flowers_77 ?_
      refine m_istore C (L' := [(7, vI (w32 (a3 + (w32 (2 * x6))))), (0, vR 0), (1, vI a1), (2, vI a2), (3, vI a3), (4, vI a4), (5, vI x5), (6, vI x6)]) dX9_flowers_78 (by rw [hnL]; decide) rfl ?_
      refine m_aload_n C 1 dX9_flowers_80 rfl rfl ?_
      refine m_getR C (k := 9) cl_X9 (by decide) so_0 rfl fl_X9_76 dX9_flowers_81 ?_
      refine m_iload_n C 2 dX9_flowers_84 rfl rfl ?_
      refine m_iload C 0 dX9_flowers_85 rfl ?_
      refine m_iconst C dX9_flowers_87 (r32_of rfl) ?_
      refine m_callVi C (as := [vI a1, vI (w32 (a3 + (w32 (2 * x6)))), vI 2]) (rest := []) ok_X5_hasItems ml_X9_305 so_43 rfl rfl rfl (Nat.le_of_ble_eq_true rfl) (fun _ => rfl) dX9_flowers_88 (Con.mono h (fun r1 M2 _ _ h => ?_))
      refine m_if_ne C (tgt := 97) dX9_flowers_91 (by decide) (fun e => ?_) (fun e => ?_)
      · have h := h.2 e
        refine m_aload_n C 1 dX9_flowers_97 rfl rfl ?_
        refine m_getR C (k := 9) cl_X9 (by decide) so_0 rfl fl_X9_76 dX9_flowers_98 ?_
        refine m_iload_n C 2 dX9_flowers_101 rfl rfl ?_
        refine m_iload C 0 dX9_flowers_102 rfl ?_
        refine m_callVi C (as := [vI a1, vI (w32 (a3 + (w32 (2 * x6))))]) (rest := []) ok_X5_itemAt ml_X9_226 so_43 rfl rfl rfl (Nat.le_of_ble_eq_true rfl) (fun _ => rfl) dX9_flowers_104 (Con.mono h (fun r3 M4 _ _ h => ?_))
        refine m_istore C (L' := [(8, vI r3), (7, vI (w32 (a3 + (w32 (2 * x6))))), (0, vR 0), (1, vI a1), (2, vI a2), (3, vI a3), (4, vI a4), (5, vI x5), (6, vI x6)]) dX9_flowers_107 (by rw [hnL]; decide) rfl ?_
        refine m_aload_n C 2 dX9_flowers_109 rfl rfl ?_
        refine m_getR C (k := 9) cl_X9 (by decide) so_0 rfl fl_X9_76 dX9_flowers_110 ?_
        refine m_iload_n C 3 dX9_flowers_113 rfl rfl ?_
        refine m_iload C 1 dX9_flowers_114 rfl ?_
        refine m_iconst C dX9_flowers_116 (r32_of rfl) ?_
        refine m_iadd C dX9_flowers_117 ?_
        refine m_callVi C (as := [vI a1, vI (w32 ((w32 (a3 + (w32 (2 * x6)))) + 1))]) (rest := []) ok_X5_itemAt ml_X9_226 so_43 rfl rfl rfl (Nat.le_of_ble_eq_true rfl) (fun _ => rfl) dX9_flowers_118 (Con.mono h (fun r5 M6 _ _ h => ?_))
        refine m_istore C (L' := [(9, vI r5), (8, vI r3), (7, vI (w32 (a3 + (w32 (2 * x6))))), (0, vR 0), (1, vI a1), (2, vI a2), (3, vI a3), (4, vI a4), (5, vI x5), (6, vI x6)]) dX9_flowers_121 (by rw [hnL]; decide) rfl ?_
        refine m_aload_n C 3 dX9_flowers_123 rfl rfl ?_
        refine m_getR C (k := 0) cl_X9 (by decide) so_0 rfl fl_X9_10 dX9_flowers_124 ?_
        refine m_iload C 1 dX9_flowers_127 rfl ?_
        refine m_iload C 0 dX9_flowers_129 rfl ?_
        refine m_callVi C (as := [vI r3, vI r5]) (rest := []) ok_X0_addFlower ml_X9_96 so_1 rfl rfl rfl (Nat.le_of_ble_eq_true rfl) (fun _ => rfl) dX9_flowers_131 (Con.mono h (fun r7 M8 _ _ h => ?_))
        refine m_if_lt C (tgt := 140) dX9_flowers_134 (by decide) (fun e => ?_) (fun e => ?_)
        · have h := h.1 e
          refine m_iinc C (L' := [(6, vI (w32 (x6 + 1))), (9, vI r5), (8, vI r3), (7, vI (w32 (a3 + (w32 (2 * x6))))), (0, vR 0), (1, vI a1), (2, vI a2), (3, vI a3), (4, vI a4), (5, vI x5)]) 9 dX9_flowers_140 rfl (by rw [hnL]; decide) rfl ?_
          refine m_goto C (tgt := 65) dX9_flowers_143 (by decide) ?_
          exact m_sub [4, 5, 6, 7, 8, 9, 0] rfl h
        · have h := h.2 e
          refine m_iinc C (L' := [(5, vI (w32 (x5 + 1))), (9, vI r5), (8, vI r3), (7, vI (w32 (a3 + (w32 (2 * x6))))), (0, vR 0), (1, vI a1), (2, vI a2), (3, vI a3), (4, vI a4), (6, vI x6)]) 8 dX9_flowers_137 rfl (by rw [hnL]; decide) rfl ?_
          refine m_iinc C (L' := [(6, vI (w32 (x6 + 1))), (5, vI (w32 (x5 + 1))), (9, vI r5), (8, vI r3), (7, vI (w32 (a3 + (w32 (2 * x6))))), (0, vR 0), (1, vI a1), (2, vI a2), (3, vI a3), (4, vI a4)]) 9 dX9_flowers_140 rfl (by rw [hnL]; decide) rfl ?_
          refine m_goto C (tgt := 65) dX9_flowers_143 (by decide) ?_
          exact m_sub [5, 6, 7, 8, 9, 1, 0] rfl h
      · have h := h.1 e
        refine m_bipush C dX9_flowers_94 (r32_of rfl) (by decide) ?_
        exact m_iret C E (Or.inl rfl) dX9_flowers_96 h
  have h := h (fun (x5 : Int) (x6 : Int) (M : Mem) => WM X 65 [(0, vR 0), (1, vI a1), (2, vI a2), (3, vI a3), (4, vI a4), (5, vI x5), (6, vI x6)] [] M) hb65
  unfold B_X9_flowers at h
  refine m_iload_n C 1 dX9_flowers_0 rfl rfl ?_
  refine m_callSi C (as := [vI a1]) (rest := []) ok_X5_isNumber ml_X9_217 rfl rfl (Nat.le_of_ble_eq_true rfl) (fun _ => rfl) dX9_flowers_1 (Con.mono h (fun r9 M10 _ _ h => ?_))
  refine m_if_eq C (tgt := 26) dX9_flowers_4 (by decide) (fun e => ?_) (fun e => ?_)
  · have h := h.1 e
    refine m_bipush C dX9_flowers_26 (r32_of rfl) (by decide) ?_
    exact m_iret C E (Or.inl rfl) dX9_flowers_28 h
  · have h := h.2 e
    refine m_iload_n C 2 dX9_flowers_7 rfl rfl ?_
    refine m_callSi C (as := [vI a2]) (rest := []) ok_X5_isSort ml_X9_295 rfl rfl (Nat.le_of_ble_eq_true rfl) (fun _ => rfl) dX9_flowers_8 (Con.mono h (fun r11 M12 _ _ h => ?_))
    refine m_if_eq C (tgt := 26) dX9_flowers_11 (by decide) (fun e => ?_) (fun e => ?_)
    · have h := h.1 e
      refine m_bipush C dX9_flowers_26 (r32_of rfl) (by decide) ?_
      exact m_iret C E (Or.inl rfl) dX9_flowers_28 h
    · have h := h.2 e
      refine m_iload C 4 dX9_flowers_14 rfl ?_
      refine m_if_lt C (tgt := 26) dX9_flowers_16 (by decide) (fun e => ?_) (fun e => ?_)
      · have h := h.1 e
        refine m_bipush C dX9_flowers_26 (r32_of rfl) (by decide) ?_
        exact m_iret C E (Or.inl rfl) dX9_flowers_28 h
      · have h := h.2 e
        refine m_iload C 4 dX9_flowers_19 rfl ?_
        refine m_bipush C dX9_flowers_21 (r32_of rfl) (by decide) ?_
        refine m_icmp_le C (tgt := 29) dX9_flowers_23 (by decide) (fun e => ?_) (fun e => ?_)
        · have h := h.1 e
          refine m_aload_n C 0 dX9_flowers_29 rfl rfl ?_
          refine m_getR C (k := 9) cl_X9 (by decide) so_0 rfl fl_X9_76 dX9_flowers_30 ?_
          refine m_iload_n C 1 dX9_flowers_33 rfl rfl ?_
          refine m_callVi C (as := [vI a1]) (rest := []) ok_X5_isMissing ml_X9_220 so_43 rfl rfl rfl (Nat.le_of_ble_eq_true rfl) (fun _ => rfl) dX9_flowers_34 (Con.mono h (fun r13 M14 _ _ h => ?_))
          refine m_if_eq C (tgt := 43) dX9_flowers_37 (by decide) (fun e => ?_) (fun e => ?_)
          · have h := h.1 e
            refine m_aload_n C 0 dX9_flowers_43 rfl rfl ?_
            refine m_getR C (k := 9) cl_X9 (by decide) so_0 rfl fl_X9_76 dX9_flowers_44 ?_
            refine m_getR C (k := 0) cl_X5 (by decide) so_43 rfl fl_X9_302 dX9_flowers_47 ?_
            refine m_iload_n C 1 dX9_flowers_50 rfl rfl ?_
            refine m_iald C (N := 4) sa_44 h.1 dX9_flowers_51 ?_
            have h := h.2
            refine m_iload_n C 2 dX9_flowers_52 rfl rfl ?_
            refine m_icmp_eq C (tgt := 59) dX9_flowers_53 (by decide) (fun e => ?_) (fun e => ?_)
            · have h := h.1 e
              refine m_iconst C dX9_flowers_59 (r32_of rfl) ?_
              refine m_istore C (L' := [(5, vI 0), (0, vR 0), (1, vI a1), (2, vI a2), (3, vI a3), (4, vI a4)]) dX9_flowers_60 (by rw [hnL]; decide) rfl ?_
              refine m_iconst C dX9_flowers_62 (r32_of rfl) ?_
              refine m_istore C (L' := [(6, vI 0), (5, vI 0), (0, vR 0), (1, vI a1), (2, vI a2), (3, vI a3), (4, vI a4)]) dX9_flowers_63 (by rw [hnL]; decide) rfl ?_
              exact m_sub [2, 3, 4, 5, 6, 1, 0] rfl h
            · have h := h.2 e
              refine m_bipush C dX9_flowers_56 (r32_of rfl) (by decide) ?_
              exact m_iret C E (Or.inl rfl) dX9_flowers_58 h
          · have h := h.2 e
            refine m_bipush C dX9_flowers_40 (r32_of rfl) (by decide) ?_
            exact m_iret C E (Or.inl rfl) dX9_flowers_42 h
        · have h := h.2 e
          refine m_bipush C dX9_flowers_26 (r32_of rfl) (by decide) ?_
          exact m_iret C E (Or.inl rfl) dX9_flowers_28 h
def B_X9_taken (n : Nat) (a1 : Int) (a2 : Int) (M : Mem) (Q : Int → Mem → Prop)  : Prop :=
  Con n md_X1_isKind [vI a2] M (fun r1 M2 =>
  ((r1 = 0 →
  Q (-2) M2) ∧ (¬ r1 = 0 →
  Con n md_X0_hasFlower [vR 1, vI a1] M2 (fun r3 M4 =>
    ((r3 = 0 →
    Q (-11) M4) ∧ (¬ r3 = 0 →
    ((0 ≤ a1 ∧ a1 < 6) ∧ Con n md_X1_isUnder [vI (M4 2 (Int.toNat a1)), vI a2] M4 (fun r5 M6 =>
      ((r5 = 0 →
      Q (-13) M6) ∧ (¬ r5 = 0 →
      ((0 ≤ a1 ∧ a1 < 6) ∧ Q (M6 3 (Int.toNat a1)) M6)))))))))))
set_option maxHeartbeats 4000000 in
set_option maxRecDepth 20000 in
theorem g_X9_taken {n : Nat} {a1 : Int} {a2 : Int} {M : Mem} {Q : Int → Mem → Prop}  (h : B_X9_taken n a1 a2 M Q) : Con (n + 1) md_X9_taken [vR 0, vI a1, vI a2] M Q := by
  refine Con.ofF (n := n + 1) (Nat.succ_pos n) pl_X9_taken (Nat.le_of_ble_eq_true rfl) (fun X C E hnL => ?_)
  have C : Cx X cX9_taken RX9 n := C
  show WM X 0 [(0, vR 0), (1, vI a1), (2, vI a2)] [] M
  unfold B_X9_taken at h
  refine m_iload_n C 2 dX9_taken_0 rfl rfl ?_
  refine m_callSi C (as := [vI a2]) (rest := []) ok_X1_isKind ml_X9_315 rfl rfl (Nat.le_of_ble_eq_true rfl) (fun _ => rfl) dX9_taken_1 (Con.mono h (fun r1 M2 _ _ h => ?_))
  refine m_if_ne C (tgt := 10) dX9_taken_4 (by decide) (fun e => ?_) (fun e => ?_)
  · have h := h.2 e
    refine m_aload_n C 0 dX9_taken_10 rfl rfl ?_
    refine m_getR C (k := 0) cl_X9 (by decide) so_0 rfl fl_X9_10 dX9_taken_11 ?_
    refine m_iload_n C 1 dX9_taken_14 rfl rfl ?_
    refine m_callVi C (as := [vI a1]) (rest := []) ok_X0_hasFlower ml_X9_84 so_1 rfl rfl rfl (Nat.le_of_ble_eq_true rfl) (fun _ => rfl) dX9_taken_15 (Con.mono h (fun r3 M4 _ _ h => ?_))
    refine m_if_ne C (tgt := 24) dX9_taken_18 (by decide) (fun e => ?_) (fun e => ?_)
    · have h := h.2 e
      refine m_aload_n C 0 dX9_taken_24 rfl rfl ?_
      refine m_getR C (k := 0) cl_X9 (by decide) so_0 rfl fl_X9_10 dX9_taken_25 ?_
      refine m_getR C (k := 4) cl_X0 (by decide) so_1 rfl fl_X9_103 dX9_taken_28 ?_
      refine m_iload_n C 1 dX9_taken_31 rfl rfl ?_
      refine m_iald C (N := 6) sa_2 h.1 dX9_taken_32 ?_
      have h := h.2
      refine m_iload_n C 2 dX9_taken_33 rfl rfl ?_
      refine m_callSi C (as := [vI (M4 2 (Int.toNat a1)), vI a2]) (rest := []) ok_X1_isUnder ml_X9_320 rfl rfl (Nat.le_of_ble_eq_true rfl) (fun _ => rfl) dX9_taken_34 (Con.mono h (fun r5 M6 _ _ h => ?_))
      refine m_if_eq C (tgt := 52) dX9_taken_37 (by decide) (fun e => ?_) (fun e => ?_)
      · have h := h.1 e
        refine m_bipush C dX9_taken_52 (r32_of rfl) (by decide) ?_
        exact m_iret C E (Or.inl rfl) dX9_taken_54 h
      · have h := h.2 e
        refine m_aload_n C 0 dX9_taken_40 rfl rfl ?_
        refine m_getR C (k := 0) cl_X9 (by decide) so_0 rfl fl_X9_10 dX9_taken_41 ?_
        refine m_getR C (k := 5) cl_X0 (by decide) so_1 rfl fl_X9_323 dX9_taken_44 ?_
        refine m_iload_n C 1 dX9_taken_47 rfl rfl ?_
        refine m_iald C (N := 6) sa_3 h.1 dX9_taken_48 ?_
        have h := h.2
        refine m_goto C (tgt := 54) dX9_taken_49 (by decide) ?_
        exact m_iret C E (Or.inl rfl) dX9_taken_54 h
    · have h := h.1 e
      refine m_bipush C dX9_taken_21 (r32_of rfl) (by decide) ?_
      exact m_iret C E (Or.inl rfl) dX9_taken_23 h
  · have h := h.1 e
    refine m_bipush C dX9_taken_7 (r32_of rfl) (by decide) ?_
    exact m_iret C E (Or.inl rfl) dX9_taken_9 h
