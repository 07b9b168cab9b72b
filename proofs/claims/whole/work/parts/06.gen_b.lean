def B_X7_has (n : Nat) (a1 : Int) (M : Mem) (Q : Int → Mem → Prop)  : Prop :=
  ((a1 < 0 →
  Q 0 M) ∧ (¬ a1 < 0 →
  (((M 17 0) ≤ a1 →
    Q 0 M) ∧ (¬ (M 17 0) ≤ a1 →
    Q 1 M))))
set_option maxHeartbeats 4000000 in
set_option maxRecDepth 20000 in
theorem g_X7_has {n : Nat} {a1 : Int} {M : Mem} {Q : Int → Mem → Prop}  (h : B_X7_has n a1 M Q) : Con (n + 1) md_X7_has [vR 17, vI a1] M Q := by
  refine Con.ofF (n := n + 1) (Nat.succ_pos n) pl_X7_has (Nat.le_of_ble_eq_true rfl) (fun X C E hnL => ?_)
  have C : Cx X cX7_has RX7 n := C
  show WM X 0 [(0, vR 17), (1, vI a1)] [] M
  unfold B_X7_has at h
  refine m_iload_n C 1 dX7_has_0 rfl rfl ?_
  refine m_if_lt C (tgt := 16) dX7_has_1 (by decide) (fun e => ?_) (fun e => ?_)
  · have h := h.1 e
    refine m_iconst C dX7_has_16 (r32_of rfl) ?_
    exact m_iret C E (Or.inr ⟨rfl, Or.inl rfl⟩) dX7_has_17 h
  · have h := h.2 e
    refine m_iload_n C 1 dX7_has_4 rfl rfl ?_
    refine m_aload_n C 0 dX7_has_5 rfl rfl ?_
    refine m_getI C (k := 0) cl_X7 (by decide) so_17 rfl fl_X7_9 dX7_has_6 ?_
    refine m_icmp_ge C (tgt := 16) dX7_has_9 (by decide) (fun e => ?_) (fun e => ?_)
    · have h := h.1 e
      refine m_iconst C dX7_has_16 (r32_of rfl) ?_
      exact m_iret C E (Or.inr ⟨rfl, Or.inl rfl⟩) dX7_has_17 h
    · have h := h.2 e
      refine m_iconst C dX7_has_12 (r32_of rfl) ?_
      refine m_goto C (tgt := 17) dX7_has_13 (by decide) ?_
      exact m_iret C E (Or.inr ⟨rfl, Or.inr rfl⟩) dX7_has_17 h
def B_X7_isFull (n : Nat)  (M : Mem) (Q : Int → Mem → Prop)  : Prop :=
  (((M 17 0) < 6 →
  Q 0 M) ∧ (¬ (M 17 0) < 6 →
  Q 1 M))
set_option maxHeartbeats 4000000 in
set_option maxRecDepth 20000 in
theorem g_X7_isFull {n : Nat}  {M : Mem} {Q : Int → Mem → Prop}  (h : B_X7_isFull n  M Q) : Con (n + 1) md_X7_isFull [vR 17] M Q := by
  refine Con.ofF (n := n + 1) (Nat.succ_pos n) pl_X7_isFull (Nat.le_of_ble_eq_true rfl) (fun X C E hnL => ?_)
  have C : Cx X cX7_isFull RX7 n := C
  show WM X 0 [(0, vR 17)] [] M
  unfold B_X7_isFull at h
  refine m_aload_n C 0 dX7_isFull_0 rfl rfl ?_
  refine m_getI C (k := 0) cl_X7 (by decide) so_17 rfl fl_X7_9 dX7_isFull_1 ?_
  refine m_bipush C dX7_isFull_4 (r32_of rfl) (by decide) ?_
  refine m_icmp_lt C (tgt := 13) dX7_isFull_6 (by decide) (fun e => ?_) (fun e => ?_)
  · have h := h.1 e
    refine m_iconst C dX7_isFull_13 (r32_of rfl) ?_
    exact m_iret C E (Or.inr ⟨rfl, Or.inl rfl⟩) dX7_isFull_14 h
  · have h := h.2 e
    refine m_iconst C dX7_isFull_9 (r32_of rfl) ?_
    refine m_goto C (tgt := 14) dX7_isFull_10 (by decide) ?_
    exact m_iret C E (Or.inr ⟨rfl, Or.inr rfl⟩) dX7_isFull_14 h
def B_X7_add (n : Nat)  (M : Mem) (Q : Int → Mem → Prop)  : Prop :=
  Con n md_X7_isFull [vR 17] M (fun r1 M2 =>
  ((r1 = 0 →
  ((0 ≤ (M2 17 0) ∧ (M2 17 0) < 6) ∧ (∀ M4 : Mem, M4 = cpM M2 34 (19 + Int.toNat (M2 17 0)) 0 0 160 →
    ((0 ≤ (M4 17 0) ∧ (M4 17 0) < 6) ∧ (∀ M6 : Mem, M6 = cpM M4 35 (26 + Int.toNat (M4 17 0)) 0 0 3 →
    (∀ M7 : Mem, M7 = up M6 17 0 (w32 ((M6 17 0) + 1)) →
    Q (w32 ((M7 17 0) - 1)) M7)))))) ∧ (¬ r1 = 0 →
  Q (-4) M2)))
set_option maxHeartbeats 4000000 in
set_option maxRecDepth 20000 in
theorem g_X7_add {n : Nat}  {M : Mem} {Q : Int → Mem → Prop}  (h : B_X7_add n  M Q) : Con (n + 1) md_X7_add [vR 17, vR 33] M Q := by
  refine Con.ofF (n := n + 1) (Nat.succ_pos n) pl_X7_add (Nat.le_of_ble_eq_true rfl) (fun X C E hnL => ?_)
  have C : Cx X cX7_add RX7 n := C
  show WM X 0 [(0, vR 17), (1, vR 33)] [] M
  unfold B_X7_add at h
  refine m_aload_n C 0 dX7_add_0 rfl rfl ?_
  refine m_callVi C (as := []) (rest := []) ok_X7_isFull ml_X7_27 so_17 rfl rfl rfl (Nat.le_of_ble_eq_true rfl) (fun _ => rfl) dX7_add_1 (Con.mono h (fun r1 M2 _ _ h => ?_))
  refine m_if_eq C (tgt := 10) dX7_add_4 (by decide) (fun e => ?_) (fun e => ?_)
  · have h := h.1 e
    refine m_aload_n C 1 dX7_add_10 rfl rfl ?_
    refine m_getR C (k := 1) cl_X4 (by decide) so_33 rfl fl_X7_31 dX7_add_11 ?_
    refine m_iconst C dX7_add_14 (r32_of rfl) ?_
    refine m_aload_n C 0 dX7_add_15 rfl rfl ?_
    refine m_getR C (k := 1) cl_X7 (by decide) so_17 rfl fl_X7_17 dX7_add_16 ?_
    refine m_aload_n C 0 dX7_add_19 rfl rfl ?_
    refine m_getI C (k := 0) cl_X7 (by decide) so_17 rfl fl_X7_9 dX7_add_20 ?_
    have hg3 := h.1
    refine m_aald C gr_18 h.1 (grp_18 h.1) dX7_add_23 ?_
    have h := h.2
    refine m_iconst C dX7_add_24 (r32_of rfl) ?_
    refine m_sipush C dX7_add_25 (r32_of rfl) (by decide) ?_
    refine m_copy C (N0 := 160) (N1 := 160) sa_34 (gri_18 hg3) (by decide) mlc_X7_35 ac_nat ac_st ac_ini (Nat.le_of_ble_eq_true rfl) dX7_add_28 ?_
    generalize eM4 : cpM M2 34 (19 + Int.toNat (M2 17 0)) 0 0 160 = M4
    have h := h M4 eM4.symm
    refine m_aload_n C 1 dX7_add_31 rfl rfl ?_
    refine m_getR C (k := 2) cl_X4 (by decide) so_33 rfl fl_X7_41 dX7_add_32 ?_
    refine m_iconst C dX7_add_35 (r32_of rfl) ?_
    refine m_aload_n C 0 dX7_add_36 rfl rfl ?_
    refine m_getR C (k := 2) cl_X7 (by decide) so_17 rfl fl_X7_20 dX7_add_37 ?_
    refine m_aload_n C 0 dX7_add_40 rfl rfl ?_
    refine m_getI C (k := 0) cl_X7 (by decide) so_17 rfl fl_X7_9 dX7_add_41 ?_
    have hg5 := h.1
    refine m_aald C gr_25 h.1 (grp_25 h.1) dX7_add_44 ?_
    have h := h.2
    refine m_iconst C dX7_add_45 (r32_of rfl) ?_
    refine m_iconst C dX7_add_46 (r32_of rfl) ?_
    refine m_copy C (N0 := 3) (N1 := 3) sa_35 (gri_25 hg5) (by decide) mlc_X7_35 ac_nat ac_st ac_ini (Nat.le_of_ble_eq_true rfl) dX7_add_47 ?_
    generalize eM6 : cpM M4 35 (26 + Int.toNat (M4 17 0)) 0 0 3 = M6
    have h := h M6 eM6.symm
    refine m_aload_n C 0 dX7_add_50 rfl rfl ?_
    refine m_dupR C dX7_add_51 ?_
    refine m_getI C (k := 0) cl_X7 (by decide) so_17 rfl fl_X7_9 dX7_add_52 ?_
    refine m_iconst C dX7_add_55 (r32_of rfl) ?_
    refine m_iadd C dX7_add_56 ?_
    refine m_putI C (k := 0) cl_X7 (by decide) so_17 rfl rfl rfl fl_X7_9 dX7_add_57 ?_
    generalize eM7 : up M6 17 0 (w32 ((M6 17 0) + 1)) = M7
    have h := h M7 eM7.symm
    refine m_aload_n C 0 dX7_add_60 rfl rfl ?_
    refine m_getI C (k := 0) cl_X7 (by decide) so_17 rfl fl_X7_9 dX7_add_61 ?_
    refine m_iconst C dX7_add_64 (r32_of rfl) ?_
    refine m_isub C dX7_add_65 ?_
    exact m_iret C E (Or.inl rfl) dX7_add_66 h
  · have h := h.2 e
    refine m_bipush C dX7_add_7 (r32_of rfl) (by decide) ?_
    exact m_iret C E (Or.inl rfl) dX7_add_9 h
def B_X7_valueOf_81 (n : Nat) (a1 : Int) (a2 : Int) (x4 : Nat) (x5 : Int) (x6 : Int) (x7 : Int) (x8 : Int) (M : Mem) (Q : Int → Mem → Prop) (K81 : Nat → Int → Int → Int → Int → Mem → Prop) : Prop :=
  (isI x4 160 ∧ ((x6 ≤ x8 →
  Q (M 32 (Int.toNat 0)) M) ∧ (¬ x6 ≤ x8 →
  ((0 ≤ x8 ∧ x8 < 160) ∧ (((M x4 (Int.toNat x8)) < (-6) →
    Con n md_X7_isOfOne [vI (M x4 (Int.toNat x8))] M (fun r1 M2 =>
      ((r1 = 0 →
      ((x7 < 2 →
        K81 x4 x5 x6 x7 (w32 (x8 + 1)) M2) ∧ (¬ x7 < 2 →
        ((0 ≤ (w32 (x7 - 2)) ∧ (w32 (x7 - 2)) < 160) ∧ ((0 ≤ (w32 (x7 - 1)) ∧ (w32 (x7 - 1)) < 160) ∧ Con n md_X7_ofTwo [vI (M x4 (Int.toNat x8)), vI (M2 32 (Int.toNat (w32 (x7 - 2)))), vI (M2 32 (Int.toNat (w32 (x7 - 1))))] M2 (fun r3 M4 =>
          ((0 ≤ (w32 (x7 - 2)) ∧ (w32 (x7 - 2)) < 160) ∧ (∀ M5 : Mem, M5 = up M4 32 (Int.toNat (w32 (x7 - 2))) r3 →
          K81 x4 x5 x6 (w32 (x7 + (-1))) (w32 (x8 + 1)) M5)))))))) ∧ (¬ r1 = 0 →
      ((x7 < 1 →
        ((x7 < 2 →
          K81 x4 x5 x6 x7 (w32 (x8 + 1)) M2) ∧ (¬ x7 < 2 →
          ((0 ≤ (w32 (x7 - 2)) ∧ (w32 (x7 - 2)) < 160) ∧ ((0 ≤ (w32 (x7 - 1)) ∧ (w32 (x7 - 1)) < 160) ∧ Con n md_X7_ofTwo [vI (M x4 (Int.toNat x8)), vI (M2 32 (Int.toNat (w32 (x7 - 2)))), vI (M2 32 (Int.toNat (w32 (x7 - 1))))] M2 (fun r6 M7 =>
            ((0 ≤ (w32 (x7 - 2)) ∧ (w32 (x7 - 2)) < 160) ∧ (∀ M8 : Mem, M8 = up M7 32 (Int.toNat (w32 (x7 - 2))) r6 →
            K81 x4 x5 x6 (w32 (x7 + (-1))) (w32 (x8 + 1)) M8)))))))) ∧ (¬ x7 < 1 →
        ((0 ≤ (w32 (x7 - 1)) ∧ (w32 (x7 - 1)) < 160) ∧ Con n md_X7_ofOne [vI (M x4 (Int.toNat x8)), vI (M2 32 (Int.toNat (w32 (x7 - 1))))] M2 (fun r9 M10 =>
          ((0 ≤ (w32 (x7 - 1)) ∧ (w32 (x7 - 1)) < 160) ∧ (∀ M11 : Mem, M11 = up M10 32 (Int.toNat (w32 (x7 - 1))) r9 →
          K81 x4 x5 x6 x7 (w32 (x8 + 1)) M11)))))))))) ∧ (¬ (M x4 (Int.toNat x8)) < (-6) →
    ((160 ≤ x7 →
      Con n md_X7_isOfOne [vI (M x4 (Int.toNat x8))] M (fun r12 M13 =>
        ((r12 = 0 →
        ((x7 < 2 →
          K81 x4 x5 x6 x7 (w32 (x8 + 1)) M13) ∧ (¬ x7 < 2 →
          ((0 ≤ (w32 (x7 - 2)) ∧ (w32 (x7 - 2)) < 160) ∧ ((0 ≤ (w32 (x7 - 1)) ∧ (w32 (x7 - 1)) < 160) ∧ Con n md_X7_ofTwo [vI (M x4 (Int.toNat x8)), vI (M13 32 (Int.toNat (w32 (x7 - 2)))), vI (M13 32 (Int.toNat (w32 (x7 - 1))))] M13 (fun r14 M15 =>
            ((0 ≤ (w32 (x7 - 2)) ∧ (w32 (x7 - 2)) < 160) ∧ (∀ M16 : Mem, M16 = up M15 32 (Int.toNat (w32 (x7 - 2))) r14 →
            K81 x4 x5 x6 (w32 (x7 + (-1))) (w32 (x8 + 1)) M16)))))))) ∧ (¬ r12 = 0 →
        ((x7 < 1 →
          ((x7 < 2 →
            K81 x4 x5 x6 x7 (w32 (x8 + 1)) M13) ∧ (¬ x7 < 2 →
            ((0 ≤ (w32 (x7 - 2)) ∧ (w32 (x7 - 2)) < 160) ∧ ((0 ≤ (w32 (x7 - 1)) ∧ (w32 (x7 - 1)) < 160) ∧ Con n md_X7_ofTwo [vI (M x4 (Int.toNat x8)), vI (M13 32 (Int.toNat (w32 (x7 - 2)))), vI (M13 32 (Int.toNat (w32 (x7 - 1))))] M13 (fun r17 M18 =>
              ((0 ≤ (w32 (x7 - 2)) ∧ (w32 (x7 - 2)) < 160) ∧ (∀ M19 : Mem, M19 = up M18 32 (Int.toNat (w32 (x7 - 2))) r17 →
              K81 x4 x5 x6 (w32 (x7 + (-1))) (w32 (x8 + 1)) M19)))))))) ∧ (¬ x7 < 1 →
          ((0 ≤ (w32 (x7 - 1)) ∧ (w32 (x7 - 1)) < 160) ∧ Con n md_X7_ofOne [vI (M x4 (Int.toNat x8)), vI (M13 32 (Int.toNat (w32 (x7 - 1))))] M13 (fun r20 M21 =>
            ((0 ≤ (w32 (x7 - 1)) ∧ (w32 (x7 - 1)) < 160) ∧ (∀ M22 : Mem, M22 = up M21 32 (Int.toNat (w32 (x7 - 1))) r20 →
            K81 x4 x5 x6 x7 (w32 (x8 + 1)) M22)))))))))) ∧ (¬ 160 ≤ x7 →
      (((M x4 (Int.toNat x8)) < 0 →
        ((0 ≤ (w32 ((-1) - (M x4 (Int.toNat x8)))) ∧ (w32 ((-1) - (M x4 (Int.toNat x8)))) < 6) ∧ ((0 ≤ x7 ∧ x7 < 160) ∧ (∀ M23 : Mem, M23 = up M 32 (Int.toNat x7) (M 37 (Int.toNat (w32 ((-1) - (M x4 (Int.toNat x8)))))) →
          K81 x4 x5 x6 (w32 (x7 + 1)) (w32 (x8 + 1)) M23)))) ∧ (¬ (M x4 (Int.toNat x8)) < 0 →
        ((0 ≤ x7 ∧ x7 < 160) ∧ (∀ M24 : Mem, M24 = up M 32 (Int.toNat x7) (M x4 (Int.toNat x8)) →
          K81 x4 x5 x6 (w32 (x7 + 1)) (w32 (x8 + 1)) M24))))))))))))
def B_X7_valueOf (n : Nat) (a1 : Int) (a2 : Int) (M : Mem) (Q : Int → Mem → Prop) (K81 : Nat → Int → Int → Int → Int → Mem → Prop) : Prop :=
  Con n md_X7_has [vR 17, vI a1] M (fun r25 M26 =>
  ((r25 = 0 →
  Q 0 M26) ∧ (¬ r25 = 0 →
  ((a2 < 0 →
    Q 0 M26) ∧ (¬ a2 < 0 →
    ((3 ≤ a2 →
      Q 0 M26) ∧ (¬ 3 ≤ a2 →
      ((6 ≤ (6 : Int) →
        ((0 ≤ a1 ∧ a1 < 6) ∧ ((a2 = 0 →
          ((0 ≤ a1 ∧ a1 < 6) ∧ ((0 ≤ a2 ∧ a2 < 3) ∧ Con n md_J9_min_7cf53 [vI 160, vI (M26 (26 + Int.toNat a1) (Int.toNat a2))] M26 (fun r35 M36 =>
            K81 (19 + Int.toNat a1) 0 r35 0 0 M36)))) ∧ (¬ a2 = 0 →
          ((0 ≤ a1 ∧ a1 < 6) ∧ ((0 ≤ (w32 (a2 - 1)) ∧ (w32 (a2 - 1)) < 3) ∧ Con n md_J9_max_7cf53 [vI 0, vI (M26 (26 + Int.toNat a1) (Int.toNat (w32 (a2 - 1))))] M26 (fun r29 M30 =>
            ((0 ≤ a1 ∧ a1 < 6) ∧ ((0 ≤ a2 ∧ a2 < 3) ∧ Con n md_J9_min_7cf53 [vI 160, vI (M30 (26 + Int.toNat a1) (Int.toNat a2))] M30 (fun r32 M33 =>
            K81 (19 + Int.toNat a1) r29 r32 0 r29 M33)))))))))) ∧ (¬ 6 ≤ (6 : Int) →
        Q 0 M26)))))))))
set_option maxHeartbeats 4000000 in
set_option maxRecDepth 20000 in
theorem g_X7_valueOf {n : Nat} {a1 : Int} {a2 : Int} {M : Mem} {Q : Int → Mem → Prop}  (h : ∀ (K81 : Nat → Int → Int → Int → Int → Mem → Prop), (∀ (x4 : Nat) (x5 : Int) (x6 : Int) (x7 : Int) (x8 : Int) (M : Mem), B_X7_valueOf_81 n a1 a2 x4 x5 x6 x7 x8 M Q K81 → K81 x4 x5 x6 x7 x8 M) → B_X7_valueOf n a1 a2 M Q K81) : Con (n + 1) md_X7_valueOf [vR 17, vI a1, vI a2, vR 37] M Q := by
  refine Con.ofF (n := n + 1) (Nat.succ_pos n) pl_X7_valueOf (Nat.le_of_ble_eq_true rfl) (fun X C E hnL => ?_)
  have C : Cx X cX7_valueOf RX7 n := C
  show WM X 0 [(0, vR 17), (1, vI a1), (2, vI a2), (3, vR 37)] [] M
  have hb81 : ∀ (x4 : Nat) (x5 : Int) (x6 : Int) (x7 : Int) (x8 : Int) (M : Mem), B_X7_valueOf_81 n a1 a2 x4 x5 x6 x7 x8 M Q (fun (x4 : Nat) (x5 : Int) (x6 : Int) (x7 : Int) (x8 : Int) (M : Mem) => WM X 81 [(0, vR 17), (1, vI a1), (2, vI a2), (3, vR 37), (4, vR x4), (5, vI x5), (6, vI x6), (7, vI x7), (8, vI x8)] [] M) → WM X 81 [(0, vR 17), (1, vI a1), (2, vI a2), (3, vR 37), (4, vR x4), (5, vI x5), (6, vI x6), (7, vI x7), (8, vI x8)] [] M := by
    intro x4 x5 x6 x7 x8 M h
    unfold B_X7_valueOf_81 at h
    have hi4 := h.1
    have h := h.2
    refine m_iload C 8 dX7_valueOf_81 rfl ?_
    refine m_iload C 6 dX7_valueOf_83 rfl ?_
    refine m_icmp_ge C (tgt := 228) dX7_valueOf_85 (by decide) (fun e => ?_) (fun e => ?_)
    · have h := h.1 e
      refine m_aload_n C 0 dX7_valueOf_228 rfl rfl ?_
      refine m_getR C (k := 3) cl_X7 (by decide) so_17 rfl fl_X7_23 dX7_valueOf_229 ?_
      refine m_iconst C dX7_valueOf_232 (r32_of rfl) ?_
      refine m_iald C (N := 160) sa_32 (by decide) dX7_valueOf_233 ?_
      exact m_iret C E (Or.inl rfl) dX7_valueOf_234 h
    · have h := h.2 e
      refine m_aload C 4 dX7_valueOf_88 rfl ?_
      refine m_iload C 8 dX7_valueOf_90 rfl ?_
      refine m_iald C (N := 160) hi4 h.1 dX7_valueOf_92 ?_
      have h := h.2
      refine m_istore C (L' := [(9, vI (M x4 (Int.toNat x8))), (0, vR 17), (1, vI a1), (2, vI a2), (3, vR 37), (4, vR x4), (5, vI x5), (6, vI x6), (7, vI x7), (8, vI x8)]) dX7_valueOf_93 (by rw [hnL]; decide) rfl ?_
      refine m_iload C 0 dX7_valueOf_95 rfl ?_
      refine m_bipush C dX7_valueOf_97 (r32_of rfl) (by decide) ?_
      refine m_icmp_lt C (tgt := 141) dX7_valueOf_99 (by decide) (fun e => ?_) (fun e => ?_)
      · have h := h.1 e
        refine m_iload C 0 dX7_valueOf_141 rfl ?_
        refine m_callSi C (as := [vI (M x4 (Int.toNat x8))]) (rest := []) ok_X7_isOfOne ml_X7_56 rfl rfl (Nat.le_of_ble_eq_true rfl) (fun _ => rfl) dX7_valueOf_143 (Con.mono h (fun r1 M2 _ _ h => ?_))
        refine m_if_eq C (tgt := 181) dX7_valueOf_146 (by decide) (fun e => ?_) (fun e => ?_)
        · have h := h.1 e
          refine m_iload C 8 dX7_valueOf_181 rfl ?_
          refine m_iconst C dX7_valueOf_183 (r32_of rfl) ?_
          refine m_icmp_lt C (tgt := 222) dX7_valueOf_184 (by decide) (fun e => ?_) (fun e => ?_)
          · have h := h.1 e
            refine m_iinc C (L' := [(8, vI (w32 (x8 + 1))), (9, vI (M x4 (Int.toNat x8))), (0, vR 17), (1, vI a1), (2, vI a2), (3, vR 37), (4, vR x4), (5, vI x5), (6, vI x6), (7, vI x7)]) 9 dX7_valueOf_222 rfl (by rw [hnL]; decide) rfl ?_
            refine m_goto C (tgt := 81) dX7_valueOf_225 (by decide) ?_
            exact m_sub [2, 3, 4, 5, 6, 7, 8, 9, 0] rfl h
          · have h := h.2 e
            refine m_aload_n C 1 dX7_valueOf_187 rfl rfl ?_
            refine m_getR C (k := 3) cl_X7 (by decide) so_17 rfl fl_X7_23 dX7_valueOf_188 ?_
            refine m_iload C 8 dX7_valueOf_191 rfl ?_
            refine m_iconst C dX7_valueOf_193 (r32_of rfl) ?_
            refine m_isub C dX7_valueOf_194 ?_
            refine m_iload C 0 dX7_valueOf_195 rfl ?_
            refine m_aload_n C 1 dX7_valueOf_197 rfl rfl ?_
            refine m_getR C (k := 3) cl_X7 (by decide) so_17 rfl fl_X7_23 dX7_valueOf_198 ?_
            refine m_iload C 8 dX7_valueOf_201 rfl ?_
            refine m_iconst C dX7_valueOf_203 (r32_of rfl) ?_
            refine m_isub C dX7_valueOf_204 ?_
            refine m_iald C (N := 160) sa_32 h.1 dX7_valueOf_205 ?_
            have h := h.2
            refine m_aload_n C 1 dX7_valueOf_206 rfl rfl ?_
            refine m_getR C (k := 3) cl_X7 (by decide) so_17 rfl fl_X7_23 dX7_valueOf_207 ?_
            refine m_iload C 8 dX7_valueOf_210 rfl ?_
            refine m_iconst C dX7_valueOf_212 (r32_of rfl) ?_
            refine m_isub C dX7_valueOf_213 ?_
            refine m_iald C (N := 160) sa_32 h.1 dX7_valueOf_214 ?_
            have h := h.2
            refine m_callSi C (as := [vI (M x4 (Int.toNat x8)), vI (M2 32 (Int.toNat (w32 (x7 - 2)))), vI (M2 32 (Int.toNat (w32 (x7 - 1))))]) (rest := [vI (w32 (x7 - 2)), vR 32]) ok_X7_ofTwo ml_X7_62 rfl rfl (Nat.le_of_ble_eq_true rfl) (fun _ => rfl) dX7_valueOf_215 (Con.mono h (fun r3 M4 _ _ h => ?_))
            refine m_iast C (N := 160) sa_32 h.1 dX7_valueOf_218 ?_
            have h := h.2
            generalize eM5 : up M4 32 (Int.toNat (w32 (x7 - 2))) r3 = M5
            have h := h M5 eM5.symm
            refine m_iinc C (L' := [(7, vI (w32 (x7 + (-1)))), (9, vI (M x4 (Int.toNat x8))), (0, vR 17), (1, vI a1), (2, vI a2), (3, vR 37), (4, vR x4), (5, vI x5), (6, vI x6), (8, vI x8)]) 8 dX7_valueOf_219 rfl (by rw [hnL]; decide) rfl ?_
            refine m_iinc C (L' := [(8, vI (w32 (x8 + 1))), (7, vI (w32 (x7 + (-1)))), (9, vI (M x4 (Int.toNat x8))), (0, vR 17), (1, vI a1), (2, vI a2), (3, vR 37), (4, vR x4), (5, vI x5), (6, vI x6)]) 9 dX7_valueOf_222 rfl (by rw [hnL]; decide) rfl ?_
            refine m_goto C (tgt := 81) dX7_valueOf_225 (by decide) ?_
            exact m_sub [3, 4, 5, 6, 7, 8, 9, 1, 0] rfl h
        · have h := h.2 e
          refine m_iload C 8 dX7_valueOf_149 rfl ?_
          refine m_iconst C dX7_valueOf_151 (r32_of rfl) ?_
          refine m_icmp_lt C (tgt := 181) dX7_valueOf_152 (by decide) (fun e => ?_) (fun e => ?_)
          · have h := h.1 e
            refine m_iload C 8 dX7_valueOf_181 rfl ?_
            refine m_iconst C dX7_valueOf_183 (r32_of rfl) ?_
            refine m_icmp_lt C (tgt := 222) dX7_valueOf_184 (by decide) (fun e => ?_) (fun e => ?_)
            · have h := h.1 e
              refine m_iinc C (L' := [(8, vI (w32 (x8 + 1))), (9, vI (M x4 (Int.toNat x8))), (0, vR 17), (1, vI a1), (2, vI a2), (3, vR 37), (4, vR x4), (5, vI x5), (6, vI x6), (7, vI x7)]) 9 dX7_valueOf_222 rfl (by rw [hnL]; decide) rfl ?_
              refine m_goto C (tgt := 81) dX7_valueOf_225 (by decide) ?_
              exact m_sub [2, 3, 4, 5, 6, 7, 8, 9, 0] rfl h
            · have h := h.2 e
              refine m_aload_n C 1 dX7_valueOf_187 rfl rfl ?_
              refine m_getR C (k := 3) cl_X7 (by decide) so_17 rfl fl_X7_23 dX7_valueOf_188 ?_
              refine m_iload C 8 dX7_valueOf_191 rfl ?_
              refine m_iconst C dX7_valueOf_193 (r32_of rfl) ?_
              refine m_isub C dX7_valueOf_194 ?_
              refine m_iload C 0 dX7_valueOf_195 rfl ?_
              refine m_aload_n C 1 dX7_valueOf_197 rfl rfl ?_
              refine m_getR C (k := 3) cl_X7 (by decide) so_17 rfl fl_X7_23 dX7_valueOf_198 ?_
              refine m_iload C 8 dX7_valueOf_201 rfl ?_
              refine m_iconst C dX7_valueOf_203 (r32_of rfl) ?_
              refine m_isub C dX7_valueOf_204 ?_
              refine m_iald C (N := 160) sa_32 h.1 dX7_valueOf_205 ?_
              have h := h.2
              refine m_aload_n C 1 dX7_valueOf_206 rfl rfl ?_
              refine m_getR C (k := 3) cl_X7 (by decide) so_17 rfl fl_X7_23 dX7_valueOf_207 ?_
              refine m_iload C 8 dX7_valueOf_210 rfl ?_
              refine m_iconst C dX7_valueOf_212 (r32_of rfl) ?_
              refine m_isub C dX7_valueOf_213 ?_
              refine m_iald C (N := 160) sa_32 h.1 dX7_valueOf_214 ?_
              have h := h.2
              refine m_callSi C (as := [vI (M x4 (Int.toNat x8)), vI (M2 32 (Int.toNat (w32 (x7 - 2)))), vI (M2 32 (Int.toNat (w32 (x7 - 1))))]) (rest := [vI (w32 (x7 - 2)), vR 32]) ok_X7_ofTwo ml_X7_62 rfl rfl (Nat.le_of_ble_eq_true rfl) (fun _ => rfl) dX7_valueOf_215 (Con.mono h (fun r6 M7 _ _ h => ?_))
              refine m_iast C (N := 160) sa_32 h.1 dX7_valueOf_218 ?_
              have h := h.2
              generalize eM8 : up M7 32 (Int.toNat (w32 (x7 - 2))) r6 = M8
              have h := h M8 eM8.symm
              refine m_iinc C (L' := [(7, vI (w32 (x7 + (-1)))), (9, vI (M x4 (Int.toNat x8))), (0, vR 17), (1, vI a1), (2, vI a2), (3, vR 37), (4, vR x4), (5, vI x5), (6, vI x6), (8, vI x8)]) 8 dX7_valueOf_219 rfl (by rw [hnL]; decide) rfl ?_
              refine m_iinc C (L' := [(8, vI (w32 (x8 + 1))), (7, vI (w32 (x7 + (-1)))), (9, vI (M x4 (Int.toNat x8))), (0, vR 17), (1, vI a1), (2, vI a2), (3, vR 37), (4, vR x4), (5, vI x5), (6, vI x6)]) 9 dX7_valueOf_222 rfl (by rw [hnL]; decide) rfl ?_
              refine m_goto C (tgt := 81) dX7_valueOf_225 (by decide) ?_
              exact m_sub [3, 4, 5, 6, 7, 8, 9, 1, 0] rfl h
          · have h := h.2 e
            refine m_aload_n C 1 dX7_valueOf_155 rfl rfl ?_
            refine m_getR C (k := 3) cl_X7 (by decide) so_17 rfl fl_X7_23 dX7_valueOf_156 ?_
            refine m_iload C 8 dX7_valueOf_159 rfl ?_
            refine m_iconst C dX7_valueOf_161 (r32_of rfl) ?_
            refine m_isub C dX7_valueOf_162 ?_
            refine m_iload C 0 dX7_valueOf_163 rfl ?_
            refine m_aload_n C 1 dX7_valueOf_165 rfl rfl ?_
            refine m_getR C (k := 3) cl_X7 (by decide) so_17 rfl fl_X7_23 dX7_valueOf_166 ?_
            refine m_iload C 8 dX7_valueOf_169 rfl ?_
            refine m_iconst C dX7_valueOf_171 (r32_of rfl) ?_
            refine m_isub C dX7_valueOf_172 ?_
            refine m_iald C (N := 160) sa_32 h.1 dX7_valueOf_173 ?_
            have h := h.2
            refine m_callSi C (as := [vI (M x4 (Int.toNat x8)), vI (M2 32 (Int.toNat (w32 (x7 - 1))))]) (rest := [vI (w32 (x7 - 1)), vR 32]) ok_X7_ofOne ml_X7_59 rfl rfl (Nat.le_of_ble_eq_true rfl) (fun _ => rfl) dX7_valueOf_174 (Con.mono h (fun r9 M10 _ _ h => ?_))
            refine m_iast C (N := 160) sa_32 h.1 dX7_valueOf_177 ?_
            have h := h.2
            generalize eM11 : up M10 32 (Int.toNat (w32 (x7 - 1))) r9 = M11
            have h := h M11 eM11.symm
            refine m_goto C (tgt := 222) dX7_valueOf_178 (by decide) ?_
            refine m_iinc C (L' := [(8, vI (w32 (x8 + 1))), (9, vI (M x4 (Int.toNat x8))), (0, vR 17), (1, vI a1), (2, vI a2), (3, vR 37), (4, vR x4), (5, vI x5), (6, vI x6), (7, vI x7)]) 9 dX7_valueOf_222 rfl (by rw [hnL]; decide) rfl ?_
            refine m_goto C (tgt := 81) dX7_valueOf_225 (by decide) ?_
            exact m_sub [2, 3, 4, 5, 6, 7, 8, 9, 0] rfl h
      · have h := h.2 e
        refine m_iload C 8 dX7_valueOf_102 rfl ?_
        refine m_aload_n C 1 dX7_valueOf_104 rfl rfl ?_
        refine m_getR C (k := 3) cl_X7 (by decide) so_17 rfl fl_X7_23 dX7_valueOf_105 ?_
        refine m_alen C (N := 160) sa_32 (Or.inl rfl) rfl (r32_of rfl) dX7_valueOf_108 ?_
        refine m_icmp_ge C (tgt := 141) dX7_valueOf_109 (by decide) (fun e => ?_) (fun e => ?_)
        · have h := h.1 e
          refine m_iload C 0 dX7_valueOf_141 rfl ?_
          refine m_callSi C (as := [vI (M x4 (Int.toNat x8))]) (rest := []) ok_X7_isOfOne ml_X7_56 rfl rfl (Nat.le_of_ble_eq_true rfl) (fun _ => rfl) dX7_valueOf_143 (Con.mono h (fun r12 M13 _ _ h => ?_))
          refine m_if_eq C (tgt := 181) dX7_valueOf_146 (by decide) (fun e => ?_) (fun e => ?_)
          · have h := h.1 e
            refine m_iload C 8 dX7_valueOf_181 rfl ?_
            refine m_iconst C dX7_valueOf_183 (r32_of rfl) ?_
            refine m_icmp_lt C (tgt := 222) dX7_valueOf_184 (by decide) (fun e => ?_) (fun e => ?_)
            · have h := h.1 e
              refine m_iinc C (L' := [(8, vI (w32 (x8 + 1))), (9, vI (M x4 (Int.toNat x8))), (0, vR 17), (1, vI a1), (2, vI a2), (3, vR 37), (4, vR x4), (5, vI x5), (6, vI x6), (7, vI x7)]) 9 dX7_valueOf_222 rfl (by rw [hnL]; decide) rfl ?_
              refine m_goto C (tgt := 81) dX7_valueOf_225 (by decide) ?_
              exact m_sub [2, 3, 4, 5, 6, 7, 8, 9, 0] rfl h
            · have h := h.2 e
              refine m_aload_n C 1 dX7_valueOf_187 rfl rfl ?_
              refine m_getR C (k := 3) cl_X7 (by decide) so_17 rfl fl_X7_23 dX7_valueOf_188 ?_
              refine m_iload C 8 dX7_valueOf_191 rfl ?_
              refine m_iconst C dX7_valueOf_193 (r32_of rfl) ?_
              refine m_isub C dX7_valueOf_194 ?_
              refine m_iload C 0 dX7_valueOf_195 rfl ?_
              refine m_aload_n C 1 dX7_valueOf_197 rfl rfl ?_
              refine m_getR C (k := 3) cl_X7 (by decide) so_17 rfl fl_X7_23 dX7_valueOf_198 ?_
              refine m_iload C 8 dX7_valueOf_201 rfl ?_
              refine m_iconst C dX7_valueOf_203 (r32_of rfl) ?_
              refine m_isub C dX7_valueOf_204 ?_
              refine m_iald C (N := 160) sa_32 h.1 dX7_valueOf_205 ?_
              have h := h.2
              refine m_aload_n C 1 dX7_valueOf_206 rfl rfl ?_
              refine m_getR C (k := 3) cl_X7 (by decide) so_17 rfl fl_X7_23 dX7_valueOf_207 ?_
              refine m_iload C 8 dX7_valueOf_210 rfl ?_
              refine m_iconst C dX7_valueOf_212 (r32_of rfl) ?_
              refine m_isub C dX7_valueOf_213 ?_
              refine m_iald C (N := 160) sa_32 h.1 dX7_valueOf_214 ?_
              have h := h.2
              refine m_callSi C (as := [vI (M x4 (Int.toNat x8)), vI (M13 32 (Int.toNat (w32 (x7 - 2)))), vI (M13 32 (Int.toNat (w32 (x7 - 1))))]) (rest := [vI (w32 (x7 - 2)), vR 32]) ok_X7_ofTwo ml_X7_62 rfl rfl (Nat.le_of_ble_eq_true rfl) (fun _ => rfl) dX7_valueOf_215 (Con.mono h (fun r14 M15 _ _ h => ?_))
              refine m_iast C (N := 160) sa_32 h.1 dX7_valueOf_218 ?_
              have h := h.2
              generalize eM16 : up M15 32 (Int.toNat (w32 (x7 - 2))) r14 = M16
              have h := h M16 eM16.symm
              refine m_iinc C (L' := [(7, vI (w32 (x7 + (-1)))), (9, vI (M x4 (Int.toNat x8))), (0, vR 17), (1, vI a1), (2, vI a2), (3, vR 37), (4, vR x4), (5, vI x5), (6, vI x6), (8, vI x8)]) 8 dX7_valueOf_219 rfl (by rw [hnL]; decide) rfl ?_
              refine m_iinc C (L' := [(8, vI (w32 (x8 + 1))), (7, vI (w32 (x7 + (-1)))), (9, vI (M x4 (Int.toNat x8))), (0, vR 17), (1, vI a1), (2, vI a2), (3, vR 37), (4, vR x4), (5, vI x5), (6, vI x6)]) 9 dX7_valueOf_222 rfl (by rw [hnL]; decide) rfl ?_
              refine m_goto C (tgt := 81) dX7_valueOf_225 (by decide) ?_
              exact m_sub [3, 4, 5, 6, 7, 8, 9, 1, 0] rfl h
          · have h := h.2 e
            refine m_iload C 8 dX7_valueOf_149 rfl ?_
            refine m_iconst C dX7_valueOf_151 (r32_of rfl) ?_
            refine m_icmp_lt C (tgt := 181) dX7_valueOf_152 (by decide) (fun e => ?_) (fun e => ?_)
            · have h := h.1 e
              refine m_iload C 8 dX7_valueOf_181 rfl ?_
              refine m_iconst C dX7_valueOf_183 (r32_of rfl) ?_
              refine m_icmp_lt C (tgt := 222) dX7_valueOf_184 (by decide) (fun e => ?_) (fun e => ?_)
              · have h := h.1 e
                refine m_iinc C (L' := [(8, vI (w32 (x8 + 1))), (9, vI (M x4 (Int.toNat x8))), (0, vR 17), (1, vI a1), (2, vI a2), (3, vR 37), (4, vR x4), (5, vI x5), (6, vI x6), (7, vI x7)]) 9 dX7_valueOf_222 rfl (by rw [hnL]; decide) rfl ?_
                refine m_goto C (tgt := 81) dX7_valueOf_225 (by decide) ?_
                exact m_sub [2, 3, 4, 5, 6, 7, 8, 9, 0] rfl h
              · have h := h.2 e
                refine m_aload_n C 1 dX7_valueOf_187 rfl rfl ?_
                refine m_getR C (k := 3) cl_X7 (by decide) so_17 rfl fl_X7_23 dX7_valueOf_188 ?_
                refine m_iload C 8 dX7_valueOf_191 rfl ?_
                refine m_iconst C dX7_valueOf_193 (r32_of rfl) ?_
                refine m_isub C dX7_valueOf_194 ?_
                refine m_iload C 0 dX7_valueOf_195 rfl ?_
                refine m_aload_n C 1 dX7_valueOf_197 rfl rfl ?_
                refine m_getR C (k := 3) cl_X7 (by decide) so_17 rfl fl_X7_23 dX7_valueOf_198 ?_
                refine m_iload C 8 dX7_valueOf_201 rfl ?_
                refine m_iconst C dX7_valueOf_203 (r32_of rfl) ?_
                refine m_isub C dX7_valueOf_204 ?_
                refine m_iald C (N := 160) sa_32 h.1 dX7_valueOf_205 ?_
                have h := h.2
                refine m_aload_n C 1 dX7_valueOf_206 rfl rfl ?_
                refine m_getR C (k := 3) cl_X7 (by decide) so_17 rfl fl_X7_23 dX7_valueOf_207 ?_
                refine m_iload C 8 dX7_valueOf_210 rfl ?_
                refine m_iconst C dX7_valueOf_212 (r32_of rfl) ?_
                refine m_isub C dX7_valueOf_213 ?_
                refine m_iald C (N := 160) sa_32 h.1 dX7_valueOf_214 ?_
                have h := h.2
                refine m_callSi C (as := [vI (M x4 (Int.toNat x8)), vI (M13 32 (Int.toNat (w32 (x7 - 2)))), vI (M13 32 (Int.toNat (w32 (x7 - 1))))]) (rest := [vI (w32 (x7 - 2)), vR 32]) ok_X7_ofTwo ml_X7_62 rfl rfl (Nat.le_of_ble_eq_true rfl) (fun _ => rfl) dX7_valueOf_215 (Con.mono h (fun r17 M18 _ _ h => ?_))
                refine m_iast C (N := 160) sa_32 h.1 dX7_valueOf_218 ?_
                have h := h.2
                generalize eM19 : up M18 32 (Int.toNat (w32 (x7 - 2))) r17 = M19
                have h := h M19 eM19.symm
                refine m_iinc C (L' := [(7, vI (w32 (x7 + (-1)))), (9, vI (M x4 (Int.toNat x8))), (0, vR 17), (1, vI a1), (2, vI a2), (3, vR 37), (4, vR x4), (5, vI x5), (6, vI x6), (8, vI x8)]) 8 dX7_valueOf_219 rfl (by rw [hnL]; decide) rfl ?_
                refine m_iinc C (L' := [(8, vI (w32 (x8 + 1))), (7, vI (w32 (x7 + (-1)))), (9, vI (M x4 (Int.toNat x8))), (0, vR 17), (1, vI a1), (2, vI a2), (3, vR 37), (4, vR x4), (5, vI x5), (6, vI x6)]) 9 dX7_valueOf_222 rfl (by rw [hnL]; decide) rfl ?_
                refine m_goto C (tgt := 81) dX7_valueOf_225 (by decide) ?_
                exact m_sub [3, 4, 5, 6, 7, 8, 9, 1, 0] rfl h
            · have h := h.2 e
              refine m_aload_n C 1 dX7_valueOf_155 rfl rfl ?_
              refine m_getR C (k := 3) cl_X7 (by decide) so_17 rfl fl_X7_23 dX7_valueOf_156 ?_
              refine m_iload C 8 dX7_valueOf_159 rfl ?_
              refine m_iconst C dX7_valueOf_161 (r32_of rfl) ?_
              refine m_isub C dX7_valueOf_162 ?_
              refine m_iload C 0 dX7_valueOf_163 rfl ?_
              refine m_aload_n C 1 dX7_valueOf_165 rfl rfl ?_
              refine m_getR C (k := 3) cl_X7 (by decide) so_17 rfl fl_X7_23 dX7_valueOf_166 ?_
              refine m_iload C 8 dX7_valueOf_169 rfl ?_
              refine m_iconst C dX7_valueOf_171 (r32_of rfl) ?_
              refine m_isub C dX7_valueOf_172 ?_
              refine m_iald C (N := 160) sa_32 h.1 dX7_valueOf_173 ?_
              have h := h.2
              refine m_callSi C (as := [vI (M x4 (Int.toNat x8)), vI (M13 32 (Int.toNat (w32 (x7 - 1))))]) (rest := [vI (w32 (x7 - 1)), vR 32]) ok_X7_ofOne ml_X7_59 rfl rfl (Nat.le_of_ble_eq_true rfl) (fun _ => rfl) dX7_valueOf_174 (Con.mono h (fun r20 M21 _ _ h => ?_))
              refine m_iast C (N := 160) sa_32 h.1 dX7_valueOf_177 ?_
              have h := h.2
              generalize eM22 : up M21 32 (Int.toNat (w32 (x7 - 1))) r20 = M22
              have h := h M22 eM22.symm
              refine m_goto C (tgt := 222) dX7_valueOf_178 (by decide) ?_
              refine m_iinc C (L' := [(8, vI (w32 (x8 + 1))), (9, vI (M x4 (Int.toNat x8))), (0, vR 17), (1, vI a1), (2, vI a2), (3, vR 37), (4, vR x4), (5, vI x5), (6, vI x6), (7, vI x7)]) 9 dX7_valueOf_222 rfl (by rw [hnL]; decide) rfl ?_
              refine m_goto C (tgt := 81) dX7_valueOf_225 (by decide) ?_
              exact m_sub [2, 3, 4, 5, 6, 7, 8, 9, 0] rfl h
        · have h := h.2 e
          refine m_aload_n C 1 dX7_valueOf_112 rfl rfl ?_
          refine m_getR C (k := 3) cl_X7 (by decide) so_17 rfl fl_X7_23 dX7_valueOf_113 ?_
          refine m_iload C 8 dX7_valueOf_116 rfl ?_
          refine m_iload C 0 dX7_valueOf_118 rfl ?_
          refine m_if_lt C (tgt := 128) dX7_valueOf_120 (by decide) (fun e => ?_) (fun e => ?_)
          · have h := h.1 e
            refine m_aload_n C 4 dX7_valueOf_128 rfl rfl ?_
            refine m_iconst C dX7_valueOf_129 (r32_of rfl) ?_
            refine m_iload C 0 dX7_valueOf_130 rfl ?_
            refine m_isub C dX7_valueOf_132 ?_
            refine m_iald C (N := 6) sa_37 h.1 dX7_valueOf_133 ?_
            have h := h.2
            refine m_iast C (N := 160) sa_32 h.1 dX7_valueOf_134 ?_
            have h := h.2
            generalize eM23 : up M 32 (Int.toNat x7) (M 37 (Int.toNat (w32 ((-1) - (M x4 (Int.toNat x8)))))) = M23
            have h := h M23 eM23.symm
            refine m_iinc C (L' := [(7, vI (w32 (x7 + 1))), (9, vI (M x4 (Int.toNat x8))), (0, vR 17), (1, vI a1), (2, vI a2), (3, vR 37), (4, vR x4), (5, vI x5), (6, vI x6), (8, vI x8)]) 8 dX7_valueOf_135 rfl (by rw [hnL]; decide) rfl ?_
            refine m_goto C (tgt := 222) dX7_valueOf_138 (by decide) ?_
            refine m_iinc C (L' := [(8, vI (w32 (x8 + 1))), (7, vI (w32 (x7 + 1))), (9, vI (M x4 (Int.toNat x8))), (0, vR 17), (1, vI a1), (2, vI a2), (3, vR 37), (4, vR x4), (5, vI x5), (6, vI x6)]) 9 dX7_valueOf_222 rfl (by rw [hnL]; decide) rfl ?_
            refine m_goto C (tgt := 81) dX7_valueOf_225 (by decide) ?_
            exact m_sub [3, 4, 5, 6, 7, 8, 9, 1, 0] rfl h
          · have h := h.2 e
            refine m_iload C 0 dX7_valueOf_123 rfl ?_
            refine m_goto C (tgt := 134) dX7_valueOf_125 (by decide) ?_
            refine m_iast C (N := 160) sa_32 h.1 dX7_valueOf_134 ?_
            have h := h.2
            generalize eM24 : up M 32 (Int.toNat x7) (M x4 (Int.toNat x8)) = M24
            have h := h M24 eM24.symm
            refine m_iinc C (L' := [(7, vI (w32 (x7 + 1))), (9, vI (M x4 (Int.toNat x8))), (0, vR 17), (1, vI a1), (2, vI a2), (3, vR 37), (4, vR x4), (5, vI x5), (6, vI x6), (8, vI x8)]) 8 dX7_valueOf_135 rfl (by rw [hnL]; decide) rfl ?_
            refine m_goto C (tgt := 222) dX7_valueOf_138 (by decide) ?_
            refine m_iinc C (L' := [(8, vI (w32 (x8 + 1))), (7, vI (w32 (x7 + 1))), (9, vI (M x4 (Int.toNat x8))), (0, vR 17), (1, vI a1), (2, vI a2), (3, vR 37), (4, vR x4), (5, vI x5), (6, vI x6)]) 9 dX7_valueOf_222 rfl (by rw [hnL]; decide) rfl ?_
            refine m_goto C (tgt := 81) dX7_valueOf_225 (by decide) ?_
            exact m_sub [3, 4, 5, 6, 7, 8, 9, 1, 0] rfl h
  have h := h (fun (x4 : Nat) (x5 : Int) (x6 : Int) (x7 : Int) (x8 : Int) (M : Mem) => WM X 81 [(0, vR 17), (1, vI a1), (2, vI a2), (3, vR 37), (4, vR x4), (5, vI x5), (6, vI x6), (7, vI x7), (8, vI x8)] [] M) hb81
  unfold B_X7_valueOf at h
  refine m_aload_n C 0 dX7_valueOf_0 rfl rfl ?_
  refine m_iload_n C 1 dX7_valueOf_1 rfl rfl ?_
  refine m_callVi C (as := [vI a1]) (rest := []) ok_X7_has ml_X7_43 so_17 rfl rfl rfl (Nat.le_of_ble_eq_true rfl) (fun _ => rfl) dX7_valueOf_2 (Con.mono h (fun r25 M26 _ _ h => ?_))
  refine m_if_eq C (tgt := 24) dX7_valueOf_5 (by decide) (fun e => ?_) (fun e => ?_)
  · have h := h.1 e
    refine m_iconst C dX7_valueOf_24 (r32_of rfl) ?_
    exact m_iret C E (Or.inl rfl) dX7_valueOf_25 h
  · have h := h.2 e
    refine m_iload_n C 2 dX7_valueOf_8 rfl rfl ?_
    refine m_if_lt C (tgt := 24) dX7_valueOf_9 (by decide) (fun e => ?_) (fun e => ?_)
    · have h := h.1 e
      refine m_iconst C dX7_valueOf_24 (r32_of rfl) ?_
      exact m_iret C E (Or.inl rfl) dX7_valueOf_25 h
    · have h := h.2 e
      refine m_iload_n C 2 dX7_valueOf_12 rfl rfl ?_
      refine m_iconst C dX7_valueOf_13 (r32_of rfl) ?_
      refine m_icmp_ge C (tgt := 24) dX7_valueOf_14 (by decide) (fun e => ?_) (fun e => ?_)
      · have h := h.1 e
        refine m_iconst C dX7_valueOf_24 (r32_of rfl) ?_
        exact m_iret C E (Or.inl rfl) dX7_valueOf_25 h
      · have h := h.2 e
        refine m_aload_n C 3 dX7_valueOf_17 rfl rfl ?_
        refine m_alen C (N := 6) sa_37 (Or.inl rfl) rfl (r32_of rfl) dX7_valueOf_18 ?_
        refine m_bipush C dX7_valueOf_19 (r32_of rfl) (by decide) ?_
        refine m_icmp_ge C (tgt := 26) dX7_valueOf_21 (by decide) (fun e => ?_) (fun e => ?_)
        · have h := h.1 e
          refine m_aload_n C 0 dX7_valueOf_26 rfl rfl ?_
          refine m_getR C (k := 1) cl_X7 (by decide) so_17 rfl fl_X7_17 dX7_valueOf_27 ?_
          refine m_iload_n C 1 dX7_valueOf_30 rfl rfl ?_
          have hg27 := h.1
          refine m_aald C gr_18 h.1 (grp_18 h.1) dX7_valueOf_31 ?_
          have h := h.2
          refine m_astore C (L' := [(4, vR (19 + Int.toNat a1)), (0, vR 17), (1, vI a1), (2, vI a2), (3, vR 37)]) dX7_valueOf_32 (by rw [hnL]; decide) rfl ?_
          refine m_iload_n C 3 dX7_valueOf_34 rfl rfl ?_
          refine m_if_ne C (tgt := 42) dX7_valueOf_35 (by decide) (fun e => ?_) (fun e => ?_)
          · have h := h.2 e
            refine m_iconst C dX7_valueOf_42 (r32_of rfl) ?_
            refine m_aload_n C 1 dX7_valueOf_43 rfl rfl ?_
            refine m_getR C (k := 2) cl_X7 (by decide) so_17 rfl fl_X7_20 dX7_valueOf_44 ?_
            refine m_iload_n C 2 dX7_valueOf_47 rfl rfl ?_
            have hg28 := h.1
            refine m_aald C gr_25 h.1 (grp_25 h.1) dX7_valueOf_48 ?_
            have h := h.2
            refine m_iload_n C 3 dX7_valueOf_49 rfl rfl ?_
            refine m_iconst C dX7_valueOf_50 (r32_of rfl) ?_
            refine m_isub C dX7_valueOf_51 ?_
            refine m_iald C (N := 3) (gri_25 hg28) h.1 dX7_valueOf_52 ?_
            have h := h.2
            refine m_callSi C (as := [vI 0, vI (M26 (26 + Int.toNat a1) (Int.toNat (w32 (a2 - 1))))]) (rest := []) ok_J9_max_7cf53 ml_X7_47 rfl rfl (Nat.le_of_ble_eq_true rfl) (fun _ => rfl) dX7_valueOf_53 (Con.mono h (fun r29 M30 _ _ h => ?_))
            refine m_istore C (L' := [(5, vI r29), (4, vR (19 + Int.toNat a1)), (0, vR 17), (1, vI a1), (2, vI a2), (3, vR 37)]) dX7_valueOf_56 (by rw [hnL]; decide) rfl ?_
            refine m_aload C 1 dX7_valueOf_58 rfl ?_
            refine m_alen C (N := 160) (gri_18 hg27) (Or.inl rfl) rfl (r32_of rfl) dX7_valueOf_60 ?_
            refine m_aload_n C 2 dX7_valueOf_61 rfl rfl ?_
            refine m_getR C (k := 2) cl_X7 (by decide) so_17 rfl fl_X7_20 dX7_valueOf_62 ?_
            refine m_iload_n C 3 dX7_valueOf_65 rfl rfl ?_
            have hg31 := h.1
            refine m_aald C gr_25 h.1 (grp_25 h.1) dX7_valueOf_66 ?_
            have h := h.2
            refine m_iload_n C 4 dX7_valueOf_67 rfl rfl ?_
            refine m_iald C (N := 3) (gri_25 hg31) h.1 dX7_valueOf_68 ?_
            have h := h.2
            refine m_callSi C (as := [vI 160, vI (M30 (26 + Int.toNat a1) (Int.toNat a2))]) (rest := []) ok_J9_min_7cf53 ml_X7_53 rfl rfl (Nat.le_of_ble_eq_true rfl) (fun _ => rfl) dX7_valueOf_69 (Con.mono h (fun r32 M33 _ _ h => ?_))
            refine m_istore C (L' := [(6, vI r32), (5, vI r29), (4, vR (19 + Int.toNat a1)), (0, vR 17), (1, vI a1), (2, vI a2), (3, vR 37)]) dX7_valueOf_72 (by rw [hnL]; decide) rfl ?_
            refine m_iconst C dX7_valueOf_74 (r32_of rfl) ?_
            refine m_istore C (L' := [(7, vI 0), (6, vI r32), (5, vI r29), (4, vR (19 + Int.toNat a1)), (0, vR 17), (1, vI a1), (2, vI a2), (3, vR 37)]) dX7_valueOf_75 (by rw [hnL]; decide) rfl ?_
            refine m_iload C 2 dX7_valueOf_77 rfl ?_
            refine m_istore C (L' := [(8, vI r29), (7, vI 0), (6, vI r32), (5, vI r29), (4, vR (19 + Int.toNat a1)), (0, vR 17), (1, vI a1), (2, vI a2), (3, vR 37)]) dX7_valueOf_79 (by rw [hnL]; decide) rfl ?_
            exact m_sub [5, 6, 7, 8, 4, 3, 2, 1, 0] rfl h
          · have h := h.1 e
            refine m_iconst C dX7_valueOf_38 (r32_of rfl) ?_
            refine m_goto C (tgt := 56) dX7_valueOf_39 (by decide) ?_
            refine m_istore C (L' := [(5, vI 0), (4, vR (19 + Int.toNat a1)), (0, vR 17), (1, vI a1), (2, vI a2), (3, vR 37)]) dX7_valueOf_56 (by rw [hnL]; decide) rfl ?_
            refine m_aload C 1 dX7_valueOf_58 rfl ?_
            refine m_alen C (N := 160) (gri_18 hg27) (Or.inl rfl) rfl (r32_of rfl) dX7_valueOf_60 ?_
            refine m_aload_n C 2 dX7_valueOf_61 rfl rfl ?_
            refine m_getR C (k := 2) cl_X7 (by decide) so_17 rfl fl_X7_20 dX7_valueOf_62 ?_
            refine m_iload_n C 3 dX7_valueOf_65 rfl rfl ?_
            have hg34 := h.1
            refine m_aald C gr_25 h.1 (grp_25 h.1) dX7_valueOf_66 ?_
            have h := h.2
            refine m_iload_n C 4 dX7_valueOf_67 rfl rfl ?_
            refine m_iald C (N := 3) (gri_25 hg34) h.1 dX7_valueOf_68 ?_
            have h := h.2
            refine m_callSi C (as := [vI 160, vI (M26 (26 + Int.toNat a1) (Int.toNat a2))]) (rest := []) ok_J9_min_7cf53 ml_X7_53 rfl rfl (Nat.le_of_ble_eq_true rfl) (fun _ => rfl) dX7_valueOf_69 (Con.mono h (fun r35 M36 _ _ h => ?_))
            refine m_istore C (L' := [(6, vI r35), (5, vI 0), (4, vR (19 + Int.toNat a1)), (0, vR 17), (1, vI a1), (2, vI a2), (3, vR 37)]) dX7_valueOf_72 (by rw [hnL]; decide) rfl ?_
            refine m_iconst C dX7_valueOf_74 (r32_of rfl) ?_
            refine m_istore C (L' := [(7, vI 0), (6, vI r35), (5, vI 0), (4, vR (19 + Int.toNat a1)), (0, vR 17), (1, vI a1), (2, vI a2), (3, vR 37)]) dX7_valueOf_75 (by rw [hnL]; decide) rfl ?_
            refine m_iload C 2 dX7_valueOf_77 rfl ?_
            refine m_istore C (L' := [(8, vI 0), (7, vI 0), (6, vI r35), (5, vI 0), (4, vR (19 + Int.toNat a1)), (0, vR 17), (1, vI a1), (2, vI a2), (3, vR 37)]) dX7_valueOf_79 (by rw [hnL]; decide) rfl ?_
            exact m_sub [5, 6, 7, 8, 4, 3, 2, 1, 0] rfl h
        · have h := h.2 e
          refine m_iconst C dX7_valueOf_24 (r32_of rfl) ?_
          exact m_iret C E (Or.inl rfl) dX7_valueOf_25 h
def B_X7_isOfOne (n : Nat) (a1 : Int) (M : Mem) (Q : Int → Mem → Prop)  : Prop :=
  ((a1 = (-12) →
  Q 1 M) ∧ (¬ a1 = (-12) →
  ((a1 = (-18) →
    Q 1 M) ∧ (¬ a1 = (-18) →
    Q 0 M))))
set_option maxHeartbeats 4000000 in
set_option maxRecDepth 20000 in
theorem g_X7_isOfOne {n : Nat} {a1 : Int} {M : Mem} {Q : Int → Mem → Prop}  (h : B_X7_isOfOne n a1 M Q) : Con (n + 1) md_X7_isOfOne [vI a1] M Q := by
  refine Con.ofF (n := n + 1) (Nat.succ_pos n) pl_X7_isOfOne (Nat.le_of_ble_eq_true rfl) (fun X C E hnL => ?_)
  have C : Cx X cX7_isOfOne RX7 n := C
  show WM X 0 [(0, vI a1)] [] M
  unfold B_X7_isOfOne at h
  refine m_iload_n C 0 dX7_isOfOne_0 rfl rfl ?_
  refine m_bipush C dX7_isOfOne_1 (r32_of rfl) (by decide) ?_
  refine m_icmp_eq C (tgt := 12) dX7_isOfOne_3 (by decide) (fun e => ?_) (fun e => ?_)
  · have h := h.1 e
    refine m_iconst C dX7_isOfOne_12 (r32_of rfl) ?_
    refine m_goto C (tgt := 17) dX7_isOfOne_13 (by decide) ?_
    exact m_iret C E (Or.inr ⟨rfl, Or.inr rfl⟩) dX7_isOfOne_17 h
  · have h := h.2 e
    refine m_iload_n C 0 dX7_isOfOne_6 rfl rfl ?_
    refine m_bipush C dX7_isOfOne_7 (r32_of rfl) (by decide) ?_
    refine m_icmp_ne C (tgt := 16) dX7_isOfOne_9 (by decide) (fun e => ?_) (fun e => ?_)
    · have h := h.2 e
      refine m_iconst C dX7_isOfOne_16 (r32_of rfl) ?_
      exact m_iret C E (Or.inr ⟨rfl, Or.inl rfl⟩) dX7_isOfOne_17 h
    · have h := h.1 e
      refine m_iconst C dX7_isOfOne_12 (r32_of rfl) ?_
      refine m_goto C (tgt := 17) dX7_isOfOne_13 (by decide) ?_
      exact m_iret C E (Or.inr ⟨rfl, Or.inr rfl⟩) dX7_isOfOne_17 h
def B_X7_ofOne (n : Nat) (a1 : Int) (a2 : Int) (M : Mem) (Q : Int → Mem → Prop)  : Prop :=
  ((a1 = (-18) →
  Q (w32 (-a2)) M) ∧ (¬ a1 = (-18) →
  ((a2 = 0 →
    Q 1 M) ∧ (¬ a2 = 0 →
    Q 0 M))))
set_option maxHeartbeats 4000000 in
set_option maxRecDepth 20000 in
theorem g_X7_ofOne {n : Nat} {a1 : Int} {a2 : Int} {M : Mem} {Q : Int → Mem → Prop}  (h : B_X7_ofOne n a1 a2 M Q) : Con (n + 1) md_X7_ofOne [vI a1, vI a2] M Q := by
  refine Con.ofF (n := n + 1) (Nat.succ_pos n) pl_X7_ofOne (Nat.le_of_ble_eq_true rfl) (fun X C E hnL => ?_)
  have C : Cx X cX7_ofOne RX7 n := C
  show WM X 0 [(0, vI a1), (1, vI a2)] [] M
  unfold B_X7_ofOne at h
  refine m_iload_n C 0 dX7_ofOne_0 rfl rfl ?_
  refine m_bipush C dX7_ofOne_1 (r32_of rfl) (by decide) ?_
  refine m_icmp_ne C (tgt := 11) dX7_ofOne_3 (by decide) (fun e => ?_) (fun e => ?_)
  · have h := h.2 e
    refine m_iload_n C 1 dX7_ofOne_11 rfl rfl ?_
    refine m_if_ne C (tgt := 19) dX7_ofOne_12 (by decide) (fun e => ?_) (fun e => ?_)
    · have h := h.2 e
      refine m_iconst C dX7_ofOne_19 (r32_of rfl) ?_
      exact m_iret C E (Or.inl rfl) dX7_ofOne_20 h
    · have h := h.1 e
      refine m_iconst C dX7_ofOne_15 (r32_of rfl) ?_
      refine m_goto C (tgt := 20) dX7_ofOne_16 (by decide) ?_
      exact m_iret C E (Or.inl rfl) dX7_ofOne_20 h
  · have h := h.1 e
    refine m_iload_n C 1 dX7_ofOne_6 rfl rfl ?_
    refine m_ineg C dX7_ofOne_7 ?_
    refine m_goto C (tgt := 20) dX7_ofOne_8 (by decide) ?_
    exact m_iret C E (Or.inl rfl) dX7_ofOne_20 h
def B_X7_ofTwo (n : Nat) (a1 : Int) (a2 : Int) (a3 : Int) (M : Mem) (Q : Int → Mem → Prop)  : Prop :=
  (((a1 < (-17) ∨ (-10) < a1 ∨ a1 = (-12)) →
  Q 0 M) ∧ ((a1 = (-17)) →
  Q (w32 (a2 * a3)) M) ∧ ((a1 = (-16)) →
  Q (w32 (a2 - a3)) M) ∧ ((a1 = (-15)) →
  Q (w32 (a2 + a3)) M) ∧ ((a1 = (-14)) →
  ((a2 = a3 →
    Q 1 M) ∧ (¬ a2 = a3 →
    Q 0 M))) ∧ ((a1 = (-13)) →
  ((a3 ≤ a2 →
    Q 0 M) ∧ (¬ a3 ≤ a2 →
    Q 1 M))) ∧ ((a1 = (-11)) →
  ((a2 = 0 →
    Q 0 M) ∧ (¬ a2 = 0 →
    ((a3 = 0 →
      Q 0 M) ∧ (¬ a3 = 0 →
      Q 1 M))))) ∧ ((a1 = (-10)) →
  ((a2 = 0 →
    ((a3 = 0 →
      Q 0 M) ∧ (¬ a3 = 0 →
      Q 1 M))) ∧ (¬ a2 = 0 →
    Q 1 M))))
set_option maxHeartbeats 4000000 in
set_option maxRecDepth 20000 in
theorem g_X7_ofTwo {n : Nat} {a1 : Int} {a2 : Int} {a3 : Int} {M : Mem} {Q : Int → Mem → Prop}  (h : B_X7_ofTwo n a1 a2 a3 M Q) : Con (n + 1) md_X7_ofTwo [vI a1, vI a2, vI a3] M Q := by
  refine Con.ofF (n := n + 1) (Nat.succ_pos n) pl_X7_ofTwo (Nat.le_of_ble_eq_true rfl) (fun X C E hnL => ?_)
  have C : Cx X cX7_ofTwo RX7 n := C
  show WM X 0 [(0, vI a1), (1, vI a2), (2, vI a3)] [] M
  unfold B_X7_ofTwo at h
  refine m_iload_n C 0 dX7_ofTwo_0 rfl rfl ?_
  by_cases ho : a1 < (-17) ∨ (-10) < a1
  · have h := h.1 (by omega)
    refine m_tabO C (tgt := 110) dX7_ofTwo_1 ho (by decide) ?_
    refine m_iconst C dX7_ofTwo_110 (r32_of rfl) ?_
    exact m_iret C E (Or.inl rfl) dX7_ofTwo_111 h
  · obtain hx | hx | hx | hx | hx | hx | hx | hx : a1 = (-17) ∨ a1 = (-16) ∨ a1 = (-15) ∨ a1 = (-14) ∨ a1 = (-13) ∨ a1 = (-12) ∨ a1 = (-11) ∨ a1 = (-10) := by omega
    · have h := h.2.1 (by omega)
      refine m_tabI C (tgt := 106) dX7_ofTwo_1 (by omega) (by omega) (by rw [hx]; rfl) (by decide) ?_
      refine m_iload_n C 1 dX7_ofTwo_106 rfl rfl ?_
      refine m_iload_n C 2 dX7_ofTwo_107 rfl rfl ?_
      refine m_imul C dX7_ofTwo_108 ?_
      exact m_iret C E (Or.inl rfl) dX7_ofTwo_109 h
    · have h := h.2.2.1 (by omega)
      refine m_tabI C (tgt := 102) dX7_ofTwo_1 (by omega) (by omega) (by rw [hx]; rfl) (by decide) ?_
      refine m_iload_n C 1 dX7_ofTwo_102 rfl rfl ?_
      refine m_iload_n C 2 dX7_ofTwo_103 rfl rfl ?_
      refine m_isub C dX7_ofTwo_104 ?_
      exact m_iret C E (Or.inl rfl) dX7_ofTwo_105 h
    · have h := h.2.2.2.1 (by omega)
      refine m_tabI C (tgt := 98) dX7_ofTwo_1 (by omega) (by omega) (by rw [hx]; rfl) (by decide) ?_
      refine m_iload_n C 1 dX7_ofTwo_98 rfl rfl ?_
      refine m_iload_n C 2 dX7_ofTwo_99 rfl rfl ?_
      refine m_iadd C dX7_ofTwo_100 ?_
      exact m_iret C E (Or.inl rfl) dX7_ofTwo_101 h
    · have h := h.2.2.2.2.1 (by omega)
      refine m_tabI C (tgt := 87) dX7_ofTwo_1 (by omega) (by omega) (by rw [hx]; rfl) (by decide) ?_
      refine m_iload_n C 1 dX7_ofTwo_87 rfl rfl ?_
      refine m_iload_n C 2 dX7_ofTwo_88 rfl rfl ?_
      refine m_icmp_ne C (tgt := 96) dX7_ofTwo_89 (by decide) (fun e => ?_) (fun e => ?_)
      · have h := h.2 e
        refine m_iconst C dX7_ofTwo_96 (r32_of rfl) ?_
        exact m_iret C E (Or.inl rfl) dX7_ofTwo_97 h
      · have h := h.1 e
        refine m_iconst C dX7_ofTwo_92 (r32_of rfl) ?_
        refine m_goto C (tgt := 97) dX7_ofTwo_93 (by decide) ?_
        exact m_iret C E (Or.inl rfl) dX7_ofTwo_97 h
    · have h := h.2.2.2.2.2.1 (by omega)
      refine m_tabI C (tgt := 76) dX7_ofTwo_1 (by omega) (by omega) (by rw [hx]; rfl) (by decide) ?_
      refine m_iload_n C 1 dX7_ofTwo_76 rfl rfl ?_
      refine m_iload_n C 2 dX7_ofTwo_77 rfl rfl ?_
      refine m_icmp_ge C (tgt := 85) dX7_ofTwo_78 (by decide) (fun e => ?_) (fun e => ?_)
      · have h := h.1 e
        refine m_iconst C dX7_ofTwo_85 (r32_of rfl) ?_
        exact m_iret C E (Or.inl rfl) dX7_ofTwo_86 h
      · have h := h.2 e
        refine m_iconst C dX7_ofTwo_81 (r32_of rfl) ?_
        refine m_goto C (tgt := 86) dX7_ofTwo_82 (by decide) ?_
        exact m_iret C E (Or.inl rfl) dX7_ofTwo_86 h
    · have h := h.1 (by omega)
      refine m_tabI C (tgt := 110) dX7_ofTwo_1 (by omega) (by omega) (by rw [hx]; rfl) (by decide) ?_
      refine m_iconst C dX7_ofTwo_110 (r32_of rfl) ?_
      exact m_iret C E (Or.inl rfl) dX7_ofTwo_111 h
    · have h := h.2.2.2.2.2.2.1 (by omega)
      refine m_tabI C (tgt := 62) dX7_ofTwo_1 (by omega) (by omega) (by rw [hx]; rfl) (by decide) ?_
      refine m_iload_n C 1 dX7_ofTwo_62 rfl rfl ?_
      refine m_if_eq C (tgt := 74) dX7_ofTwo_63 (by decide) (fun e => ?_) (fun e => ?_)
      · have h := h.1 e
        refine m_iconst C dX7_ofTwo_74 (r32_of rfl) ?_
        exact m_iret C E (Or.inl rfl) dX7_ofTwo_75 h
      · have h := h.2 e
        refine m_iload_n C 2 dX7_ofTwo_66 rfl rfl ?_
        refine m_if_eq C (tgt := 74) dX7_ofTwo_67 (by decide) (fun e => ?_) (fun e => ?_)
        · have h := h.1 e
          refine m_iconst C dX7_ofTwo_74 (r32_of rfl) ?_
          exact m_iret C E (Or.inl rfl) dX7_ofTwo_75 h
        · have h := h.2 e
          refine m_iconst C dX7_ofTwo_70 (r32_of rfl) ?_
          refine m_goto C (tgt := 75) dX7_ofTwo_71 (by decide) ?_
          exact m_iret C E (Or.inl rfl) dX7_ofTwo_75 h
    · have h := h.2.2.2.2.2.2.2 (by omega)
      refine m_tabI C (tgt := 48) dX7_ofTwo_1 (by omega) (by omega) (by rw [hx]; rfl) (by decide) ?_
      refine m_iload_n C 1 dX7_ofTwo_48 rfl rfl ?_
      refine m_if_ne C (tgt := 56) dX7_ofTwo_49 (by decide) (fun e => ?_) (fun e => ?_)
      · have h := h.2 e
        refine m_iconst C dX7_ofTwo_56 (r32_of rfl) ?_
        refine m_goto C (tgt := 61) dX7_ofTwo_57 (by decide) ?_
        exact m_iret C E (Or.inl rfl) dX7_ofTwo_61 h
      · have h := h.1 e
        refine m_iload_n C 2 dX7_ofTwo_52 rfl rfl ?_
        refine m_if_eq C (tgt := 60) dX7_ofTwo_53 (by decide) (fun e => ?_) (fun e => ?_)
        · have h := h.1 e
          refine m_iconst C dX7_ofTwo_60 (r32_of rfl) ?_
          exact m_iret C E (Or.inl rfl) dX7_ofTwo_61 h
        · have h := h.2 e
          refine m_iconst C dX7_ofTwo_56 (r32_of rfl) ?_
          refine m_goto C (tgt := 61) dX7_ofTwo_57 (by decide) ?_
          exact m_iret C E (Or.inl rfl) dX7_ofTwo_61 h
def B_X4_readTape_21 (n : Nat)  (x1 : Int) (M : Mem) (Q : Int → Mem → Prop) (K21 : Int → Mem → Prop) : Prop :=
  ((3 ≤ x1 →
  Con n md_X4_expect [vR 33, vI 13] M (fun _ M2 =>
    Q (M2 33 5) M2)) ∧ (¬ 3 ≤ x1 →
  Con n md_X4_expect [vR 33, vI (w32 (6 + x1))] M (fun _ M4 =>
    Con n md_X4_readOr [vR 33, vI 0] M4 (fun _ M6 =>
    Con n md_X4_expect [vR 33, vI 59] M6 (fun _ M8 =>
    ((0 ≤ x1 ∧ x1 < 3) ∧ (∀ M9 : Mem, M9 = up M8 35 (Int.toNat x1) (M8 33 3) →
    K21 (w32 (x1 + 1)) M9)))))))
def B_X4_readTape (n : Nat)  (M : Mem) (Q : Int → Mem → Prop) (K21 : Int → Mem → Prop) : Prop :=
  (∀ M10 : Mem, M10 = up M 33 3 0 →
  (∀ M11 : Mem, M11 = up M10 33 4 0 →
  (∀ M12 : Mem, M12 = up M11 33 5 (-1) →
  Con n md_X4_advance [vR 33] M12 (fun _ M14 =>
  K21 0 M14))))
set_option maxHeartbeats 4000000 in
set_option maxRecDepth 20000 in
theorem g_X4_readTape {n : Nat}  {M : Mem} {Q : Int → Mem → Prop}  (h : ∀ (K21 : Int → Mem → Prop), (∀ (x1 : Int) (M : Mem), B_X4_readTape_21 n  x1 M Q K21 → K21 x1 M) → B_X4_readTape n  M Q K21) : Con (n + 1) md_X4_readTape [vR 33] M Q := by
  refine Con.ofF (n := n + 1) (Nat.succ_pos n) pl_X4_readTape (Nat.le_of_ble_eq_true rfl) (fun X C E hnL => ?_)
  have C : Cx X cX4_readTape RX4 n := C
  show WM X 0 [(0, vR 33)] [] M
  have hb21 : ∀ (x1 : Int) (M : Mem), B_X4_readTape_21 n  x1 M Q (fun (x1 : Int) (M : Mem) => WM X 21 [(0, vR 33), (1, vI x1)] [] M) → WM X 21 [(0, vR 33), (1, vI x1)] [] M := by
    intro x1 M h
    unfold B_X4_readTape_21 at h
    refine m_iload_n C 1 dX4_readTape_21 rfl rfl ?_
    refine m_iconst C dX4_readTape_22 (r32_of rfl) ?_
    refine m_icmp_ge C (tgt := 61) dX4_readTape_23 (by decide) (fun e => ?_) (fun e => ?_)
    · have h := h.1 e
      refine m_aload_n C 0 dX4_readTape_61 rfl rfl ?_
      refine m_bipush C dX4_readTape_62 (r32_of rfl) (by decide) ?_
      refine m_callVv C (as := [vI 13]) (rest := []) ok_X4_expect ml_X4_46 so_33 rfl rfl rfl (Nat.le_of_ble_eq_true rfl) (fun _ => rfl) dX4_readTape_64 (Con.mono h (fun _ M2 _ _ h => ?_))
      refine m_aload_n C 0 dX4_readTape_67 rfl rfl ?_
      refine m_getI C (k := 5) cl_X4 (by decide) so_33 rfl fl_X4_27 dX4_readTape_68 ?_
      exact m_iret C E (Or.inl rfl) dX4_readTape_71 h
    · have h := h.2 e
      refine m_aload_n C 0 dX4_readTape_26 rfl rfl ?_
      refine m_bipush C dX4_readTape_27 (r32_of rfl) (by decide) ?_
      refine m_iload_n C 1 dX4_readTape_29 rfl rfl ?_
      refine m_iadd C dX4_readTape_30 ?_
      refine m_callVv C (as := [vI (w32 (6 + x1))]) (rest := []) ok_X4_expect ml_X4_46 so_33 rfl rfl rfl (Nat.le_of_ble_eq_true rfl) (fun _ => rfl) dX4_readTape_31 (Con.mono h (fun _ M4 _ _ h => ?_))
      refine m_aload_n C 0 dX4_readTape_34 rfl rfl ?_
      refine m_iconst C dX4_readTape_35 (r32_of rfl) ?_
      refine m_callVv C (as := [vI 0]) (rest := []) ok_X4_readOr ml_X4_50 so_33 rfl rfl rfl (Nat.le_of_ble_eq_true rfl) (fun _ => rfl) dX4_readTape_36 (Con.mono h (fun _ M6 _ _ h => ?_))
      refine m_aload_n C 0 dX4_readTape_39 rfl rfl ?_
      refine m_bipush C dX4_readTape_40 (r32_of rfl) (by decide) ?_
      refine m_callVv C (as := [vI 59]) (rest := []) ok_X4_expect ml_X4_46 so_33 rfl rfl rfl (Nat.le_of_ble_eq_true rfl) (fun _ => rfl) dX4_readTape_42 (Con.mono h (fun _ M8 _ _ h => ?_))
      refine m_aload_n C 0 dX4_readTape_45 rfl rfl ?_
      refine m_getR C (k := 2) cl_X4 (by decide) so_33 rfl fl_X4_17 dX4_readTape_46 ?_
      refine m_iload_n C 1 dX4_readTape_49 rfl rfl ?_
      refine m_aload_n C 0 dX4_readTape_50 rfl rfl ?_
      refine m_getI C (k := 3) cl_X4 (by decide) so_33 rfl fl_X4_20 dX4_readTape_51 ?_
      refine m_iast C (N := 3) sa_35 h.1 dX4_readTape_54 ?_
      have h := h.2
      generalize eM9 : up M8 35 (Int.toNat x1) (M8 33 3) = M9
      have h := h M9 eM9.symm
      refine m_iinc C (L' := [(1, vI (w32 (x1 + 1))), (0, vR 33)]) 1 dX4_readTape_55 rfl (by rw [hnL]; decide) rfl ?_
      refine m_goto C (tgt := 21) dX4_readTape_58 (by decide) ?_
      exact m_sub [1, 0] rfl h
  have h := h (fun (x1 : Int) (M : Mem) => WM X 21 [(0, vR 33), (1, vI x1)] [] M) hb21
  unfold B_X4_readTape at h
  refine m_aload_n C 0 dX4_readTape_0 rfl rfl ?_
  refine m_iconst C dX4_readTape_1 (r32_of rfl) ?_
  refine m_putI C (k := 3) cl_X4 (by decide) so_33 rfl rfl rfl fl_X4_20 dX4_readTape_2 ?_
  generalize eM10 : up M 33 3 0 = M10
  have h := h M10 eM10.symm
  refine m_aload_n C 0 dX4_readTape_5 rfl rfl ?_
  refine m_iconst C dX4_readTape_6 (r32_of rfl) ?_
  refine m_putI C (k := 4) cl_X4 (by decide) so_33 rfl rfl rfl fl_X4_24 dX4_readTape_7 ?_
  generalize eM11 : up M10 33 4 0 = M11
  have h := h M11 eM11.symm
  refine m_aload_n C 0 dX4_readTape_10 rfl rfl ?_
  refine m_iconst C dX4_readTape_11 (r32_of rfl) ?_
  refine m_putI C (k := 5) cl_X4 (by decide) so_33 rfl rfl rfl fl_X4_27 dX4_readTape_12 ?_
  generalize eM12 : up M11 33 5 (-1) = M12
  have h := h M12 eM12.symm
  refine m_aload_n C 0 dX4_readTape_15 rfl rfl ?_
  refine m_callVv C (as := []) (rest := []) ok_X4_advance ml_X4_43 so_33 rfl rfl rfl (Nat.le_of_ble_eq_true rfl) (fun _ => rfl) dX4_readTape_16 (Con.mono h (fun _ M14 _ _ h => ?_))
  refine m_iconst C dX4_readTape_19 (r32_of rfl) ?_
  refine m_istore_n C (L' := [(1, vI 0), (0, vR 33)]) dX4_readTape_20 rfl (by rw [hnL]; decide) rfl ?_
  exact m_sub [1, 0] rfl h
def B_X4_expect (n : Nat) (a1 : Int) (M : Mem) (Q : Int → Mem → Prop)  : Prop :=
  (((M 33 6) = a1 →
  Con n md_X4_advance [vR 33] M (fun _ M4 =>
    Q 0 M4)) ∧ (¬ (M 33 6) = a1 →
  Con n md_X4_fail [vR 33] M (fun _ M2 =>
    Q 0 M2)))
set_option maxHeartbeats 4000000 in
set_option maxRecDepth 20000 in
theorem g_X4_expect {n : Nat} {a1 : Int} {M : Mem} {Q : Int → Mem → Prop}  (h : B_X4_expect n a1 M Q) : Con (n + 1) md_X4_expect [vR 33, vI a1] M Q := by
  refine Con.ofF (n := n + 1) (Nat.succ_pos n) pl_X4_expect (Nat.le_of_ble_eq_true rfl) (fun X C E hnL => ?_)
  have C : Cx X cX4_expect RX4 n := C
  show WM X 0 [(0, vR 33), (1, vI a1)] [] M
  unfold B_X4_expect at h
  refine m_aload_n C 0 dX4_expect_0 rfl rfl ?_
  refine m_getI C (k := 6) cl_X4 (by decide) so_33 rfl fl_X4_30 dX4_expect_1 ?_
  refine m_iload_n C 1 dX4_expect_4 rfl rfl ?_
  refine m_icmp_ne C (tgt := 15) dX4_expect_5 (by decide) (fun e => ?_) (fun e => ?_)
  · have h := h.2 e
    refine m_aload_n C 0 dX4_expect_15 rfl rfl ?_
    refine m_callVv C (as := []) (rest := []) ok_X4_fail ml_X4_53 so_33 rfl rfl rfl (Nat.le_of_ble_eq_true rfl) (fun _ => rfl) dX4_expect_16 (Con.mono h (fun _ M2 _ _ h => ?_))
    exact m_vret C E dX4_expect_19 h
  · have h := h.1 e
    refine m_aload_n C 0 dX4_expect_8 rfl rfl ?_
    refine m_callVv C (as := []) (rest := []) ok_X4_advance ml_X4_43 so_33 rfl rfl rfl (Nat.le_of_ble_eq_true rfl) (fun _ => rfl) dX4_expect_9 (Con.mono h (fun _ M4 _ _ h => ?_))
    refine m_goto C (tgt := 19) dX4_expect_12 (by decide) ?_
    exact m_vret C E dX4_expect_19 h
def B_X4_fail (n : Nat)  (M : Mem) (Q : Int → Mem → Prop)  : Prop :=
  (((M 33 5) = (-1) →
  (∀ M2 : Mem, M2 = up M 33 5 (M 33 7) →
    (∀ M3 : Mem, M3 = up M2 33 6 14 →
    Q 0 M3))) ∧ (¬ (M 33 5) = (-1) →
  (∀ M1 : Mem, M1 = up M 33 6 14 →
    Q 0 M1)))
set_option maxHeartbeats 4000000 in
set_option maxRecDepth 20000 in
theorem g_X4_fail {n : Nat}  {M : Mem} {Q : Int → Mem → Prop}  (h : B_X4_fail n  M Q) : Con (n + 1) md_X4_fail [vR 33] M Q := by
  refine Con.ofF (n := n + 1) (Nat.succ_pos n) pl_X4_fail (Nat.le_of_ble_eq_true rfl) (fun X C E hnL => ?_)
  have C : Cx X cX4_fail RX4 n := C
  show WM X 0 [(0, vR 33)] [] M
  unfold B_X4_fail at h
  refine m_aload_n C 0 dX4_fail_0 rfl rfl ?_
  refine m_getI C (k := 5) cl_X4 (by decide) so_33 rfl fl_X4_27 dX4_fail_1 ?_
  refine m_iconst C dX4_fail_4 (r32_of rfl) ?_
  refine m_icmp_ne C (tgt := 16) dX4_fail_5 (by decide) (fun e => ?_) (fun e => ?_)
  · have h := h.2 e
    refine m_aload_n C 0 dX4_fail_16 rfl rfl ?_
    refine m_bipush C dX4_fail_17 (r32_of rfl) (by decide) ?_
    refine m_putI C (k := 6) cl_X4 (by decide) so_33 rfl rfl rfl fl_X4_30 dX4_fail_19 ?_
    generalize eM1 : up M 33 6 14 = M1
    have h := h M1 eM1.symm
    exact m_vret C E dX4_fail_22 h
  · have h := h.1 e
    refine m_aload_n C 0 dX4_fail_8 rfl rfl ?_
    refine m_aload_n C 0 dX4_fail_9 rfl rfl ?_
    refine m_getI C (k := 7) cl_X4 (by decide) so_33 rfl fl_X4_33 dX4_fail_10 ?_
    refine m_putI C (k := 5) cl_X4 (by decide) so_33 rfl rfl rfl fl_X4_27 dX4_fail_13 ?_
    generalize eM2 : up M 33 5 (M 33 7) = M2
    have h := h M2 eM2.symm
    refine m_aload_n C 0 dX4_fail_16 rfl rfl ?_
    refine m_bipush C dX4_fail_17 (r32_of rfl) (by decide) ?_
    refine m_putI C (k := 6) cl_X4 (by decide) so_33 rfl rfl rfl fl_X4_30 dX4_fail_19 ?_
    generalize eM3 : up M2 33 6 14 = M3
    have h := h M3 eM3.symm
    exact m_vret C E dX4_fail_22 h
def B_X4_make (n : Nat) (a1 : Int) (M : Mem) (Q : Int → Mem → Prop)  : Prop :=
  ((160 ≤ (M 33 3) →
  Q 0 M) ∧ (¬ 160 ≤ (M 33 3) →
  ((0 ≤ (M 33 3) ∧ (M 33 3) < 160) ∧ (∀ M1 : Mem, M1 = up M 34 (Int.toNat (M 33 3)) a1 →
    (∀ M2 : Mem, M2 = up M1 33 3 (w32 ((M1 33 3) + 1)) →
    Q 0 M2)))))
set_option maxHeartbeats 4000000 in
set_option maxRecDepth 20000 in
theorem g_X4_make {n : Nat} {a1 : Int} {M : Mem} {Q : Int → Mem → Prop}  (h : B_X4_make n a1 M Q) : Con (n + 1) md_X4_make [vR 33, vI a1] M Q := by
  refine Con.ofF (n := n + 1) (Nat.succ_pos n) pl_X4_make (Nat.le_of_ble_eq_true rfl) (fun X C E hnL => ?_)
  have C : Cx X cX4_make RX4 n := C
  show WM X 0 [(0, vR 33), (1, vI a1)] [] M
  unfold B_X4_make at h
  refine m_aload_n C 0 dX4_make_0 rfl rfl ?_
  refine m_getI C (k := 3) cl_X4 (by decide) so_33 rfl fl_X4_20 dX4_make_1 ?_
  refine m_sipush C dX4_make_4 (r32_of rfl) (by decide) ?_
  refine m_icmp_ge C (tgt := 30) dX4_make_7 (by decide) (fun e => ?_) (fun e => ?_)
  · have h := h.1 e
    exact m_vret C E dX4_make_30 h
  · have h := h.2 e
    refine m_aload_n C 0 dX4_make_10 rfl rfl ?_
    refine m_getR C (k := 1) cl_X4 (by decide) so_33 rfl fl_X4_9 dX4_make_11 ?_
    refine m_aload_n C 0 dX4_make_14 rfl rfl ?_
    refine m_getI C (k := 3) cl_X4 (by decide) so_33 rfl fl_X4_20 dX4_make_15 ?_
    refine m_iload_n C 1 dX4_make_18 rfl rfl ?_
    refine m_iast C (N := 160) sa_34 h.1 dX4_make_19 ?_
    have h := h.2
    generalize eM1 : up M 34 (Int.toNat (M 33 3)) a1 = M1
    have h := h M1 eM1.symm
    refine m_aload_n C 0 dX4_make_20 rfl rfl ?_
    refine m_dupR C dX4_make_21 ?_
    refine m_getI C (k := 3) cl_X4 (by decide) so_33 rfl fl_X4_20 dX4_make_22 ?_
    refine m_iconst C dX4_make_25 (r32_of rfl) ?_
    refine m_iadd C dX4_make_26 ?_
    refine m_putI C (k := 3) cl_X4 (by decide) so_33 rfl rfl rfl fl_X4_20 dX4_make_27 ?_
    generalize eM2 : up M1 33 3 (w32 ((M1 33 3) + 1)) = M2
    have h := h M2 eM2.symm
    exact m_vret C E dX4_make_30 h
def B_X4_readOr_7 (n : Nat) (a1 : Int) (x2 : Int) (M : Mem) (Q : Int → Mem → Prop) (K7 : Int → Mem → Prop) : Prop :=
  ((160 ≤ x2 →
  Q 0 M) ∧ (¬ 160 ≤ x2 →
  (((M 33 6) = 9 →
    Con n md_X4_advance [vR 33] M (fun _ M2 =>
      Con n md_X4_readAnd [vR 33, vI a1] M2 (fun _ M4 =>
      Con n md_X4_make [vR 33, vI (-10)] M4 (fun _ M6 =>
      K7 (w32 (x2 + 1)) M6)))) ∧ (¬ (M 33 6) = 9 →
    Q 0 M))))
def B_X4_readOr (n : Nat) (a1 : Int) (M : Mem) (Q : Int → Mem → Prop) (K7 : Int → Mem → Prop) : Prop :=
  Con n md_X4_readAnd [vR 33, vI a1] M (fun _ M8 =>
  K7 0 M8)
set_option maxHeartbeats 4000000 in
set_option maxRecDepth 20000 in
theorem g_X4_readOr {n : Nat} {a1 : Int} {M : Mem} {Q : Int → Mem → Prop}  (h : ∀ (K7 : Int → Mem → Prop), (∀ (x2 : Int) (M : Mem), B_X4_readOr_7 n a1 x2 M Q K7 → K7 x2 M) → B_X4_readOr n a1 M Q K7) : Con (n + 1) md_X4_readOr [vR 33, vI a1] M Q := by
  refine Con.ofF (n := n + 1) (Nat.succ_pos n) pl_X4_readOr (Nat.le_of_ble_eq_true rfl) (fun X C E hnL => ?_)
  have C : Cx X cX4_readOr RX4 n := C
  show WM X 0 [(0, vR 33), (1, vI a1)] [] M
  have hb7 : ∀ (x2 : Int) (M : Mem), B_X4_readOr_7 n a1 x2 M Q (fun (x2 : Int) (M : Mem) => WM X 7 [(0, vR 33), (1, vI a1), (2, vI x2)] [] M) → WM X 7 [(0, vR 33), (1, vI a1), (2, vI x2)] [] M := by
    intro x2 M h
    unfold B_X4_readOr_7 at h
    refine m_iload_n C 2 dX4_readOr_7 rfl rfl ?_
    refine m_sipush C dX4_readOr_8 (r32_of rfl) (by decide) ?_
    refine m_icmp_ge C (tgt := 44) dX4_readOr_11 (by decide) (fun e => ?_) (fun e => ?_)
    · have h := h.1 e
      exact m_vret C E dX4_readOr_44 h
    · have h := h.2 e
      refine m_aload_n C 0 dX4_readOr_14 rfl rfl ?_
      refine m_getI C (k := 6) cl_X4 (by decide) so_33 rfl fl_X4_30 dX4_readOr_15 ?_
      refine m_bipush C dX4_readOr_18 (r32_of rfl) (by decide) ?_
      refine m_icmp_ne C (tgt := 44) dX4_readOr_20 (by decide) (fun e => ?_) (fun e => ?_)
      · have h := h.2 e
        exact m_vret C E dX4_readOr_44 h
      · have h := h.1 e
        refine m_aload_n C 0 dX4_readOr_23 rfl rfl ?_
        refine m_callVv C (as := []) (rest := []) ok_X4_advance ml_X4_43 so_33 rfl rfl rfl (Nat.le_of_ble_eq_true rfl) (fun _ => rfl) dX4_readOr_24 (Con.mono h (fun _ M2 _ _ h => ?_))
        refine m_aload_n C 0 dX4_readOr_27 rfl rfl ?_
        refine m_iload_n C 1 dX4_readOr_28 rfl rfl ?_
        refine m_callVv C (as := [vI a1]) (rest := []) ok_X4_readAnd ml_X4_56 so_33 rfl rfl rfl (Nat.le_of_ble_eq_true rfl) (fun _ => rfl) dX4_readOr_29 (Con.mono h (fun _ M4 _ _ h => ?_))
        refine m_aload_n C 0 dX4_readOr_32 rfl rfl ?_
        refine m_bipush C dX4_readOr_33 (r32_of rfl) (by decide) ?_
        refine m_callVv C (as := [vI (-10)]) (rest := []) ok_X4_make ml_X4_59 so_33 rfl rfl rfl (Nat.le_of_ble_eq_true rfl) (fun _ => rfl) dX4_readOr_35 (Con.mono h (fun _ M6 _ _ h => ?_))
        refine m_iinc C (L' := [(2, vI (w32 (x2 + 1))), (0, vR 33), (1, vI a1)]) 2 dX4_readOr_38 rfl (by rw [hnL]; decide) rfl ?_
        refine m_goto C (tgt := 7) dX4_readOr_41 (by decide) ?_
        exact m_sub [1, 2, 0] rfl h
  have h := h (fun (x2 : Int) (M : Mem) => WM X 7 [(0, vR 33), (1, vI a1), (2, vI x2)] [] M) hb7
  unfold B_X4_readOr at h
  refine m_aload_n C 0 dX4_readOr_0 rfl rfl ?_
  refine m_iload_n C 1 dX4_readOr_1 rfl rfl ?_
  refine m_callVv C (as := [vI a1]) (rest := []) ok_X4_readAnd ml_X4_56 so_33 rfl rfl rfl (Nat.le_of_ble_eq_true rfl) (fun _ => rfl) dX4_readOr_2 (Con.mono h (fun _ M8 _ _ h => ?_))
  refine m_iconst C dX4_readOr_5 (r32_of rfl) ?_
  refine m_istore_n C (L' := [(2, vI 0), (0, vR 33), (1, vI a1)]) dX4_readOr_6 rfl (by rw [hnL]; decide) rfl ?_
  exact m_sub [1, 2, 0] rfl h
def B_X4_readAnd_7 (n : Nat) (a1 : Int) (x2 : Int) (M : Mem) (Q : Int → Mem → Prop) (K7 : Int → Mem → Prop) : Prop :=
  ((160 ≤ x2 →
  Q 0 M) ∧ (¬ 160 ≤ x2 →
  (((M 33 6) = 10 →
    Con n md_X4_advance [vR 33] M (fun _ M2 =>
      Con n md_X4_readNot [vR 33, vI a1] M2 (fun _ M4 =>
      Con n md_X4_make [vR 33, vI (-11)] M4 (fun _ M6 =>
      K7 (w32 (x2 + 1)) M6)))) ∧ (¬ (M 33 6) = 10 →
    Q 0 M))))
def B_X4_readAnd (n : Nat) (a1 : Int) (M : Mem) (Q : Int → Mem → Prop) (K7 : Int → Mem → Prop) : Prop :=
  Con n md_X4_readNot [vR 33, vI a1] M (fun _ M8 =>
  K7 0 M8)
set_option maxHeartbeats 4000000 in
set_option maxRecDepth 20000 in
theorem g_X4_readAnd {n : Nat} {a1 : Int} {M : Mem} {Q : Int → Mem → Prop}  (h : ∀ (K7 : Int → Mem → Prop), (∀ (x2 : Int) (M : Mem), B_X4_readAnd_7 n a1 x2 M Q K7 → K7 x2 M) → B_X4_readAnd n a1 M Q K7) : Con (n + 1) md_X4_readAnd [vR 33, vI a1] M Q := by
  refine Con.ofF (n := n + 1) (Nat.succ_pos n) pl_X4_readAnd (Nat.le_of_ble_eq_true rfl) (fun X C E hnL => ?_)
  have C : Cx X cX4_readAnd RX4 n := C
  show WM X 0 [(0, vR 33), (1, vI a1)] [] M
  have hb7 : ∀ (x2 : Int) (M : Mem), B_X4_readAnd_7 n a1 x2 M Q (fun (x2 : Int) (M : Mem) => WM X 7 [(0, vR 33), (1, vI a1), (2, vI x2)] [] M) → WM X 7 [(0, vR 33), (1, vI a1), (2, vI x2)] [] M := by
    intro x2 M h
    unfold B_X4_readAnd_7 at h
    refine m_iload_n C 2 dX4_readAnd_7 rfl rfl ?_
    refine m_sipush C dX4_readAnd_8 (r32_of rfl) (by decide) ?_
    refine m_icmp_ge C (tgt := 44) dX4_readAnd_11 (by decide) (fun e => ?_) (fun e => ?_)
    · have h := h.1 e
      exact m_vret C E dX4_readAnd_44 h
    · have h := h.2 e
      refine m_aload_n C 0 dX4_readAnd_14 rfl rfl ?_
      refine m_getI C (k := 6) cl_X4 (by decide) so_33 rfl fl_X4_30 dX4_readAnd_15 ?_
      refine m_bipush C dX4_readAnd_18 (r32_of rfl) (by decide) ?_
      refine m_icmp_ne C (tgt := 44) dX4_readAnd_20 (by decide) (fun e => ?_) (fun e => ?_)
      · have h := h.2 e
        exact m_vret C E dX4_readAnd_44 h
      · have h := h.1 e
        refine m_aload_n C 0 dX4_readAnd_23 rfl rfl ?_
        refine m_callVv C (as := []) (rest := []) ok_X4_advance ml_X4_43 so_33 rfl rfl rfl (Nat.le_of_ble_eq_true rfl) (fun _ => rfl) dX4_readAnd_24 (Con.mono h (fun _ M2 _ _ h => ?_))
        refine m_aload_n C 0 dX4_readAnd_27 rfl rfl ?_
        refine m_iload_n C 1 dX4_readAnd_28 rfl rfl ?_
        refine m_callVv C (as := [vI a1]) (rest := []) ok_X4_readNot ml_X4_62 so_33 rfl rfl rfl (Nat.le_of_ble_eq_true rfl) (fun _ => rfl) dX4_readAnd_29 (Con.mono h (fun _ M4 _ _ h => ?_))
        refine m_aload_n C 0 dX4_readAnd_32 rfl rfl ?_
        refine m_bipush C dX4_readAnd_33 (r32_of rfl) (by decide) ?_
        refine m_callVv C (as := [vI (-11)]) (rest := []) ok_X4_make ml_X4_59 so_33 rfl rfl rfl (Nat.le_of_ble_eq_true rfl) (fun _ => rfl) dX4_readAnd_35 (Con.mono h (fun _ M6 _ _ h => ?_))
        refine m_iinc C (L' := [(2, vI (w32 (x2 + 1))), (0, vR 33), (1, vI a1)]) 2 dX4_readAnd_38 rfl (by rw [hnL]; decide) rfl ?_
        refine m_goto C (tgt := 7) dX4_readAnd_41 (by decide) ?_
        exact m_sub [1, 2, 0] rfl h
  have h := h (fun (x2 : Int) (M : Mem) => WM X 7 [(0, vR 33), (1, vI a1), (2, vI x2)] [] M) hb7
  unfold B_X4_readAnd at h
  refine m_aload_n C 0 dX4_readAnd_0 rfl rfl ?_
  refine m_iload_n C 1 dX4_readAnd_1 rfl rfl ?_
  refine m_callVv C (as := [vI a1]) (rest := []) ok_X4_readNot ml_X4_62 so_33 rfl rfl rfl (Nat.le_of_ble_eq_true rfl) (fun _ => rfl) dX4_readAnd_2 (Con.mono h (fun _ M8 _ _ h => ?_))
  refine m_iconst C dX4_readAnd_5 (r32_of rfl) ?_
  refine m_istore_n C (L' := [(2, vI 0), (0, vR 33), (1, vI a1)]) dX4_readAnd_6 rfl (by rw [hnL]; decide) rfl ?_
  exact m_sub [1, 2, 0] rfl h
def B_X4_readNot (n : Nat) (a1 : Int) (M : Mem) (Q : Int → Mem → Prop)  : Prop :=
  (((M 33 6) = 11 →
  ((5 ≤ a1 →
    Con n md_X4_readSum [vR 33, vI a1] M (fun _ M28 =>
      (((M28 33 6) = 60 →
      (((M28 33 6) = 60 →
        Con n md_X4_advance [vR 33] M28 (fun _ M36 =>
          Con n md_X4_readSum [vR 33, vI a1] M36 (fun _ M38 =>
          Con n md_X4_make [vR 33, vI (-13)] M38 (fun _ M40 =>
          Q 0 M40)))) ∧ (¬ (M28 33 6) = 60 →
        Con n md_X4_advance [vR 33] M28 (fun _ M30 =>
          Con n md_X4_readSum [vR 33, vI a1] M30 (fun _ M32 =>
          Con n md_X4_make [vR 33, vI (-14)] M32 (fun _ M34 =>
          Q 0 M34)))))) ∧ (¬ (M28 33 6) = 60 →
      (((M28 33 6) = 61 →
        (((M28 33 6) = 60 →
          Con n md_X4_advance [vR 33] M28 (fun _ M48 =>
            Con n md_X4_readSum [vR 33, vI a1] M48 (fun _ M50 =>
            Con n md_X4_make [vR 33, vI (-13)] M50 (fun _ M52 =>
            Q 0 M52)))) ∧ (¬ (M28 33 6) = 60 →
          Con n md_X4_advance [vR 33] M28 (fun _ M42 =>
            Con n md_X4_readSum [vR 33, vI a1] M42 (fun _ M44 =>
            Con n md_X4_make [vR 33, vI (-14)] M44 (fun _ M46 =>
            Q 0 M46)))))) ∧ (¬ (M28 33 6) = 61 →
        Q 0 M28)))))) ∧ (¬ 5 ≤ a1 →
    Con n md_X4_advance [vR 33] M (fun _ M54 =>
      Con n md_X4_readNot [vR 33, vI (w32 (a1 + 1))] M54 (fun _ M56 =>
      Con n md_X4_make [vR 33, vI (-12)] M56 (fun _ M58 =>
      Q 0 M58)))))) ∧ (¬ (M 33 6) = 11 →
  Con n md_X4_readSum [vR 33, vI a1] M (fun _ M2 =>
    (((M2 33 6) = 60 →
    (((M2 33 6) = 60 →
      Con n md_X4_advance [vR 33] M2 (fun _ M10 =>
        Con n md_X4_readSum [vR 33, vI a1] M10 (fun _ M12 =>
        Con n md_X4_make [vR 33, vI (-13)] M12 (fun _ M14 =>
        Q 0 M14)))) ∧ (¬ (M2 33 6) = 60 →
      Con n md_X4_advance [vR 33] M2 (fun _ M4 =>
        Con n md_X4_readSum [vR 33, vI a1] M4 (fun _ M6 =>
        Con n md_X4_make [vR 33, vI (-14)] M6 (fun _ M8 =>
        Q 0 M8)))))) ∧ (¬ (M2 33 6) = 60 →
    (((M2 33 6) = 61 →
      (((M2 33 6) = 60 →
        Con n md_X4_advance [vR 33] M2 (fun _ M22 =>
          Con n md_X4_readSum [vR 33, vI a1] M22 (fun _ M24 =>
          Con n md_X4_make [vR 33, vI (-13)] M24 (fun _ M26 =>
          Q 0 M26)))) ∧ (¬ (M2 33 6) = 60 →
        Con n md_X4_advance [vR 33] M2 (fun _ M16 =>
          Con n md_X4_readSum [vR 33, vI a1] M16 (fun _ M18 =>
          Con n md_X4_make [vR 33, vI (-14)] M18 (fun _ M20 =>
          Q 0 M20)))))) ∧ (¬ (M2 33 6) = 61 →
      Q 0 M2)))))))
set_option maxHeartbeats 4000000 in
set_option maxRecDepth 20000 in
theorem g_X4_readNot {n : Nat} {a1 : Int} {M : Mem} {Q : Int → Mem → Prop}  (h : B_X4_readNot n a1 M Q) : Con (n + 1) md_X4_readNot [vR 33, vI a1] M Q := by
  refine Con.ofF (n := n + 1) (Nat.succ_pos n) pl_X4_readNot (Nat.le_of_ble_eq_true rfl) (fun X C E hnL => ?_)
  have C : Cx X cX4_readNot RX4 n := C
  show WM X 0 [(0, vR 33), (1, vI a1)] [] M
  unfold B_X4_readNot at h
  refine m_aload_n C 0 dX4_readNot_0 rfl rfl ?_
  refine m_getI C (k := 6) cl_X4 (by decide) so_33 rfl fl_X4_30 dX4_readNot_1 ?_
  refine m_bipush C dX4_readNot_4 (r32_of rfl) (by decide) ?_
  refine m_icmp_ne C (tgt := 32) dX4_readNot_6 (by decide) (fun e => ?_) (fun e => ?_)
  · have h := h.2 e
    refine m_aload_n C 0 dX4_readNot_32 rfl rfl ?_
    refine m_iload_n C 1 dX4_readNot_33 rfl rfl ?_
    refine m_callVv C (as := [vI a1]) (rest := []) ok_X4_readSum ml_X4_65 so_33 rfl rfl rfl (Nat.le_of_ble_eq_true rfl) (fun _ => rfl) dX4_readNot_34 (Con.mono h (fun _ M2 _ _ h => ?_))
    refine m_aload_n C 0 dX4_readNot_37 rfl rfl ?_
    refine m_getI C (k := 6) cl_X4 (by decide) so_33 rfl fl_X4_30 dX4_readNot_38 ?_
    refine m_bipush C dX4_readNot_41 (r32_of rfl) (by decide) ?_
    refine m_icmp_eq C (tgt := 55) dX4_readNot_43 (by decide) (fun e => ?_) (fun e => ?_)
    · have h := h.1 e
      refine m_aload_n C 0 dX4_readNot_55 rfl rfl ?_
      refine m_getI C (k := 6) cl_X4 (by decide) so_33 rfl fl_X4_30 dX4_readNot_56 ?_
      refine m_bipush C dX4_readNot_59 (r32_of rfl) (by decide) ?_
      refine m_icmp_ne C (tgt := 69) dX4_readNot_61 (by decide) (fun e => ?_) (fun e => ?_)
      · have h := h.2 e
        refine m_bipush C dX4_readNot_69 (r32_of rfl) (by decide) ?_
        refine m_istore_n C (L' := [(2, vI (-14)), (0, vR 33), (1, vI a1)]) dX4_readNot_71 rfl (by rw [hnL]; decide) rfl ?_
        refine m_aload_n C 1 dX4_readNot_72 rfl rfl ?_
        refine m_callVv C (as := []) (rest := []) ok_X4_advance ml_X4_43 so_33 rfl rfl rfl (Nat.le_of_ble_eq_true rfl) (fun _ => rfl) dX4_readNot_73 (Con.mono h (fun _ M4 _ _ h => ?_))
        refine m_aload_n C 1 dX4_readNot_76 rfl rfl ?_
        refine m_iload_n C 2 dX4_readNot_77 rfl rfl ?_
        refine m_callVv C (as := [vI a1]) (rest := []) ok_X4_readSum ml_X4_65 so_33 rfl rfl rfl (Nat.le_of_ble_eq_true rfl) (fun _ => rfl) dX4_readNot_78 (Con.mono h (fun _ M6 _ _ h => ?_))
        refine m_aload_n C 1 dX4_readNot_81 rfl rfl ?_
        refine m_iload_n C 0 dX4_readNot_82 rfl rfl ?_
        refine m_callVv C (as := [vI (-14)]) (rest := []) ok_X4_make ml_X4_59 so_33 rfl rfl rfl (Nat.le_of_ble_eq_true rfl) (fun _ => rfl) dX4_readNot_83 (Con.mono h (fun _ M8 _ _ h => ?_))
        exact m_vret C E dX4_readNot_86 h
      · have h := h.1 e
        refine m_bipush C dX4_readNot_64 (r32_of rfl) (by decide) ?_
        refine m_goto C (tgt := 71) dX4_readNot_66 (by decide) ?_
        refine m_istore_n C (L' := [(2, vI (-13)), (0, vR 33), (1, vI a1)]) dX4_readNot_71 rfl (by rw [hnL]; decide) rfl ?_
        refine m_aload_n C 1 dX4_readNot_72 rfl rfl ?_
        refine m_callVv C (as := []) (rest := []) ok_X4_advance ml_X4_43 so_33 rfl rfl rfl (Nat.le_of_ble_eq_true rfl) (fun _ => rfl) dX4_readNot_73 (Con.mono h (fun _ M10 _ _ h => ?_))
        refine m_aload_n C 1 dX4_readNot_76 rfl rfl ?_
        refine m_iload_n C 2 dX4_readNot_77 rfl rfl ?_
        refine m_callVv C (as := [vI a1]) (rest := []) ok_X4_readSum ml_X4_65 so_33 rfl rfl rfl (Nat.le_of_ble_eq_true rfl) (fun _ => rfl) dX4_readNot_78 (Con.mono h (fun _ M12 _ _ h => ?_))
        refine m_aload_n C 1 dX4_readNot_81 rfl rfl ?_
        refine m_iload_n C 0 dX4_readNot_82 rfl rfl ?_
        refine m_callVv C (as := [vI (-13)]) (rest := []) ok_X4_make ml_X4_59 so_33 rfl rfl rfl (Nat.le_of_ble_eq_true rfl) (fun _ => rfl) dX4_readNot_83 (Con.mono h (fun _ M14 _ _ h => ?_))
        exact m_vret C E dX4_readNot_86 h
    · have h := h.2 e
      refine m_aload_n C 0 dX4_readNot_46 rfl rfl ?_
      refine m_getI C (k := 6) cl_X4 (by decide) so_33 rfl fl_X4_30 dX4_readNot_47 ?_
      refine m_bipush C dX4_readNot_50 (r32_of rfl) (by decide) ?_
      refine m_icmp_ne C (tgt := 86) dX4_readNot_52 (by decide) (fun e => ?_) (fun e => ?_)
      · have h := h.2 e
        exact m_vret C E dX4_readNot_86 h
      · have h := h.1 e
        refine m_aload_n C 0 dX4_readNot_55 rfl rfl ?_
        refine m_getI C (k := 6) cl_X4 (by decide) so_33 rfl fl_X4_30 dX4_readNot_56 ?_
        refine m_bipush C dX4_readNot_59 (r32_of rfl) (by decide) ?_
        refine m_icmp_ne C (tgt := 69) dX4_readNot_61 (by decide) (fun e => ?_) (fun e => ?_)
        · have h := h.2 e
          refine m_bipush C dX4_readNot_69 (r32_of rfl) (by decide) ?_
          refine m_istore_n C (L' := [(2, vI (-14)), (0, vR 33), (1, vI a1)]) dX4_readNot_71 rfl (by rw [hnL]; decide) rfl ?_
          refine m_aload_n C 1 dX4_readNot_72 rfl rfl ?_
          refine m_callVv C (as := []) (rest := []) ok_X4_advance ml_X4_43 so_33 rfl rfl rfl (Nat.le_of_ble_eq_true rfl) (fun _ => rfl) dX4_readNot_73 (Con.mono h (fun _ M16 _ _ h => ?_))
          refine m_aload_n C 1 dX4_readNot_76 rfl rfl ?_
          refine m_iload_n C 2 dX4_readNot_77 rfl rfl ?_
          refine m_callVv C (as := [vI a1]) (rest := []) ok_X4_readSum ml_X4_65 so_33 rfl rfl rfl (Nat.le_of_ble_eq_true rfl) (fun _ => rfl) dX4_readNot_78 (Con.mono h (fun _ M18 _ _ h => ?_))
          refine m_aload_n C 1 dX4_readNot_81 rfl rfl ?_
          refine m_iload_n C 0 dX4_readNot_82 rfl rfl ?_
          refine m_callVv C (as := [vI (-14)]) (rest := []) ok_X4_make ml_X4_59 so_33 rfl rfl rfl (Nat.le_of_ble_eq_true rfl) (fun _ => rfl) dX4_readNot_83 (Con.mono h (fun _ M20 _ _ h => ?_))
          exact m_vret C E dX4_readNot_86 h
        · have h := h.1 e
          refine m_bipush C dX4_readNot_64 (r32_of rfl) (by decide) ?_
          refine m_goto C (tgt := 71) dX4_readNot_66 (by decide) ?_
          refine m_istore_n C (L' := [(2, vI (-13)), (0, vR 33), (1, vI a1)]) dX4_readNot_71 rfl (by rw [hnL]; decide) rfl ?_
          refine m_aload_n C 1 dX4_readNot_72 rfl rfl ?_
          refine m_callVv C (as := []) (rest := []) ok_X4_advance ml_X4_43 so_33 rfl rfl rfl (Nat.le_of_ble_eq_true rfl) (fun _ => rfl) dX4_readNot_73 (Con.mono h (fun _ M22 _ _ h => ?_))
          refine m_aload_n C 1 dX4_readNot_76 rfl rfl ?_
          refine m_iload_n C 2 dX4_readNot_77 rfl rfl ?_
          refine m_callVv C (as := [vI a1]) (rest := []) ok_X4_readSum ml_X4_65 so_33 rfl rfl rfl (Nat.le_of_ble_eq_true rfl) (fun _ => rfl) dX4_readNot_78 (Con.mono h (fun _ M24 _ _ h => ?_))
          refine m_aload_n C 1 dX4_readNot_81 rfl rfl ?_
          refine m_iload_n C 0 dX4_readNot_82 rfl rfl ?_
          refine m_callVv C (as := [vI (-13)]) (rest := []) ok_X4_make ml_X4_59 so_33 rfl rfl rfl (Nat.le_of_ble_eq_true rfl) (fun _ => rfl) dX4_readNot_83 (Con.mono h (fun _ M26 _ _ h => ?_))
          exact m_vret C E dX4_readNot_86 h
  · have h := h.1 e
    refine m_iload_n C 1 dX4_readNot_9 rfl rfl ?_
    refine m_iconst C dX4_readNot_10 (r32_of rfl) ?_
    refine m_icmp_ge C (tgt := 32) dX4_readNot_11 (by decide) (fun e => ?_) (fun e => ?_)
    · have h := h.1 e
      refine m_aload_n C 0 dX4_readNot_32 rfl rfl ?_
      refine m_iload_n C 1 dX4_readNot_33 rfl rfl ?_
      refine m_callVv C (as := [vI a1]) (rest := []) ok_X4_readSum ml_X4_65 so_33 rfl rfl rfl (Nat.le_of_ble_eq_true rfl) (fun _ => rfl) dX4_readNot_34 (Con.mono h (fun _ M28 _ _ h => ?_))
      refine m_aload_n C 0 dX4_readNot_37 rfl rfl ?_
      refine m_getI C (k := 6) cl_X4 (by decide) so_33 rfl fl_X4_30 dX4_readNot_38 ?_
      refine m_bipush C dX4_readNot_41 (r32_of rfl) (by decide) ?_
      refine m_icmp_eq C (tgt := 55) dX4_readNot_43 (by decide) (fun e => ?_) (fun e => ?_)
      · have h := h.1 e
        refine m_aload_n C 0 dX4_readNot_55 rfl rfl ?_
        refine m_getI C (k := 6) cl_X4 (by decide) so_33 rfl fl_X4_30 dX4_readNot_56 ?_
        refine m_bipush C dX4_readNot_59 (r32_of rfl) (by decide) ?_
        refine m_icmp_ne C (tgt := 69) dX4_readNot_61 (by decide) (fun e => ?_) (fun e => ?_)
        · have h := h.2 e
          refine m_bipush C dX4_readNot_69 (r32_of rfl) (by decide) ?_
          refine m_istore_n C (L' := [(2, vI (-14)), (0, vR 33), (1, vI a1)]) dX4_readNot_71 rfl (by rw [hnL]; decide) rfl ?_
          refine m_aload_n C 1 dX4_readNot_72 rfl rfl ?_
          refine m_callVv C (as := []) (rest := []) ok_X4_advance ml_X4_43 so_33 rfl rfl rfl (Nat.le_of_ble_eq_true rfl) (fun _ => rfl) dX4_readNot_73 (Con.mono h (fun _ M30 _ _ h => ?_))
          refine m_aload_n C 1 dX4_readNot_76 rfl rfl ?_
          refine m_iload_n C 2 dX4_readNot_77 rfl rfl ?_
          refine m_callVv C (as := [vI a1]) (rest := []) ok_X4_readSum ml_X4_65 so_33 rfl rfl rfl (Nat.le_of_ble_eq_true rfl) (fun _ => rfl) dX4_readNot_78 (Con.mono h (fun _ M32 _ _ h => ?_))
          refine m_aload_n C 1 dX4_readNot_81 rfl rfl ?_
          refine m_iload_n C 0 dX4_readNot_82 rfl rfl ?_
          refine m_callVv C (as := [vI (-14)]) (rest := []) ok_X4_make ml_X4_59 so_33 rfl rfl rfl (Nat.le_of_ble_eq_true rfl) (fun _ => rfl) dX4_readNot_83 (Con.mono h (fun _ M34 _ _ h => ?_))
          exact m_vret C E dX4_readNot_86 h
        · have h := h.1 e
          refine m_bipush C dX4_readNot_64 (r32_of rfl) (by decide) ?_
          refine m_goto C (tgt := 71) dX4_readNot_66 (by decide) ?_
          refine m_istore_n C (L' := [(2, vI (-13)), (0, vR 33), (1, vI a1)]) dX4_readNot_71 rfl (by rw [hnL]; decide) rfl ?_
          refine m_aload_n C 1 dX4_readNot_72 rfl rfl ?_
          refine m_callVv C (as := []) (rest := []) ok_X4_advance ml_X4_43 so_33 rfl rfl rfl (Nat.le_of_ble_eq_true rfl) (fun _ => rfl) dX4_readNot_73 (Con.mono h (fun _ M36 _ _ h => ?_))
          refine m_aload_n C 1 dX4_readNot_76 rfl rfl ?_
          refine m_iload_n C 2 dX4_readNot_77 rfl rfl ?_
          refine m_callVv C (as := [vI a1]) (rest := []) ok_X4_readSum ml_X4_65 so_33 rfl rfl rfl (Nat.le_of_ble_eq_true rfl) (fun _ => rfl) dX4_readNot_78 (Con.mono h (fun _ M38 _ _ h => ?_))
          refine m_aload_n C 1 dX4_readNot_81 rfl rfl ?_
          refine m_iload_n C 0 dX4_readNot_82 rfl rfl ?_
          refine m_callVv C (as := [vI (-13)]) (rest := []) ok_X4_make ml_X4_59 so_33 rfl rfl rfl (Nat.le_of_ble_eq_true rfl) (fun _ => rfl) dX4_readNot_83 (Con.mono h (fun _ M40 _ _ h => ?_))
          exact m_vret C E dX4_readNot_86 h
      · have h := h.2 e
        refine m_aload_n C 0 dX4_readNot_46 rfl rfl ?_
        refine m_getI C (k := 6) cl_X4 (by decide) so_33 rfl fl_X4_30 dX4_readNot_47 ?_
        refine m_bipush C dX4_readNot_50 (r32_of rfl) (by decide) ?_
        refine m_icmp_ne C (tgt := 86) dX4_readNot_52 (by decide) (fun e => ?_) (fun e => ?_)
        · have h := h.2 e
          exact m_vret C E dX4_readNot_86 h
        · have h := h.1 e
          refine m_aload_n C 0 dX4_readNot_55 rfl rfl ?_
          refine m_getI C (k := 6) cl_X4 (by decide) so_33 rfl fl_X4_30 dX4_readNot_56 ?_
          refine m_bipush C dX4_readNot_59 (r32_of rfl) (by decide) ?_
          refine m_icmp_ne C (tgt := 69) dX4_readNot_61 (by decide) (fun e => ?_) (fun e => ?_)
          · have h := h.2 e
            refine m_bipush C dX4_readNot_69 (r32_of rfl) (by decide) ?_
            refine m_istore_n C (L' := [(2, vI (-14)), (0, vR 33), (1, vI a1)]) dX4_readNot_71 rfl (by rw [hnL]; decide) rfl ?_
            refine m_aload_n C 1 dX4_readNot_72 rfl rfl ?_
            refine m_callVv C (as := []) (rest := []) ok_X4_advance ml_X4_43 so_33 rfl rfl rfl (Nat.le_of_ble_eq_true rfl) (fun _ => rfl) dX4_readNot_73 (Con.mono h (fun _ M42 _ _ h => ?_))
            refine m_aload_n C 1 dX4_readNot_76 rfl rfl ?_
            refine m_iload_n C 2 dX4_readNot_77 rfl rfl ?_
            refine m_callVv C (as := [vI a1]) (rest := []) ok_X4_readSum ml_X4_65 so_33 rfl rfl rfl (Nat.le_of_ble_eq_true rfl) (fun _ => rfl) dX4_readNot_78 (Con.mono h (fun _ M44 _ _ h => ?_))
            refine m_aload_n C 1 dX4_readNot_81 rfl rfl ?_
            refine m_iload_n C 0 dX4_readNot_82 rfl rfl ?_
            refine m_callVv C (as := [vI (-14)]) (rest := []) ok_X4_make ml_X4_59 so_33 rfl rfl rfl (Nat.le_of_ble_eq_true rfl) (fun _ => rfl) dX4_readNot_83 (Con.mono h (fun _ M46 _ _ h => ?_))
            exact m_vret C E dX4_readNot_86 h
          · have h := h.1 e
            refine m_bipush C dX4_readNot_64 (r32_of rfl) (by decide) ?_
            refine m_goto C (tgt := 71) dX4_readNot_66 (by decide) ?_
            refine m_istore_n C (L' := [(2, vI (-13)), (0, vR 33), (1, vI a1)]) dX4_readNot_71 rfl (by rw [hnL]; decide) rfl ?_
            refine m_aload_n C 1 dX4_readNot_72 rfl rfl ?_
            refine m_callVv C (as := []) (rest := []) ok_X4_advance ml_X4_43 so_33 rfl rfl rfl (Nat.le_of_ble_eq_true rfl) (fun _ => rfl) dX4_readNot_73 (Con.mono h (fun _ M48 _ _ h => ?_))
            refine m_aload_n C 1 dX4_readNot_76 rfl rfl ?_
            refine m_iload_n C 2 dX4_readNot_77 rfl rfl ?_
            refine m_callVv C (as := [vI a1]) (rest := []) ok_X4_readSum ml_X4_65 so_33 rfl rfl rfl (Nat.le_of_ble_eq_true rfl) (fun _ => rfl) dX4_readNot_78 (Con.mono h (fun _ M50 _ _ h => ?_))
            refine m_aload_n C 1 dX4_readNot_81 rfl rfl ?_
            refine m_iload_n C 0 dX4_readNot_82 rfl rfl ?_
            refine m_callVv C (as := [vI (-13)]) (rest := []) ok_X4_make ml_X4_59 so_33 rfl rfl rfl (Nat.le_of_ble_eq_true rfl) (fun _ => rfl) dX4_readNot_83 (Con.mono h (fun _ M52 _ _ h => ?_))
            exact m_vret C E dX4_readNot_86 h
    · have h := h.2 e
      refine m_aload_n C 0 dX4_readNot_14 rfl rfl ?_
      refine m_callVv C (as := []) (rest := []) ok_X4_advance ml_X4_43 so_33 rfl rfl rfl (Nat.le_of_ble_eq_true rfl) (fun _ => rfl) dX4_readNot_15 (Con.mono h (fun _ M54 _ _ h => ?_))
      refine m_aload_n C 0 dX4_readNot_18 rfl rfl ?_
      refine m_iload_n C 1 dX4_readNot_19 rfl rfl ?_
      refine m_iconst C dX4_readNot_20 (r32_of rfl) ?_
      refine m_iadd C dX4_readNot_21 ?_
      refine m_callVv C (as := [vI (w32 (a1 + 1))]) (rest := []) ok_X4_readNot ml_X4_62 so_33 rfl rfl rfl (Nat.le_of_ble_eq_true rfl) (fun _ => rfl) dX4_readNot_22 (Con.mono h (fun _ M56 _ _ h => ?_))
      refine m_aload_n C 0 dX4_readNot_25 rfl rfl ?_
      refine m_bipush C dX4_readNot_26 (r32_of rfl) (by decide) ?_
      refine m_callVv C (as := [vI (-12)]) (rest := []) ok_X4_make ml_X4_59 so_33 rfl rfl rfl (Nat.le_of_ble_eq_true rfl) (fun _ => rfl) dX4_readNot_28 (Con.mono h (fun _ M58 _ _ h => ?_))
      exact m_vret C E dX4_readNot_31 h
def B_X4_readSum_7 (n : Nat) (a1 : Int) (x2 : Int) (M : Mem) (Q : Int → Mem → Prop) (K7 : Int → Mem → Prop) : Prop :=
  ((160 ≤ x2 →
  Q 0 M) ∧ (¬ 160 ≤ x2 →
  (((M 33 6) = 43 →
    (((M 33 6) = 43 →
      Con n md_X4_advance [vR 33] M (fun _ M8 =>
        Con n md_X4_readTerm [vR 33, vI a1] M8 (fun _ M10 =>
        Con n md_X4_make [vR 33, vI (-15)] M10 (fun _ M12 =>
        K7 (w32 (x2 + 1)) M12)))) ∧ (¬ (M 33 6) = 43 →
      Con n md_X4_advance [vR 33] M (fun _ M2 =>
        Con n md_X4_readTerm [vR 33, vI a1] M2 (fun _ M4 =>
        Con n md_X4_make [vR 33, vI (-16)] M4 (fun _ M6 =>
        K7 (w32 (x2 + 1)) M6)))))) ∧ (¬ (M 33 6) = 43 →
    (((M 33 6) = 45 →
      (((M 33 6) = 43 →
        Con n md_X4_advance [vR 33] M (fun _ M20 =>
          Con n md_X4_readTerm [vR 33, vI a1] M20 (fun _ M22 =>
          Con n md_X4_make [vR 33, vI (-15)] M22 (fun _ M24 =>
          K7 (w32 (x2 + 1)) M24)))) ∧ (¬ (M 33 6) = 43 →
        Con n md_X4_advance [vR 33] M (fun _ M14 =>
          Con n md_X4_readTerm [vR 33, vI a1] M14 (fun _ M16 =>
          Con n md_X4_make [vR 33, vI (-16)] M16 (fun _ M18 =>
          K7 (w32 (x2 + 1)) M18)))))) ∧ (¬ (M 33 6) = 45 →
      Q 0 M))))))
def B_X4_readSum (n : Nat) (a1 : Int) (M : Mem) (Q : Int → Mem → Prop) (K7 : Int → Mem → Prop) : Prop :=
  Con n md_X4_readTerm [vR 33, vI a1] M (fun _ M26 =>
  K7 0 M26)
set_option maxHeartbeats 4000000 in
set_option maxRecDepth 20000 in
theorem g_X4_readSum {n : Nat} {a1 : Int} {M : Mem} {Q : Int → Mem → Prop}  (h : ∀ (K7 : Int → Mem → Prop), (∀ (x2 : Int) (M : Mem), B_X4_readSum_7 n a1 x2 M Q K7 → K7 x2 M) → B_X4_readSum n a1 M Q K7) : Con (n + 1) md_X4_readSum [vR 33, vI a1] M Q := by
  refine Con.ofF (n := n + 1) (Nat.succ_pos n) pl_X4_readSum (Nat.le_of_ble_eq_true rfl) (fun X C E hnL => ?_)
  have C : Cx X cX4_readSum RX4 n := C
  show WM X 0 [(0, vR 33), (1, vI a1)] [] M
  have hb7 : ∀ (x2 : Int) (M : Mem), B_X4_readSum_7 n a1 x2 M Q (fun (x2 : Int) (M : Mem) => WM X 7 [(0, vR 33), (1, vI a1), (2, vI x2)] [] M) → WM X 7 [(0, vR 33), (1, vI a1), (2, vI x2)] [] M := by
    intro x2 M h
    unfold B_X4_readSum_7 at h
    refine m_iload_n C 2 dX4_readSum_7 rfl rfl ?_
    refine m_sipush C dX4_readSum_8 (r32_of rfl) (by decide) ?_
    refine m_icmp_ge C (tgt := 69) dX4_readSum_11 (by decide) (fun e => ?_) (fun e => ?_)
    · have h := h.1 e
      exact m_vret C E dX4_readSum_69 h
    · have h := h.2 e
      refine m_aload_n C 0 dX4_readSum_14 rfl rfl ?_
      refine m_getI C (k := 6) cl_X4 (by decide) so_33 rfl fl_X4_30 dX4_readSum_15 ?_
      refine m_bipush C dX4_readSum_18 (r32_of rfl) (by decide) ?_
      refine m_icmp_eq C (tgt := 32) dX4_readSum_20 (by decide) (fun e => ?_) (fun e => ?_)
      · have h := h.1 e
        refine m_aload_n C 0 dX4_readSum_32 rfl rfl ?_
        refine m_getI C (k := 6) cl_X4 (by decide) so_33 rfl fl_X4_30 dX4_readSum_33 ?_
        refine m_bipush C dX4_readSum_36 (r32_of rfl) (by decide) ?_
        refine m_icmp_ne C (tgt := 46) dX4_readSum_38 (by decide) (fun e => ?_) (fun e => ?_)
        · have h := h.2 e
          refine m_bipush C dX4_readSum_46 (r32_of rfl) (by decide) ?_
          refine m_istore_n C (L' := [(3, vI (-16)), (0, vR 33), (1, vI a1), (2, vI x2)]) dX4_readSum_48 rfl (by rw [hnL]; decide) rfl ?_
          refine m_aload_n C 1 dX4_readSum_49 rfl rfl ?_
          refine m_callVv C (as := []) (rest := []) ok_X4_advance ml_X4_43 so_33 rfl rfl rfl (Nat.le_of_ble_eq_true rfl) (fun _ => rfl) dX4_readSum_50 (Con.mono h (fun _ M2 _ _ h => ?_))
          refine m_aload_n C 1 dX4_readSum_53 rfl rfl ?_
          refine m_iload_n C 2 dX4_readSum_54 rfl rfl ?_
          refine m_callVv C (as := [vI a1]) (rest := []) ok_X4_readTerm ml_X4_68 so_33 rfl rfl rfl (Nat.le_of_ble_eq_true rfl) (fun _ => rfl) dX4_readSum_55 (Con.mono h (fun _ M4 _ _ h => ?_))
          refine m_aload_n C 1 dX4_readSum_58 rfl rfl ?_
          refine m_iload_n C 0 dX4_readSum_59 rfl rfl ?_
          refine m_callVv C (as := [vI (-16)]) (rest := []) ok_X4_make ml_X4_59 so_33 rfl rfl rfl (Nat.le_of_ble_eq_true rfl) (fun _ => rfl) dX4_readSum_60 (Con.mono h (fun _ M6 _ _ h => ?_))
          refine m_iinc C (L' := [(2, vI (w32 (x2 + 1))), (3, vI (-16)), (0, vR 33), (1, vI a1)]) 3 dX4_readSum_63 rfl (by rw [hnL]; decide) rfl ?_
          refine m_goto C (tgt := 7) dX4_readSum_66 (by decide) ?_
          exact m_sub [2, 3, 0] rfl h
        · have h := h.1 e
          refine m_bipush C dX4_readSum_41 (r32_of rfl) (by decide) ?_
          refine m_goto C (tgt := 48) dX4_readSum_43 (by decide) ?_
          refine m_istore_n C (L' := [(3, vI (-15)), (0, vR 33), (1, vI a1), (2, vI x2)]) dX4_readSum_48 rfl (by rw [hnL]; decide) rfl ?_
          refine m_aload_n C 1 dX4_readSum_49 rfl rfl ?_
          refine m_callVv C (as := []) (rest := []) ok_X4_advance ml_X4_43 so_33 rfl rfl rfl (Nat.le_of_ble_eq_true rfl) (fun _ => rfl) dX4_readSum_50 (Con.mono h (fun _ M8 _ _ h => ?_))
          refine m_aload_n C 1 dX4_readSum_53 rfl rfl ?_
          refine m_iload_n C 2 dX4_readSum_54 rfl rfl ?_
          refine m_callVv C (as := [vI a1]) (rest := []) ok_X4_readTerm ml_X4_68 so_33 rfl rfl rfl (Nat.le_of_ble_eq_true rfl) (fun _ => rfl) dX4_readSum_55 (Con.mono h (fun _ M10 _ _ h => ?_))
          refine m_aload_n C 1 dX4_readSum_58 rfl rfl ?_
          refine m_iload_n C 0 dX4_readSum_59 rfl rfl ?_
          refine m_callVv C (as := [vI (-15)]) (rest := []) ok_X4_make ml_X4_59 so_33 rfl rfl rfl (Nat.le_of_ble_eq_true rfl) (fun _ => rfl) dX4_readSum_60 (Con.mono h (fun _ M12 _ _ h => ?_))
          refine m_iinc C (L' := [(2, vI (w32 (x2 + 1))), (3, vI (-15)), (0, vR 33), (1, vI a1)]) 3 dX4_readSum_63 rfl (by rw [hnL]; decide) rfl ?_
          refine m_goto C (tgt := 7) dX4_readSum_66 (by decide) ?_
          exact m_sub [2, 3, 0] rfl h
      · have h := h.2 e
        refine m_aload_n C 0 dX4_readSum_23 rfl rfl ?_
        refine m_getI C (k := 6) cl_X4 (by decide) so_33 rfl fl_X4_30 dX4_readSum_24 ?_
        refine m_bipush C dX4_readSum_27 (r32_of rfl) (by decide) ?_
        refine m_icmp_ne C (tgt := 69) dX4_readSum_29 (by decide) (fun e => ?_) (fun e => ?_)
        · have h := h.2 e
          exact m_vret C E dX4_readSum_69 h
        · have h := h.1 e
          refine m_aload_n C 0 dX4_readSum_32 rfl rfl ?_
          refine m_getI C (k := 6) cl_X4 (by decide) so_33 rfl fl_X4_30 dX4_readSum_33 ?_
          refine m_bipush C dX4_readSum_36 (r32_of rfl) (by decide) ?_
          refine m_icmp_ne C (tgt := 46) dX4_readSum_38 (by decide) (fun e => ?_) (fun e => ?_)
          · have h := h.2 e
            refine m_bipush C dX4_readSum_46 (r32_of rfl) (by decide) ?_
            refine m_istore_n C (L' := [(3, vI (-16)), (0, vR 33), (1, vI a1), (2, vI x2)]) dX4_readSum_48 rfl (by rw [hnL]; decide) rfl ?_
            refine m_aload_n C 1 dX4_readSum_49 rfl rfl ?_
            refine m_callVv C (as := []) (rest := []) ok_X4_advance ml_X4_43 so_33 rfl rfl rfl (Nat.le_of_ble_eq_true rfl) (fun _ => rfl) dX4_readSum_50 (Con.mono h (fun _ M14 _ _ h => ?_))
            refine m_aload_n C 1 dX4_readSum_53 rfl rfl ?_
            refine m_iload_n C 2 dX4_readSum_54 rfl rfl ?_
            refine m_callVv C (as := [vI a1]) (rest := []) ok_X4_readTerm ml_X4_68 so_33 rfl rfl rfl (Nat.le_of_ble_eq_true rfl) (fun _ => rfl) dX4_readSum_55 (Con.mono h (fun _ M16 _ _ h => ?_))
            refine m_aload_n C 1 dX4_readSum_58 rfl rfl ?_
            refine m_iload_n C 0 dX4_readSum_59 rfl rfl ?_
            refine m_callVv C (as := [vI (-16)]) (rest := []) ok_X4_make ml_X4_59 so_33 rfl rfl rfl (Nat.le_of_ble_eq_true rfl) (fun _ => rfl) dX4_readSum_60 (Con.mono h (fun _ M18 _ _ h => ?_))
            refine m_iinc C (L' := [(2, vI (w32 (x2 + 1))), (3, vI (-16)), (0, vR 33), (1, vI a1)]) 3 dX4_readSum_63 rfl (by rw [hnL]; decide) rfl ?_
            refine m_goto C (tgt := 7) dX4_readSum_66 (by decide) ?_
            exact m_sub [2, 3, 0] rfl h
          · have h := h.1 e
            refine m_bipush C dX4_readSum_41 (r32_of rfl) (by decide) ?_
            refine m_goto C (tgt := 48) dX4_readSum_43 (by decide) ?_
            refine m_istore_n C (L' := [(3, vI (-15)), (0, vR 33), (1, vI a1), (2, vI x2)]) dX4_readSum_48 rfl (by rw [hnL]; decide) rfl ?_
            refine m_aload_n C 1 dX4_readSum_49 rfl rfl ?_
            refine m_callVv C (as := []) (rest := []) ok_X4_advance ml_X4_43 so_33 rfl rfl rfl (Nat.le_of_ble_eq_true rfl) (fun _ => rfl) dX4_readSum_50 (Con.mono h (fun _ M20 _ _ h => ?_))
            refine m_aload_n C 1 dX4_readSum_53 rfl rfl ?_
            refine m_iload_n C 2 dX4_readSum_54 rfl rfl ?_
            refine m_callVv C (as := [vI a1]) (rest := []) ok_X4_readTerm ml_X4_68 so_33 rfl rfl rfl (Nat.le_of_ble_eq_true rfl) (fun _ => rfl) dX4_readSum_55 (Con.mono h (fun _ M22 _ _ h => ?_))
            refine m_aload_n C 1 dX4_readSum_58 rfl rfl ?_
            refine m_iload_n C 0 dX4_readSum_59 rfl rfl ?_
            refine m_callVv C (as := [vI (-15)]) (rest := []) ok_X4_make ml_X4_59 so_33 rfl rfl rfl (Nat.le_of_ble_eq_true rfl) (fun _ => rfl) dX4_readSum_60 (Con.mono h (fun _ M24 _ _ h => ?_))
            refine m_iinc C (L' := [(2, vI (w32 (x2 + 1))), (3, vI (-15)), (0, vR 33), (1, vI a1)]) 3 dX4_readSum_63 rfl (by rw [hnL]; decide) rfl ?_
            refine m_goto C (tgt := 7) dX4_readSum_66 (by decide) ?_
            exact m_sub [2, 3, 0] rfl h
  have h := h (fun (x2 : Int) (M : Mem) => WM X 7 [(0, vR 33), (1, vI a1), (2, vI x2)] [] M) hb7
  unfold B_X4_readSum at h
  refine m_aload_n C 0 dX4_readSum_0 rfl rfl ?_
  refine m_iload_n C 1 dX4_readSum_1 rfl rfl ?_
  refine m_callVv C (as := [vI a1]) (rest := []) ok_X4_readTerm ml_X4_68 so_33 rfl rfl rfl (Nat.le_of_ble_eq_true rfl) (fun _ => rfl) dX4_readSum_2 (Con.mono h (fun _ M26 _ _ h => ?_))
  refine m_iconst C dX4_readSum_5 (r32_of rfl) ?_
  refine m_istore_n C (L' := [(2, vI 0), (0, vR 33), (1, vI a1)]) dX4_readSum_6 rfl (by rw [hnL]; decide) rfl ?_
  exact m_sub [1, 2, 0] rfl h
def B_X4_readTerm_7 (n : Nat) (a1 : Int) (x2 : Int) (M : Mem) (Q : Int → Mem → Prop) (K7 : Int → Mem → Prop) : Prop :=
  ((160 ≤ x2 →
  Q 0 M) ∧ (¬ 160 ≤ x2 →
  (((M 33 6) = 42 →
    Con n md_X4_advance [vR 33] M (fun _ M2 =>
      Con n md_X4_readOne [vR 33, vI a1] M2 (fun _ M4 =>
      Con n md_X4_make [vR 33, vI (-17)] M4 (fun _ M6 =>
      K7 (w32 (x2 + 1)) M6)))) ∧ (¬ (M 33 6) = 42 →
    Q 0 M))))
def B_X4_readTerm (n : Nat) (a1 : Int) (M : Mem) (Q : Int → Mem → Prop) (K7 : Int → Mem → Prop) : Prop :=
  Con n md_X4_readOne [vR 33, vI a1] M (fun _ M8 =>
  K7 0 M8)
set_option maxHeartbeats 4000000 in
set_option maxRecDepth 20000 in
theorem g_X4_readTerm {n : Nat} {a1 : Int} {M : Mem} {Q : Int → Mem → Prop}  (h : ∀ (K7 : Int → Mem → Prop), (∀ (x2 : Int) (M : Mem), B_X4_readTerm_7 n a1 x2 M Q K7 → K7 x2 M) → B_X4_readTerm n a1 M Q K7) : Con (n + 1) md_X4_readTerm [vR 33, vI a1] M Q := by
  refine Con.ofF (n := n + 1) (Nat.succ_pos n) pl_X4_readTerm (Nat.le_of_ble_eq_true rfl) (fun X C E hnL => ?_)
  have C : Cx X cX4_readTerm RX4 n := C
  show WM X 0 [(0, vR 33), (1, vI a1)] [] M
  have hb7 : ∀ (x2 : Int) (M : Mem), B_X4_readTerm_7 n a1 x2 M Q (fun (x2 : Int) (M : Mem) => WM X 7 [(0, vR 33), (1, vI a1), (2, vI x2)] [] M) → WM X 7 [(0, vR 33), (1, vI a1), (2, vI x2)] [] M := by
    intro x2 M h
    unfold B_X4_readTerm_7 at h
    refine m_iload_n C 2 dX4_readTerm_7 rfl rfl ?_
    refine m_sipush C dX4_readTerm_8 (r32_of rfl) (by decide) ?_
    refine m_icmp_ge C (tgt := 44) dX4_readTerm_11 (by decide) (fun e => ?_) (fun e => ?_)
    · have h := h.1 e
      exact m_vret C E dX4_readTerm_44 h
    · have h := h.2 e
      refine m_aload_n C 0 dX4_readTerm_14 rfl rfl ?_
      refine m_getI C (k := 6) cl_X4 (by decide) so_33 rfl fl_X4_30 dX4_readTerm_15 ?_
      refine m_bipush C dX4_readTerm_18 (r32_of rfl) (by decide) ?_
      refine m_icmp_ne C (tgt := 44) dX4_readTerm_20 (by decide) (fun e => ?_) (fun e => ?_)
      · have h := h.2 e
        exact m_vret C E dX4_readTerm_44 h
      · have h := h.1 e
        refine m_aload_n C 0 dX4_readTerm_23 rfl rfl ?_
        refine m_callVv C (as := []) (rest := []) ok_X4_advance ml_X4_43 so_33 rfl rfl rfl (Nat.le_of_ble_eq_true rfl) (fun _ => rfl) dX4_readTerm_24 (Con.mono h (fun _ M2 _ _ h => ?_))
        refine m_aload_n C 0 dX4_readTerm_27 rfl rfl ?_
        refine m_iload_n C 1 dX4_readTerm_28 rfl rfl ?_
        refine m_callVv C (as := [vI a1]) (rest := []) ok_X4_readOne ml_X4_71 so_33 rfl rfl rfl (Nat.le_of_ble_eq_true rfl) (fun _ => rfl) dX4_readTerm_29 (Con.mono h (fun _ M4 _ _ h => ?_))
        refine m_aload_n C 0 dX4_readTerm_32 rfl rfl ?_
        refine m_bipush C dX4_readTerm_33 (r32_of rfl) (by decide) ?_
        refine m_callVv C (as := [vI (-17)]) (rest := []) ok_X4_make ml_X4_59 so_33 rfl rfl rfl (Nat.le_of_ble_eq_true rfl) (fun _ => rfl) dX4_readTerm_35 (Con.mono h (fun _ M6 _ _ h => ?_))
        refine m_iinc C (L' := [(2, vI (w32 (x2 + 1))), (0, vR 33), (1, vI a1)]) 2 dX4_readTerm_38 rfl (by rw [hnL]; decide) rfl ?_
        refine m_goto C (tgt := 7) dX4_readTerm_41 (by decide) ?_
        exact m_sub [1, 2, 0] rfl h
  have h := h (fun (x2 : Int) (M : Mem) => WM X 7 [(0, vR 33), (1, vI a1), (2, vI x2)] [] M) hb7
  unfold B_X4_readTerm at h
  refine m_aload_n C 0 dX4_readTerm_0 rfl rfl ?_
  refine m_iload_n C 1 dX4_readTerm_1 rfl rfl ?_
  refine m_callVv C (as := [vI a1]) (rest := []) ok_X4_readOne ml_X4_71 so_33 rfl rfl rfl (Nat.le_of_ble_eq_true rfl) (fun _ => rfl) dX4_readTerm_2 (Con.mono h (fun _ M8 _ _ h => ?_))
  refine m_iconst C dX4_readTerm_5 (r32_of rfl) ?_
  refine m_istore_n C (L' := [(2, vI 0), (0, vR 33), (1, vI a1)]) dX4_readTerm_6 rfl (by rw [hnL]; decide) rfl ?_
  exact m_sub [1, 2, 0] rfl h
def B_X4_readOne (n : Nat) (a1 : Int) (M : Mem) (Q : Int → Mem → Prop)  : Prop :=
  (((M 33 6) = 12 →
  Con n md_X4_make [vR 33, vI (M 33 8)] M (fun _ M58 =>
    Con n md_X4_advance [vR 33] M58 (fun _ M60 =>
    Q 0 M60))) ∧ (¬ (M 33 6) = 12 →
  (((M 33 6) < 0 →
    (((M 33 6) = 45 →
      ((5 ≤ a1 →
        (((M 33 6) = 40 →
          ((5 ≤ a1 →
            Con n md_X4_fail [vR 33] M (fun _ M14 =>
              Q 0 M14)) ∧ (¬ 5 ≤ a1 →
            Con n md_X4_advance [vR 33] M (fun _ M16 =>
              Con n md_X4_readOr [vR 33, vI (w32 (a1 + 1))] M16 (fun _ M18 =>
              Con n md_X4_expect [vR 33, vI 41] M18 (fun _ M20 =>
              Q 0 M20)))))) ∧ (¬ (M 33 6) = 40 →
          Con n md_X4_fail [vR 33] M (fun _ M12 =>
            Q 0 M12)))) ∧ (¬ 5 ≤ a1 →
        Con n md_X4_advance [vR 33] M (fun _ M22 =>
          Con n md_X4_readOne [vR 33, vI (w32 (a1 + 1))] M22 (fun _ M24 =>
          Con n md_X4_make [vR 33, vI (-18)] M24 (fun _ M26 =>
          Q 0 M26)))))) ∧ (¬ (M 33 6) = 45 →
      (((M 33 6) = 40 →
        ((5 ≤ a1 →
          Con n md_X4_fail [vR 33] M (fun _ M4 =>
            Q 0 M4)) ∧ (¬ 5 ≤ a1 →
          Con n md_X4_advance [vR 33] M (fun _ M6 =>
            Con n md_X4_readOr [vR 33, vI (w32 (a1 + 1))] M6 (fun _ M8 =>
            Con n md_X4_expect [vR 33, vI 41] M8 (fun _ M10 =>
            Q 0 M10)))))) ∧ (¬ (M 33 6) = 40 →
        Con n md_X4_fail [vR 33] M (fun _ M2 =>
          Q 0 M2)))))) ∧ (¬ (M 33 6) < 0 →
    ((6 ≤ (M 33 6) →
      (((M 33 6) = 45 →
        ((5 ≤ a1 →
          (((M 33 6) = 40 →
            ((5 ≤ a1 →
              Con n md_X4_fail [vR 33] M (fun _ M40 =>
                Q 0 M40)) ∧ (¬ 5 ≤ a1 →
              Con n md_X4_advance [vR 33] M (fun _ M42 =>
                Con n md_X4_readOr [vR 33, vI (w32 (a1 + 1))] M42 (fun _ M44 =>
                Con n md_X4_expect [vR 33, vI 41] M44 (fun _ M46 =>
                Q 0 M46)))))) ∧ (¬ (M 33 6) = 40 →
            Con n md_X4_fail [vR 33] M (fun _ M38 =>
              Q 0 M38)))) ∧ (¬ 5 ≤ a1 →
          Con n md_X4_advance [vR 33] M (fun _ M48 =>
            Con n md_X4_readOne [vR 33, vI (w32 (a1 + 1))] M48 (fun _ M50 =>
            Con n md_X4_make [vR 33, vI (-18)] M50 (fun _ M52 =>
            Q 0 M52)))))) ∧ (¬ (M 33 6) = 45 →
        (((M 33 6) = 40 →
          ((5 ≤ a1 →
            Con n md_X4_fail [vR 33] M (fun _ M30 =>
              Q 0 M30)) ∧ (¬ 5 ≤ a1 →
            Con n md_X4_advance [vR 33] M (fun _ M32 =>
              Con n md_X4_readOr [vR 33, vI (w32 (a1 + 1))] M32 (fun _ M34 =>
              Con n md_X4_expect [vR 33, vI 41] M34 (fun _ M36 =>
              Q 0 M36)))))) ∧ (¬ (M 33 6) = 40 →
          Con n md_X4_fail [vR 33] M (fun _ M28 =>
            Q 0 M28)))))) ∧ (¬ 6 ≤ (M 33 6) →
      Con n md_X4_make [vR 33, vI (w32 ((-1) - (M 33 6)))] M (fun _ M54 =>
        Con n md_X4_advance [vR 33] M54 (fun _ M56 =>
        Q 0 M56))))))))
set_option maxHeartbeats 4000000 in
set_option maxRecDepth 20000 in
theorem g_X4_readOne {n : Nat} {a1 : Int} {M : Mem} {Q : Int → Mem → Prop}  (h : B_X4_readOne n a1 M Q) : Con (n + 1) md_X4_readOne [vR 33, vI a1] M Q := by
  refine Con.ofF (n := n + 1) (Nat.succ_pos n) pl_X4_readOne (Nat.le_of_ble_eq_true rfl) (fun X C E hnL => ?_)
  have C : Cx X cX4_readOne RX4 n := C
  show WM X 0 [(0, vR 33), (1, vI a1)] [] M
  unfold B_X4_readOne at h
  refine m_aload_n C 0 dX4_readOne_0 rfl rfl ?_
  refine m_getI C (k := 6) cl_X4 (by decide) so_33 rfl fl_X4_30 dX4_readOne_1 ?_
  refine m_bipush C dX4_readOne_4 (r32_of rfl) (by decide) ?_
  refine m_icmp_ne C (tgt := 24) dX4_readOne_6 (by decide) (fun e => ?_) (fun e => ?_)
  · have h := h.2 e
    refine m_aload_n C 0 dX4_readOne_24 rfl rfl ?_
    refine m_getI C (k := 6) cl_X4 (by decide) so_33 rfl fl_X4_30 dX4_readOne_25 ?_
    refine m_if_lt C (tgt := 57) dX4_readOne_28 (by decide) (fun e => ?_) (fun e => ?_)
    · have h := h.1 e
      refine m_aload_n C 0 dX4_readOne_57 rfl rfl ?_
      refine m_getI C (k := 6) cl_X4 (by decide) so_33 rfl fl_X4_30 dX4_readOne_58 ?_
      refine m_bipush C dX4_readOne_61 (r32_of rfl) (by decide) ?_
      refine m_icmp_ne C (tgt := 91) dX4_readOne_63 (by decide) (fun e => ?_) (fun e => ?_)
      · have h := h.2 e
        refine m_aload_n C 0 dX4_readOne_91 rfl rfl ?_
        refine m_getI C (k := 6) cl_X4 (by decide) so_33 rfl fl_X4_30 dX4_readOne_92 ?_
        refine m_bipush C dX4_readOne_95 (r32_of rfl) (by decide) ?_
        refine m_icmp_ne C (tgt := 125) dX4_readOne_97 (by decide) (fun e => ?_) (fun e => ?_)
        · have h := h.2 e
          refine m_aload_n C 0 dX4_readOne_125 rfl rfl ?_
          refine m_callVv C (as := []) (rest := []) ok_X4_fail ml_X4_53 so_33 rfl rfl rfl (Nat.le_of_ble_eq_true rfl) (fun _ => rfl) dX4_readOne_126 (Con.mono h (fun _ M2 _ _ h => ?_))
          exact m_vret C E dX4_readOne_129 h
        · have h := h.1 e
          refine m_iload_n C 1 dX4_readOne_100 rfl rfl ?_
          refine m_iconst C dX4_readOne_101 (r32_of rfl) ?_
          refine m_icmp_ge C (tgt := 125) dX4_readOne_102 (by decide) (fun e => ?_) (fun e => ?_)
          · have h := h.1 e
            refine m_aload_n C 0 dX4_readOne_125 rfl rfl ?_
            refine m_callVv C (as := []) (rest := []) ok_X4_fail ml_X4_53 so_33 rfl rfl rfl (Nat.le_of_ble_eq_true rfl) (fun _ => rfl) dX4_readOne_126 (Con.mono h (fun _ M4 _ _ h => ?_))
            exact m_vret C E dX4_readOne_129 h
          · have h := h.2 e
            refine m_aload_n C 0 dX4_readOne_105 rfl rfl ?_
            refine m_callVv C (as := []) (rest := []) ok_X4_advance ml_X4_43 so_33 rfl rfl rfl (Nat.le_of_ble_eq_true rfl) (fun _ => rfl) dX4_readOne_106 (Con.mono h (fun _ M6 _ _ h => ?_))
            refine m_aload_n C 0 dX4_readOne_109 rfl rfl ?_
            refine m_iload_n C 1 dX4_readOne_110 rfl rfl ?_
            refine m_iconst C dX4_readOne_111 (r32_of rfl) ?_
            refine m_iadd C dX4_readOne_112 ?_
            refine m_callVv C (as := [vI (w32 (a1 + 1))]) (rest := []) ok_X4_readOr ml_X4_50 so_33 rfl rfl rfl (Nat.le_of_ble_eq_true rfl) (fun _ => rfl) dX4_readOne_113 (Con.mono h (fun _ M8 _ _ h => ?_))
            refine m_aload_n C 0 dX4_readOne_116 rfl rfl ?_
            refine m_bipush C dX4_readOne_117 (r32_of rfl) (by decide) ?_
            refine m_callVv C (as := [vI 41]) (rest := []) ok_X4_expect ml_X4_46 so_33 rfl rfl rfl (Nat.le_of_ble_eq_true rfl) (fun _ => rfl) dX4_readOne_119 (Con.mono h (fun _ M10 _ _ h => ?_))
            refine m_goto C (tgt := 129) dX4_readOne_122 (by decide) ?_
            exact m_vret C E dX4_readOne_129 h
      · have h := h.1 e
        refine m_iload_n C 1 dX4_readOne_66 rfl rfl ?_
        refine m_iconst C dX4_readOne_67 (r32_of rfl) ?_
        refine m_icmp_ge C (tgt := 91) dX4_readOne_68 (by decide) (fun e => ?_) (fun e => ?_)
        · have h := h.1 e
          refine m_aload_n C 0 dX4_readOne_91 rfl rfl ?_
          refine m_getI C (k := 6) cl_X4 (by decide) so_33 rfl fl_X4_30 dX4_readOne_92 ?_
          refine m_bipush C dX4_readOne_95 (r32_of rfl) (by decide) ?_
          refine m_icmp_ne C (tgt := 125) dX4_readOne_97 (by decide) (fun e => ?_) (fun e => ?_)
          · have h := h.2 e
            refine m_aload_n C 0 dX4_readOne_125 rfl rfl ?_
            refine m_callVv C (as := []) (rest := []) ok_X4_fail ml_X4_53 so_33 rfl rfl rfl (Nat.le_of_ble_eq_true rfl) (fun _ => rfl) dX4_readOne_126 (Con.mono h (fun _ M12 _ _ h => ?_))
            exact m_vret C E dX4_readOne_129 h
          · have h := h.1 e
            refine m_iload_n C 1 dX4_readOne_100 rfl rfl ?_
            refine m_iconst C dX4_readOne_101 (r32_of rfl) ?_
            refine m_icmp_ge C (tgt := 125) dX4_readOne_102 (by decide) (fun e => ?_) (fun e => ?_)
            · have h := h.1 e
              refine m_aload_n C 0 dX4_readOne_125 rfl rfl ?_
              refine m_callVv C (as := []) (rest := []) ok_X4_fail ml_X4_53 so_33 rfl rfl rfl (Nat.le_of_ble_eq_true rfl) (fun _ => rfl) dX4_readOne_126 (Con.mono h (fun _ M14 _ _ h => ?_))
              exact m_vret C E dX4_readOne_129 h
            · have h := h.2 e
              refine m_aload_n C 0 dX4_readOne_105 rfl rfl ?_
              refine m_callVv C (as := []) (rest := []) ok_X4_advance ml_X4_43 so_33 rfl rfl rfl (Nat.le_of_ble_eq_true rfl) (fun _ => rfl) dX4_readOne_106 (Con.mono h (fun _ M16 _ _ h => ?_))
              refine m_aload_n C 0 dX4_readOne_109 rfl rfl ?_
              refine m_iload_n C 1 dX4_readOne_110 rfl rfl ?_
              refine m_iconst C dX4_readOne_111 (r32_of rfl) ?_
              refine m_iadd C dX4_readOne_112 ?_
              refine m_callVv C (as := [vI (w32 (a1 + 1))]) (rest := []) ok_X4_readOr ml_X4_50 so_33 rfl rfl rfl (Nat.le_of_ble_eq_true rfl) (fun _ => rfl) dX4_readOne_113 (Con.mono h (fun _ M18 _ _ h => ?_))
              refine m_aload_n C 0 dX4_readOne_116 rfl rfl ?_
              refine m_bipush C dX4_readOne_117 (r32_of rfl) (by decide) ?_
              refine m_callVv C (as := [vI 41]) (rest := []) ok_X4_expect ml_X4_46 so_33 rfl rfl rfl (Nat.le_of_ble_eq_true rfl) (fun _ => rfl) dX4_readOne_119 (Con.mono h (fun _ M20 _ _ h => ?_))
              refine m_goto C (tgt := 129) dX4_readOne_122 (by decide) ?_
              exact m_vret C E dX4_readOne_129 h
        · have h := h.2 e
          refine m_aload_n C 0 dX4_readOne_71 rfl rfl ?_
          refine m_callVv C (as := []) (rest := []) ok_X4_advance ml_X4_43 so_33 rfl rfl rfl (Nat.le_of_ble_eq_true rfl) (fun _ => rfl) dX4_readOne_72 (Con.mono h (fun _ M22 _ _ h => ?_))
          refine m_aload_n C 0 dX4_readOne_75 rfl rfl ?_
          refine m_iload_n C 1 dX4_readOne_76 rfl rfl ?_
          refine m_iconst C dX4_readOne_77 (r32_of rfl) ?_
          refine m_iadd C dX4_readOne_78 ?_
          refine m_callVv C (as := [vI (w32 (a1 + 1))]) (rest := []) ok_X4_readOne ml_X4_71 so_33 rfl rfl rfl (Nat.le_of_ble_eq_true rfl) (fun _ => rfl) dX4_readOne_79 (Con.mono h (fun _ M24 _ _ h => ?_))
          refine m_aload_n C 0 dX4_readOne_82 rfl rfl ?_
          refine m_bipush C dX4_readOne_83 (r32_of rfl) (by decide) ?_
          refine m_callVv C (as := [vI (-18)]) (rest := []) ok_X4_make ml_X4_59 so_33 rfl rfl rfl (Nat.le_of_ble_eq_true rfl) (fun _ => rfl) dX4_readOne_85 (Con.mono h (fun _ M26 _ _ h => ?_))
          refine m_goto C (tgt := 129) dX4_readOne_88 (by decide) ?_
          exact m_vret C E dX4_readOne_129 h
    · have h := h.2 e
      refine m_aload_n C 0 dX4_readOne_31 rfl rfl ?_
      refine m_getI C (k := 6) cl_X4 (by decide) so_33 rfl fl_X4_30 dX4_readOne_32 ?_
      refine m_bipush C dX4_readOne_35 (r32_of rfl) (by decide) ?_
      refine m_icmp_ge C (tgt := 57) dX4_readOne_37 (by decide) (fun e => ?_) (fun e => ?_)
      · have h := h.1 e
        refine m_aload_n C 0 dX4_readOne_57 rfl rfl ?_
        refine m_getI C (k := 6) cl_X4 (by decide) so_33 rfl fl_X4_30 dX4_readOne_58 ?_
        refine m_bipush C dX4_readOne_61 (r32_of rfl) (by decide) ?_
        refine m_icmp_ne C (tgt := 91) dX4_readOne_63 (by decide) (fun e => ?_) (fun e => ?_)
        · have h := h.2 e
          refine m_aload_n C 0 dX4_readOne_91 rfl rfl ?_
          refine m_getI C (k := 6) cl_X4 (by decide) so_33 rfl fl_X4_30 dX4_readOne_92 ?_
          refine m_bipush C dX4_readOne_95 (r32_of rfl) (by decide) ?_
          refine m_icmp_ne C (tgt := 125) dX4_readOne_97 (by decide) (fun e => ?_) (fun e => ?_)
          · have h := h.2 e
            refine m_aload_n C 0 dX4_readOne_125 rfl rfl ?_
            refine m_callVv C (as := []) (rest := []) ok_X4_fail ml_X4_53 so_33 rfl rfl rfl (Nat.le_of_ble_eq_true rfl) (fun _ => rfl) dX4_readOne_126 (Con.mono h (fun _ M28 _ _ h => ?_))
            exact m_vret C E dX4_readOne_129 h
          · have h := h.1 e
            refine m_iload_n C 1 dX4_readOne_100 rfl rfl ?_
            refine m_iconst C dX4_readOne_101 (r32_of rfl) ?_
            refine m_icmp_ge C (tgt := 125) dX4_readOne_102 (by decide) (fun e => ?_) (fun e => ?_)
            · have h := h.1 e
              refine m_aload_n C 0 dX4_readOne_125 rfl rfl ?_
              refine m_callVv C (as := []) (rest := []) ok_X4_fail ml_X4_53 so_33 rfl rfl rfl (Nat.le_of_ble_eq_true rfl) (fun _ => rfl) dX4_readOne_126 (Con.mono h (fun _ M30 _ _ h => ?_))
              exact m_vret C E dX4_readOne_129 h
            · have h := h.2 e
              refine m_aload_n C 0 dX4_readOne_105 rfl rfl ?_
              refine m_callVv C (as := []) (rest := []) ok_X4_advance ml_X4_43 so_33 rfl rfl rfl (Nat.le_of_ble_eq_true rfl) (fun _ => rfl) dX4_readOne_106 (Con.mono h (fun _ M32 _ _ h => ?_))
              refine m_aload_n C 0 dX4_readOne_109 rfl rfl ?_
              refine m_iload_n C 1 dX4_readOne_110 rfl rfl ?_
              refine m_iconst C dX4_readOne_111 (r32_of rfl) ?_
              refine m_iadd C dX4_readOne_112 ?_
              refine m_callVv C (as := [vI (w32 (a1 + 1))]) (rest := []) ok_X4_readOr ml_X4_50 so_33 rfl rfl rfl (Nat.le_of_ble_eq_true rfl) (fun _ => rfl) dX4_readOne_113 (Con.mono h (fun _ M34 _ _ h => ?_))
              refine m_aload_n C 0 dX4_readOne_116 rfl rfl ?_
              refine m_bipush C dX4_readOne_117 (r32_of rfl) (by decide) ?_
              refine m_callVv C (as := [vI 41]) (rest := []) ok_X4_expect ml_X4_46 so_33 rfl rfl rfl (Nat.le_of_ble_eq_true rfl) (fun _ => rfl) dX4_readOne_119 (Con.mono h (fun _ M36 _ _ h => ?_))
              refine m_goto C (tgt := 129) dX4_readOne_122 (by decide) ?_
              exact m_vret C E dX4_readOne_129 h
        · have h := h.1 e
          refine m_iload_n C 1 dX4_readOne_66 rfl rfl ?_
          refine m_iconst C dX4_readOne_67 (r32_of rfl) ?_
          refine m_icmp_ge C (tgt := 91) dX4_readOne_68 (by decide) (fun e => ?_) (fun e => ?_)
          · have h := h.1 e
            refine m_aload_n C 0 dX4_readOne_91 rfl rfl ?_
            refine m_getI C (k := 6) cl_X4 (by decide) so_33 rfl fl_X4_30 dX4_readOne_92 ?_
            refine m_bipush C dX4_readOne_95 (r32_of rfl) (by decide) ?_
            refine m_icmp_ne C (tgt := 125) dX4_readOne_97 (by decide) (fun e => ?_) (fun e => ?_)
            · have h := h.2 e
              refine m_aload_n C 0 dX4_readOne_125 rfl rfl ?_
              refine m_callVv C (as := []) (rest := []) ok_X4_fail ml_X4_53 so_33 rfl rfl rfl (Nat.le_of_ble_eq_true rfl) (fun _ => rfl) dX4_readOne_126 (Con.mono h (fun _ M38 _ _ h => ?_))
              exact m_vret C E dX4_readOne_129 h
            · have h := h.1 e
              refine m_iload_n C 1 dX4_readOne_100 rfl rfl ?_
              refine m_iconst C dX4_readOne_101 (r32_of rfl) ?_
              refine m_icmp_ge C (tgt := 125) dX4_readOne_102 (by decide) (fun e => ?_) (fun e => ?_)
              · have h := h.1 e
                refine m_aload_n C 0 dX4_readOne_125 rfl rfl ?_
                refine m_callVv C (as := []) (rest := []) ok_X4_fail ml_X4_53 so_33 rfl rfl rfl (Nat.le_of_ble_eq_true rfl) (fun _ => rfl) dX4_readOne_126 (Con.mono h (fun _ M40 _ _ h => ?_))
                exact m_vret C E dX4_readOne_129 h
              · have h := h.2 e
                refine m_aload_n C 0 dX4_readOne_105 rfl rfl ?_
                refine m_callVv C (as := []) (rest := []) ok_X4_advance ml_X4_43 so_33 rfl rfl rfl (Nat.le_of_ble_eq_true rfl) (fun _ => rfl) dX4_readOne_106 (Con.mono h (fun _ M42 _ _ h => ?_))
                refine m_aload_n C 0 dX4_readOne_109 rfl rfl ?_
                refine m_iload_n C 1 dX4_readOne_110 rfl rfl ?_
                refine m_iconst C dX4_readOne_111 (r32_of rfl) ?_
                refine m_iadd C dX4_readOne_112 ?_
                refine m_callVv C (as := [vI (w32 (a1 + 1))]) (rest := []) ok_X4_readOr ml_X4_50 so_33 rfl rfl rfl (Nat.le_of_ble_eq_true rfl) (fun _ => rfl) dX4_readOne_113 (Con.mono h (fun _ M44 _ _ h => ?_))
                refine m_aload_n C 0 dX4_readOne_116 rfl rfl ?_
                refine m_bipush C dX4_readOne_117 (r32_of rfl) (by decide) ?_
                refine m_callVv C (as := [vI 41]) (rest := []) ok_X4_expect ml_X4_46 so_33 rfl rfl rfl (Nat.le_of_ble_eq_true rfl) (fun _ => rfl) dX4_readOne_119 (Con.mono h (fun _ M46 _ _ h => ?_))
                refine m_goto C (tgt := 129) dX4_readOne_122 (by decide) ?_
                exact m_vret C E dX4_readOne_129 h
          · have h := h.2 e
            refine m_aload_n C 0 dX4_readOne_71 rfl rfl ?_
            refine m_callVv C (as := []) (rest := []) ok_X4_advance ml_X4_43 so_33 rfl rfl rfl (Nat.le_of_ble_eq_true rfl) (fun _ => rfl) dX4_readOne_72 (Con.mono h (fun _ M48 _ _ h => ?_))
            refine m_aload_n C 0 dX4_readOne_75 rfl rfl ?_
            refine m_iload_n C 1 dX4_readOne_76 rfl rfl ?_
            refine m_iconst C dX4_readOne_77 (r32_of rfl) ?_
            refine m_iadd C dX4_readOne_78 ?_
            refine m_callVv C (as := [vI (w32 (a1 + 1))]) (rest := []) ok_X4_readOne ml_X4_71 so_33 rfl rfl rfl (Nat.le_of_ble_eq_true rfl) (fun _ => rfl) dX4_readOne_79 (Con.mono h (fun _ M50 _ _ h => ?_))
            refine m_aload_n C 0 dX4_readOne_82 rfl rfl ?_
            refine m_bipush C dX4_readOne_83 (r32_of rfl) (by decide) ?_
            refine m_callVv C (as := [vI (-18)]) (rest := []) ok_X4_make ml_X4_59 so_33 rfl rfl rfl (Nat.le_of_ble_eq_true rfl) (fun _ => rfl) dX4_readOne_85 (Con.mono h (fun _ M52 _ _ h => ?_))
            refine m_goto C (tgt := 129) dX4_readOne_88 (by decide) ?_
            exact m_vret C E dX4_readOne_129 h
      · have h := h.2 e
        refine m_aload_n C 0 dX4_readOne_40 rfl rfl ?_
        refine m_iconst C dX4_readOne_41 (r32_of rfl) ?_
        refine m_aload_n C 0 dX4_readOne_42 rfl rfl ?_
        refine m_getI C (k := 6) cl_X4 (by decide) so_33 rfl fl_X4_30 dX4_readOne_43 ?_
        refine m_isub C dX4_readOne_46 ?_
        refine m_callVv C (as := [vI (w32 ((-1) - (M 33 6)))]) (rest := []) ok_X4_make ml_X4_59 so_33 rfl rfl rfl (Nat.le_of_ble_eq_true rfl) (fun _ => rfl) dX4_readOne_47 (Con.mono h (fun _ M54 _ _ h => ?_))
        refine m_aload_n C 0 dX4_readOne_50 rfl rfl ?_
        refine m_callVv C (as := []) (rest := []) ok_X4_advance ml_X4_43 so_33 rfl rfl rfl (Nat.le_of_ble_eq_true rfl) (fun _ => rfl) dX4_readOne_51 (Con.mono h (fun _ M56 _ _ h => ?_))
        refine m_goto C (tgt := 129) dX4_readOne_54 (by decide) ?_
        exact m_vret C E dX4_readOne_129 h
  · have h := h.1 e
    refine m_aload_n C 0 dX4_readOne_9 rfl rfl ?_
    refine m_aload_n C 0 dX4_readOne_10 rfl rfl ?_
    refine m_getI C (k := 8) cl_X4 (by decide) so_33 rfl fl_X4_36 dX4_readOne_11 ?_
    refine m_callVv C (as := [vI (M 33 8)]) (rest := []) ok_X4_make ml_X4_59 so_33 rfl rfl rfl (Nat.le_of_ble_eq_true rfl) (fun _ => rfl) dX4_readOne_14 (Con.mono h (fun _ M58 _ _ h => ?_))
    refine m_aload_n C 0 dX4_readOne_17 rfl rfl ?_
    refine m_callVv C (as := []) (rest := []) ok_X4_advance ml_X4_43 so_33 rfl rfl rfl (Nat.le_of_ble_eq_true rfl) (fun _ => rfl) dX4_readOne_18 (Con.mono h (fun _ M60 _ _ h => ?_))
    refine m_goto C (tgt := 129) dX4_readOne_21 (by decide) ?_
    exact m_vret C E dX4_readOne_129 h
def B_X4_advance_11 (n : Nat)  (x1 : Int) (M : Mem) (Q : Int → Mem → Prop) (K11 : Int → Mem → Prop) : Prop :=
  ((160 ≤ x1 →
  (∀ M1 : Mem, M1 = up M 33 7 (M 33 4) →
    Con n md_X6_byteAt [vR 15, vI (M1 33 4)] M1 (fun r2 M3 =>
    ((r2 = (-1) →
    (∀ M18 : Mem, M18 = up M3 33 6 13 →
      Q 0 M18)) ∧ (¬ r2 = (-1) →
    Con n md_X4_isLetter [vI r2] M3 (fun r4 M5 =>
      ((r4 = 0 →
      Con n md_X4_isDigit [vI r2] M5 (fun r6 M7 =>
        ((r6 = 0 →
        Con n md_X4_isSign [vI r2] M7 (fun r8 M9 =>
          ((r8 = 0 →
          Con n md_X4_fail [vR 33] M9 (fun _ M11 =>
            Q 0 M11)) ∧ (¬ r8 = 0 →
          (∀ M12 : Mem, M12 = up M9 33 6 r2 →
            (∀ M13 : Mem, M13 = up M12 33 4 (w32 ((M12 33 4) + 1)) →
            Q 0 M13)))))) ∧ (¬ r6 = 0 →
        Con n md_X4_takeNumber [vR 33] M7 (fun _ M15 =>
          Q 0 M15))))) ∧ (¬ r4 = 0 →
      Con n md_X4_takeWord [vR 33] M5 (fun _ M17 =>
        Q 0 M17))))))))) ∧ (¬ 160 ≤ x1 →
  Con n md_X6_byteAt [vR 15, vI (M 33 4)] M (fun r19 M20 =>
    Con n md_X4_isBlank [vI r19] M20 (fun r21 M22 =>
    ((r21 = 0 →
    (∀ M23 : Mem, M23 = up M22 33 7 (M22 33 4) →
      Con n md_X6_byteAt [vR 15, vI (M23 33 4)] M23 (fun r24 M25 =>
      ((r24 = (-1) →
      (∀ M40 : Mem, M40 = up M25 33 6 13 →
        Q 0 M40)) ∧ (¬ r24 = (-1) →
      Con n md_X4_isLetter [vI r24] M25 (fun r26 M27 =>
        ((r26 = 0 →
        Con n md_X4_isDigit [vI r24] M27 (fun r28 M29 =>
          ((r28 = 0 →
          Con n md_X4_isSign [vI r24] M29 (fun r30 M31 =>
            ((r30 = 0 →
            Con n md_X4_fail [vR 33] M31 (fun _ M33 =>
              Q 0 M33)) ∧ (¬ r30 = 0 →
            (∀ M34 : Mem, M34 = up M31 33 6 r24 →
              (∀ M35 : Mem, M35 = up M34 33 4 (w32 ((M34 33 4) + 1)) →
              Q 0 M35)))))) ∧ (¬ r28 = 0 →
          Con n md_X4_takeNumber [vR 33] M29 (fun _ M37 =>
            Q 0 M37))))) ∧ (¬ r26 = 0 →
        Con n md_X4_takeWord [vR 33] M27 (fun _ M39 =>
          Q 0 M39))))))))) ∧ (¬ r21 = 0 →
    (∀ M41 : Mem, M41 = up M22 33 4 (w32 ((M22 33 4) + 1)) →
      K11 (w32 (x1 + 1)) M41)))))))
def B_X4_advance (n : Nat)  (M : Mem) (Q : Int → Mem → Prop) (K11 : Int → Mem → Prop) : Prop :=
  (((M 33 5) = (-1) →
  K11 0 M) ∧ (¬ (M 33 5) = (-1) →
  Q 0 M))
set_option maxHeartbeats 4000000 in
set_option maxRecDepth 20000 in
theorem g_X4_advance {n : Nat}  {M : Mem} {Q : Int → Mem → Prop}  (h : ∀ (K11 : Int → Mem → Prop), (∀ (x1 : Int) (M : Mem), B_X4_advance_11 n  x1 M Q K11 → K11 x1 M) → B_X4_advance n  M Q K11) : Con (n + 1) md_X4_advance [vR 33] M Q := by
  refine Con.ofF (n := n + 1) (Nat.succ_pos n) pl_X4_advance (Nat.le_of_ble_eq_true rfl) (fun X C E hnL => ?_)
  have C : Cx X cX4_advance RX4 n := C
  show WM X 0 [(0, vR 33)] [] M
  have hb11 : ∀ (x1 : Int) (M : Mem), B_X4_advance_11 n  x1 M Q (fun (x1 : Int) (M : Mem) => WM X 11 [(0, vR 33), (1, vI x1)] [] M) → WM X 11 [(0, vR 33), (1, vI x1)] [] M := by
    intro x1 M h
    unfold B_X4_advance_11 at h
    refine m_iload_n C 1 dX4_advance_11 rfl rfl ?_
    refine m_sipush C dX4_advance_12 (r32_of rfl) (by decide) ?_
    refine m_icmp_ge C (tgt := 51) dX4_advance_15 (by decide) (fun e => ?_) (fun e => ?_)
    · have h := h.1 e
      refine m_aload_n C 0 dX4_advance_51 rfl rfl ?_
      refine m_aload_n C 0 dX4_advance_52 rfl rfl ?_
      refine m_getI C (k := 4) cl_X4 (by decide) so_33 rfl fl_X4_24 dX4_advance_53 ?_
      refine m_putI C (k := 7) cl_X4 (by decide) so_33 rfl rfl rfl fl_X4_33 dX4_advance_56 ?_
      generalize eM1 : up M 33 7 (M 33 4) = M1
      have h := h M1 eM1.symm
      refine m_aload_n C 0 dX4_advance_59 rfl rfl ?_
      refine m_getR C (k := 0) cl_X4 (by decide) so_33 rfl fl_X4_39 dX4_advance_60 ?_
      refine m_aload_n C 0 dX4_advance_63 rfl rfl ?_
      refine m_getI C (k := 4) cl_X4 (by decide) so_33 rfl fl_X4_24 dX4_advance_64 ?_
      refine m_callVi C (as := [vI (M1 33 4)]) (rest := []) ok_X6_byteAt ml_X4_74 so_15 rfl rfl rfl (Nat.le_of_ble_eq_true rfl) (fun _ => rfl) dX4_advance_67 (Con.mono h (fun r2 M3 _ _ h => ?_))
      refine m_istore_n C (L' := [(1, vI r2), (0, vR 33)]) dX4_advance_70 rfl (by rw [hnL]; decide) rfl ?_
      refine m_iload_n C 0 dX4_advance_71 rfl rfl ?_
      refine m_iconst C dX4_advance_72 (r32_of rfl) ?_
      refine m_icmp_ne C (tgt := 85) dX4_advance_73 (by decide) (fun e => ?_) (fun e => ?_)
      · have h := h.2 e
        refine m_iload_n C 0 dX4_advance_85 rfl rfl ?_
        refine m_callSi C (as := [vI r2]) (rest := []) ok_X4_isLetter ml_X4_84 rfl rfl (Nat.le_of_ble_eq_true rfl) (fun _ => rfl) dX4_advance_86 (Con.mono h (fun r4 M5 _ _ h => ?_))
        refine m_if_eq C (tgt := 99) dX4_advance_89 (by decide) (fun e => ?_) (fun e => ?_)
        · have h := h.1 e
          refine m_iload_n C 0 dX4_advance_99 rfl rfl ?_
          refine m_callSi C (as := [vI r2]) (rest := []) ok_X4_isDigit ml_X4_90 rfl rfl (Nat.le_of_ble_eq_true rfl) (fun _ => rfl) dX4_advance_100 (Con.mono h (fun r6 M7 _ _ h => ?_))
          refine m_if_eq C (tgt := 113) dX4_advance_103 (by decide) (fun e => ?_) (fun e => ?_)
          · have h := h.1 e
            refine m_iload_n C 0 dX4_advance_113 rfl rfl ?_
            refine m_callSi C (as := [vI r2]) (rest := []) ok_X4_isSign ml_X4_96 rfl rfl (Nat.le_of_ble_eq_true rfl) (fun _ => rfl) dX4_advance_114 (Con.mono h (fun r8 M9 _ _ h => ?_))
            refine m_if_eq C (tgt := 138) dX4_advance_117 (by decide) (fun e => ?_) (fun e => ?_)
            · have h := h.1 e
              refine m_aload_n C 1 dX4_advance_138 rfl rfl ?_
              refine m_callVv C (as := []) (rest := []) ok_X4_fail ml_X4_53 so_33 rfl rfl rfl (Nat.le_of_ble_eq_true rfl) (fun _ => rfl) dX4_advance_139 (Con.mono h (fun _ M11 _ _ h => ?_))
              exact m_vret C E dX4_advance_142 h
            · have h := h.2 e
              refine m_aload_n C 1 dX4_advance_120 rfl rfl ?_
              refine m_iload_n C 0 dX4_advance_121 rfl rfl ?_
              refine m_putI C (k := 6) cl_X4 (by decide) so_33 rfl rfl rfl fl_X4_30 dX4_advance_122 ?_
              generalize eM12 : up M9 33 6 r2 = M12
              have h := h M12 eM12.symm
              refine m_aload_n C 1 dX4_advance_125 rfl rfl ?_
              refine m_dupR C dX4_advance_126 ?_
              refine m_getI C (k := 4) cl_X4 (by decide) so_33 rfl fl_X4_24 dX4_advance_127 ?_
              refine m_iconst C dX4_advance_130 (r32_of rfl) ?_
              refine m_iadd C dX4_advance_131 ?_
              refine m_putI C (k := 4) cl_X4 (by decide) so_33 rfl rfl rfl fl_X4_24 dX4_advance_132 ?_
              generalize eM13 : up M12 33 4 (w32 ((M12 33 4) + 1)) = M13
              have h := h M13 eM13.symm
              refine m_goto C (tgt := 142) dX4_advance_135 (by decide) ?_
              exact m_vret C E dX4_advance_142 h
          · have h := h.2 e
            refine m_aload_n C 1 dX4_advance_106 rfl rfl ?_
            refine m_callVv C (as := []) (rest := []) ok_X4_takeNumber ml_X4_93 so_33 rfl rfl rfl (Nat.le_of_ble_eq_true rfl) (fun _ => rfl) dX4_advance_107 (Con.mono h (fun _ M15 _ _ h => ?_))
            refine m_goto C (tgt := 142) dX4_advance_110 (by decide) ?_
            exact m_vret C E dX4_advance_142 h
        · have h := h.2 e
          refine m_aload_n C 1 dX4_advance_92 rfl rfl ?_
          refine m_callVv C (as := []) (rest := []) ok_X4_takeWord ml_X4_87 so_33 rfl rfl rfl (Nat.le_of_ble_eq_true rfl) (fun _ => rfl) dX4_advance_93 (Con.mono h (fun _ M17 _ _ h => ?_))
          refine m_goto C (tgt := 142) dX4_advance_96 (by decide) ?_
          exact m_vret C E dX4_advance_142 h
      · have h := h.1 e
        refine m_aload_n C 1 dX4_advance_76 rfl rfl ?_
        refine m_bipush C dX4_advance_77 (r32_of rfl) (by decide) ?_
        refine m_putI C (k := 6) cl_X4 (by decide) so_33 rfl rfl rfl fl_X4_30 dX4_advance_79 ?_
        generalize eM18 : up M3 33 6 13 = M18
        have h := h M18 eM18.symm
        refine m_goto C (tgt := 142) dX4_advance_82 (by decide) ?_
        exact m_vret C E dX4_advance_142 h
    · have h := h.2 e
      refine m_aload_n C 0 dX4_advance_18 rfl rfl ?_
      refine m_getR C (k := 0) cl_X4 (by decide) so_33 rfl fl_X4_39 dX4_advance_19 ?_
      refine m_aload_n C 0 dX4_advance_22 rfl rfl ?_
      refine m_getI C (k := 4) cl_X4 (by decide) so_33 rfl fl_X4_24 dX4_advance_23 ?_
      refine m_callVi C (as := [vI (M 33 4)]) (rest := []) ok_X6_byteAt ml_X4_74 so_15 rfl rfl rfl (Nat.le_of_ble_eq_true rfl) (fun _ => rfl) dX4_advance_26 (Con.mono h (fun r19 M20 _ _ h => ?_))
      refine m_callSi C (as := [vI r19]) (rest := []) ok_X4_isBlank ml_X4_80 rfl rfl (Nat.le_of_ble_eq_true rfl) (fun _ => rfl) dX4_advance_29 (Con.mono h (fun r21 M22 _ _ h => ?_))
      refine m_if_eq C (tgt := 51) dX4_advance_32 (by decide) (fun e => ?_) (fun e => ?_)
      · have h := h.1 e
        refine m_aload_n C 0 dX4_advance_51 rfl rfl ?_
        refine m_aload_n C 0 dX4_advance_52 rfl rfl ?_
        refine m_getI C (k := 4) cl_X4 (by decide) so_33 rfl fl_X4_24 dX4_advance_53 ?_
        refine m_putI C (k := 7) cl_X4 (by decide) so_33 rfl rfl rfl fl_X4_33 dX4_advance_56 ?_
        generalize eM23 : up M22 33 7 (M22 33 4) = M23
        have h := h M23 eM23.symm
        refine m_aload_n C 0 dX4_advance_59 rfl rfl ?_
        refine m_getR C (k := 0) cl_X4 (by decide) so_33 rfl fl_X4_39 dX4_advance_60 ?_
        refine m_aload_n C 0 dX4_advance_63 rfl rfl ?_
        refine m_getI C (k := 4) cl_X4 (by decide) so_33 rfl fl_X4_24 dX4_advance_64 ?_
        refine m_callVi C (as := [vI (M23 33 4)]) (rest := []) ok_X6_byteAt ml_X4_74 so_15 rfl rfl rfl (Nat.le_of_ble_eq_true rfl) (fun _ => rfl) dX4_advance_67 (Con.mono h (fun r24 M25 _ _ h => ?_))
        refine m_istore_n C (L' := [(1, vI r24), (0, vR 33)]) dX4_advance_70 rfl (by rw [hnL]; decide) rfl ?_
        refine m_iload_n C 0 dX4_advance_71 rfl rfl ?_
        refine m_iconst C dX4_advance_72 (r32_of rfl) ?_
        refine m_icmp_ne C (tgt := 85) dX4_advance_73 (by decide) (fun e => ?_) (fun e => ?_)
        · have h := h.2 e
          refine m_iload_n C 0 dX4_advance_85 rfl rfl ?_
          refine m_callSi C (as := [vI r24]) (rest := []) ok_X4_isLetter ml_X4_84 rfl rfl (Nat.le_of_ble_eq_true rfl) (fun _ => rfl) dX4_advance_86 (Con.mono h (fun r26 M27 _ _ h => ?_))
          refine m_if_eq C (tgt := 99) dX4_advance_89 (by decide) (fun e => ?_) (fun e => ?_)
          · have h := h.1 e
            refine m_iload_n C 0 dX4_advance_99 rfl rfl ?_
            refine m_callSi C (as := [vI r24]) (rest := []) ok_X4_isDigit ml_X4_90 rfl rfl (Nat.le_of_ble_eq_true rfl) (fun _ => rfl) dX4_advance_100 (Con.mono h (fun r28 M29 _ _ h => ?_))
            refine m_if_eq C (tgt := 113) dX4_advance_103 (by decide) (fun e => ?_) (fun e => ?_)
            · have h := h.1 e
              refine m_iload_n C 0 dX4_advance_113 rfl rfl ?_
              refine m_callSi C (as := [vI r24]) (rest := []) ok_X4_isSign ml_X4_96 rfl rfl (Nat.le_of_ble_eq_true rfl) (fun _ => rfl) dX4_advance_114 (Con.mono h (fun r30 M31 _ _ h => ?_))
              refine m_if_eq C (tgt := 138) dX4_advance_117 (by decide) (fun e => ?_) (fun e => ?_)
              · have h := h.1 e
                refine m_aload_n C 1 dX4_advance_138 rfl rfl ?_
                refine m_callVv C (as := []) (rest := []) ok_X4_fail ml_X4_53 so_33 rfl rfl rfl (Nat.le_of_ble_eq_true rfl) (fun _ => rfl) dX4_advance_139 (Con.mono h (fun _ M33 _ _ h => ?_))
                exact m_vret C E dX4_advance_142 h
              · have h := h.2 e
                refine m_aload_n C 1 dX4_advance_120 rfl rfl ?_
                refine m_iload_n C 0 dX4_advance_121 rfl rfl ?_
                refine m_putI C (k := 6) cl_X4 (by decide) so_33 rfl rfl rfl fl_X4_30 dX4_advance_122 ?_
                generalize eM34 : up M31 33 6 r24 = M34
                have h := h M34 eM34.symm
                refine m_aload_n C 1 dX4_advance_125 rfl rfl ?_
                refine m_dupR C dX4_advance_126 ?_
                refine m_getI C (k := 4) cl_X4 (by decide) so_33 rfl fl_X4_24 dX4_advance_127 ?_
                refine m_iconst C dX4_advance_130 (r32_of rfl) ?_
                refine m_iadd C dX4_advance_131 ?_
                refine m_putI C (k := 4) cl_X4 (by decide) so_33 rfl rfl rfl fl_X4_24 dX4_advance_132 ?_
                generalize eM35 : up M34 33 4 (w32 ((M34 33 4) + 1)) = M35
                have h := h M35 eM35.symm
                refine m_goto C (tgt := 142) dX4_advance_135 (by decide) ?_
                exact m_vret C E dX4_advance_142 h
            · have h := h.2 e
              refine m_aload_n C 1 dX4_advance_106 rfl rfl ?_
              refine m_callVv C (as := []) (rest := []) ok_X4_takeNumber ml_X4_93 so_33 rfl rfl rfl (Nat.le_of_ble_eq_true rfl) (fun _ => rfl) dX4_advance_107 (Con.mono h (fun _ M37 _ _ h => ?_))
              refine m_goto C (tgt := 142) dX4_advance_110 (by decide) ?_
              exact m_vret C E dX4_advance_142 h
          · have h := h.2 e
            refine m_aload_n C 1 dX4_advance_92 rfl rfl ?_
            refine m_callVv C (as := []) (rest := []) ok_X4_takeWord ml_X4_87 so_33 rfl rfl rfl (Nat.le_of_ble_eq_true rfl) (fun _ => rfl) dX4_advance_93 (Con.mono h (fun _ M39 _ _ h => ?_))
            refine m_goto C (tgt := 142) dX4_advance_96 (by decide) ?_
            exact m_vret C E dX4_advance_142 h
        · have h := h.1 e
          refine m_aload_n C 1 dX4_advance_76 rfl rfl ?_
          refine m_bipush C dX4_advance_77 (r32_of rfl) (by decide) ?_
          refine m_putI C (k := 6) cl_X4 (by decide) so_33 rfl rfl rfl fl_X4_30 dX4_advance_79 ?_
          generalize eM40 : up M25 33 6 13 = M40
          have h := h M40 eM40.symm
          refine m_goto C (tgt := 142) dX4_advance_82 (by decide) ?_
          exact m_vret C E dX4_advance_142 h
      · have h := h.2 e
        refine m_aload_n C 0 dX4_advance_35 rfl rfl ?_
        refine m_dupR C dX4_advance_36 ?_
        refine m_getI C (k := 4) cl_X4 (by decide) so_33 rfl fl_X4_24 dX4_advance_37 ?_
        refine m_iconst C dX4_advance_40 (r32_of rfl) ?_
        refine m_iadd C dX4_advance_41 ?_
        refine m_putI C (k := 4) cl_X4 (by decide) so_33 rfl rfl rfl fl_X4_24 dX4_advance_42 ?_
        generalize eM41 : up M22 33 4 (w32 ((M22 33 4) + 1)) = M41
        have h := h M41 eM41.symm
        refine m_iinc C (L' := [(1, vI (w32 (x1 + 1))), (0, vR 33)]) 1 dX4_advance_45 rfl (by rw [hnL]; decide) rfl ?_
        refine m_goto C (tgt := 11) dX4_advance_48 (by decide) ?_
        exact m_sub [1, 0] rfl h
  have h := h (fun (x1 : Int) (M : Mem) => WM X 11 [(0, vR 33), (1, vI x1)] [] M) hb11
  unfold B_X4_advance at h
  refine m_aload_n C 0 dX4_advance_0 rfl rfl ?_
  refine m_getI C (k := 5) cl_X4 (by decide) so_33 rfl fl_X4_27 dX4_advance_1 ?_
  refine m_iconst C dX4_advance_4 (r32_of rfl) ?_
  refine m_icmp_eq C (tgt := 9) dX4_advance_5 (by decide) (fun e => ?_) (fun e => ?_)
  · have h := h.1 e
    refine m_iconst C dX4_advance_9 (r32_of rfl) ?_
    refine m_istore_n C (L' := [(1, vI 0), (0, vR 33)]) dX4_advance_10 rfl (by rw [hnL]; decide) rfl ?_
    exact m_sub [1, 0] rfl h
  · have h := h.2 e
    exact m_vret C E dX4_advance_8 h
def B_X4_takeWord_2 (n : Nat)  (x1 : Int) (M : Mem) (Q : Int → Mem → Prop) (K2 : Int → Mem → Prop) (K48 : Int → Int → Int → Mem → Prop) : Prop :=
  ((160 ≤ x1 →
  K48 0 0 0 M) ∧ (¬ 160 ≤ x1 →
  Con n md_X6_byteAt [vR 15, vI (M 33 4)] M (fun r1 M2 =>
    Con n md_X4_isLetter [vI r1] M2 (fun r3 M4 =>
    ((r3 = 0 →
    K48 0 0 0 M4) ∧ (¬ r3 = 0 →
    (∀ M5 : Mem, M5 = up M4 33 4 (w32 ((M4 33 4) + 1)) →
      K2 (w32 (x1 + 1)) M5)))))))
def B_X4_takeWord_48 (n : Nat)  (x1 : Int) (x2 : Int) (x3 : Int) (M : Mem) (Q : Int → Mem → Prop) (K2 : Int → Mem → Prop) (K48 : Int → Int → Int → Mem → Prop) : Prop :=
  Con n md_J0_length_8abf5 [vR 68] M (fun r6 M7 =>
  ((r6 ≤ x3 →
  Con n md_X4_fail [vR 33] M7 (fun _ M9 =>
    Q 0 M9)) ∧ (¬ r6 ≤ x3 →
  Con n md_J0_charAt_5068e [vR 68, vI x3] M7 (fun r10 M11 =>
    ((r10 = 32 →
    Con n md_X4_standsAtStart [vR 33, vI x2, vI x3] M11 (fun r12 M13 =>
      ((r12 = 0 →
      K48 (w32 (x1 + 1)) (w32 (x3 + 1)) (w32 (x3 + 1)) M13) ∧ (¬ r12 = 0 →
      (∀ M14 : Mem, M14 = up M13 33 6 x1 →
        Q 0 M14))))) ∧ (¬ r10 = 32 →
    K48 x1 x2 (w32 (x3 + 1)) M11))))))
def B_X4_takeWord (n : Nat)  (M : Mem) (Q : Int → Mem → Prop) (K2 : Int → Mem → Prop) (K48 : Int → Int → Int → Mem → Prop) : Prop :=
  K2 0 M
set_option maxHeartbeats 4000000 in
set_option maxRecDepth 20000 in
theorem g_X4_takeWord {n : Nat}  {M : Mem} {Q : Int → Mem → Prop}  (h : ∀ (K2 : Int → Mem → Prop) (K48 : Int → Int → Int → Mem → Prop), (∀ (x1 : Int) (M : Mem), B_X4_takeWord_2 n  x1 M Q K2 K48 → K2 x1 M) → (∀ (x1 : Int) (x2 : Int) (x3 : Int) (M : Mem), B_X4_takeWord_48 n  x1 x2 x3 M Q K2 K48 → K48 x1 x2 x3 M) → B_X4_takeWord n  M Q K2 K48) : Con (n + 1) md_X4_takeWord [vR 33] M Q := by
  refine Con.ofF (n := n + 1) (Nat.succ_pos n) pl_X4_takeWord (Nat.le_of_ble_eq_true rfl) (fun X C E hnL => ?_)
  have C : Cx X cX4_takeWord RX4 n := C
  show WM X 0 [(0, vR 33)] [] M
  have hb2 : ∀ (x1 : Int) (M : Mem), B_X4_takeWord_2 n  x1 M Q (fun (x1 : Int) (M : Mem) => WM X 2 [(0, vR 33), (1, vI x1)] [] M) (fun (x1 : Int) (x2 : Int) (x3 : Int) (M : Mem) => WM X 48 [(0, vR 33), (1, vI x1), (2, vI x2), (3, vI x3)] [] M) → WM X 2 [(0, vR 33), (1, vI x1)] [] M := by
    intro x1 M h
    unfold B_X4_takeWord_2 at h
    refine m_iload_n C 1 dX4_takeWord_2 rfl rfl ?_
    refine m_sipush C dX4_takeWord_3 (r32_of rfl) (by decide) ?_
    refine m_icmp_ge C (tgt := 42) dX4_takeWord_6 (by decide) (fun e => ?_) (fun e => ?_)
    · have h := h.1 e
      refine m_iconst C dX4_takeWord_42 (r32_of rfl) ?_
      refine m_istore_n C (L' := [(1, vI 0), (0, vR 33)]) dX4_takeWord_43 rfl (by rw [hnL]; decide) rfl ?_
      refine m_iconst C dX4_takeWord_44 (r32_of rfl) ?_
      refine m_istore_n C (L' := [(2, vI 0), (1, vI 0), (0, vR 33)]) dX4_takeWord_45 rfl (by rw [hnL]; decide) rfl ?_
      refine m_iconst C dX4_takeWord_46 (r32_of rfl) ?_
      refine m_istore_n C (L' := [(3, vI 0), (2, vI 0), (1, vI 0), (0, vR 33)]) dX4_takeWord_47 rfl (by rw [hnL]; decide) rfl ?_
      exact m_sub [3, 2, 1, 0] rfl h
    · have h := h.2 e
      refine m_aload_n C 0 dX4_takeWord_9 rfl rfl ?_
      refine m_getR C (k := 0) cl_X4 (by decide) so_33 rfl fl_X4_39 dX4_takeWord_10 ?_
      refine m_aload_n C 0 dX4_takeWord_13 rfl rfl ?_
      refine m_getI C (k := 4) cl_X4 (by decide) so_33 rfl fl_X4_24 dX4_takeWord_14 ?_
      refine m_callVi C (as := [vI (M 33 4)]) (rest := []) ok_X6_byteAt ml_X4_74 so_15 rfl rfl rfl (Nat.le_of_ble_eq_true rfl) (fun _ => rfl) dX4_takeWord_17 (Con.mono h (fun r1 M2 _ _ h => ?_))
      refine m_callSi C (as := [vI r1]) (rest := []) ok_X4_isLetter ml_X4_84 rfl rfl (Nat.le_of_ble_eq_true rfl) (fun _ => rfl) dX4_takeWord_20 (Con.mono h (fun r3 M4 _ _ h => ?_))
      refine m_if_eq C (tgt := 42) dX4_takeWord_23 (by decide) (fun e => ?_) (fun e => ?_)
      · have h := h.1 e
        refine m_iconst C dX4_takeWord_42 (r32_of rfl) ?_
        refine m_istore_n C (L' := [(1, vI 0), (0, vR 33)]) dX4_takeWord_43 rfl (by rw [hnL]; decide) rfl ?_
        refine m_iconst C dX4_takeWord_44 (r32_of rfl) ?_
        refine m_istore_n C (L' := [(2, vI 0), (1, vI 0), (0, vR 33)]) dX4_takeWord_45 rfl (by rw [hnL]; decide) rfl ?_
        refine m_iconst C dX4_takeWord_46 (r32_of rfl) ?_
        refine m_istore_n C (L' := [(3, vI 0), (2, vI 0), (1, vI 0), (0, vR 33)]) dX4_takeWord_47 rfl (by rw [hnL]; decide) rfl ?_
        exact m_sub [3, 2, 1, 0] rfl h
      · have h := h.2 e
        refine m_aload_n C 0 dX4_takeWord_26 rfl rfl ?_
        refine m_dupR C dX4_takeWord_27 ?_
        refine m_getI C (k := 4) cl_X4 (by decide) so_33 rfl fl_X4_24 dX4_takeWord_28 ?_
        refine m_iconst C dX4_takeWord_31 (r32_of rfl) ?_
        refine m_iadd C dX4_takeWord_32 ?_
        refine m_putI C (k := 4) cl_X4 (by decide) so_33 rfl rfl rfl fl_X4_24 dX4_takeWord_33 ?_
        generalize eM5 : up M4 33 4 (w32 ((M4 33 4) + 1)) = M5
        have h := h M5 eM5.symm
        refine m_iinc C (L' := [(1, vI (w32 (x1 + 1))), (0, vR 33)]) 1 dX4_takeWord_36 rfl (by rw [hnL]; decide) rfl ?_
        refine m_goto C (tgt := 2) dX4_takeWord_39 (by decide) ?_
        exact m_sub [1, 0] rfl h
  have hb48 : ∀ (x1 : Int) (x2 : Int) (x3 : Int) (M : Mem), B_X4_takeWord_48 n  x1 x2 x3 M Q (fun (x1 : Int) (M : Mem) => WM X 2 [(0, vR 33), (1, vI x1)] [] M) (fun (x1 : Int) (x2 : Int) (x3 : Int) (M : Mem) => WM X 48 [(0, vR 33), (1, vI x1), (2, vI x2), (3, vI x3)] [] M) → WM X 48 [(0, vR 33), (1, vI x1), (2, vI x2), (3, vI x3)] [] M := by
    intro x1 x2 x3 M h
    unfold B_X4_takeWord_48 at h
    refine m_iload_n C 3 dX4_takeWord_48 rfl rfl ?_
    refine m_ldcS C dX4_takeWord_49 ?_
    refine m_callTi C (as := []) (rest := [vI x3]) ok_J0_length_8abf5 ml_X4_101 rfl rfl rfl (Nat.le_of_ble_eq_true rfl) (fun _ => rfl) dX4_takeWord_51 (Con.mono h (fun r6 M7 _ _ h => ?_))
    refine m_icmp_ge C (tgt := 96) dX4_takeWord_54 (by decide) (fun e => ?_) (fun e => ?_)
    · have h := h.1 e
      refine m_aload_n C 0 dX4_takeWord_96 rfl rfl ?_
      refine m_callVv C (as := []) (rest := []) ok_X4_fail ml_X4_53 so_33 rfl rfl rfl (Nat.le_of_ble_eq_true rfl) (fun _ => rfl) dX4_takeWord_97 (Con.mono h (fun _ M9 _ _ h => ?_))
      exact m_vret C E dX4_takeWord_100 h
    · have h := h.2 e
      refine m_ldcS C dX4_takeWord_57 ?_
      refine m_iload_n C 3 dX4_takeWord_59 rfl rfl ?_
      refine m_callTi C (as := [vI x3]) (rest := []) ok_J0_charAt_5068e ml_X4_107 rfl rfl rfl (Nat.le_of_ble_eq_true rfl) (fun _ => rfl) dX4_takeWord_60 (Con.mono h (fun r10 M11 _ _ h => ?_))
      refine m_bipush C dX4_takeWord_63 (r32_of rfl) (by decide) ?_
      refine m_icmp_ne C (tgt := 90) dX4_takeWord_65 (by decide) (fun e => ?_) (fun e => ?_)
      · have h := h.2 e
        refine m_iinc C (L' := [(3, vI (w32 (x3 + 1))), (0, vR 33), (1, vI x1), (2, vI x2)]) 3 dX4_takeWord_90 rfl (by rw [hnL]; decide) rfl ?_
        refine m_goto C (tgt := 48) dX4_takeWord_93 (by decide) ?_
        exact m_sub [1, 2, 3, 0] rfl h
      · have h := h.1 e
        refine m_aload_n C 0 dX4_takeWord_68 rfl rfl ?_
        refine m_iload_n C 2 dX4_takeWord_69 rfl rfl ?_
        refine m_iload_n C 3 dX4_takeWord_70 rfl rfl ?_
        refine m_callVi C (as := [vI x2, vI x3]) (rest := []) ok_X4_standsAtStart ml_X4_111 so_33 rfl rfl rfl (Nat.le_of_ble_eq_true rfl) (fun _ => rfl) dX4_takeWord_71 (Con.mono h (fun r12 M13 _ _ h => ?_))
        refine m_if_eq C (tgt := 83) dX4_takeWord_74 (by decide) (fun e => ?_) (fun e => ?_)
        · have h := h.1 e
          refine m_iinc C (L' := [(1, vI (w32 (x1 + 1))), (0, vR 33), (2, vI x2), (3, vI x3)]) 1 dX4_takeWord_83 rfl (by rw [hnL]; decide) rfl ?_
          refine m_iload_n C 3 dX4_takeWord_86 rfl rfl ?_
          refine m_iconst C dX4_takeWord_87 (r32_of rfl) ?_
          refine m_iadd C dX4_takeWord_88 ?_
          refine m_istore_n C (L' := [(2, vI (w32 (x3 + 1))), (1, vI (w32 (x1 + 1))), (0, vR 33), (3, vI x3)]) dX4_takeWord_89 rfl (by rw [hnL]; decide) rfl ?_
          refine m_iinc C (L' := [(3, vI (w32 (x3 + 1))), (2, vI (w32 (x3 + 1))), (1, vI (w32 (x1 + 1))), (0, vR 33)]) 3 dX4_takeWord_90 rfl (by rw [hnL]; decide) rfl ?_
          refine m_goto C (tgt := 48) dX4_takeWord_93 (by decide) ?_
          exact m_sub [3, 2, 1, 0] rfl h
        · have h := h.2 e
          refine m_aload_n C 0 dX4_takeWord_77 rfl rfl ?_
          refine m_iload_n C 1 dX4_takeWord_78 rfl rfl ?_
          refine m_putI C (k := 6) cl_X4 (by decide) so_33 rfl rfl rfl fl_X4_30 dX4_takeWord_79 ?_
          generalize eM14 : up M13 33 6 x1 = M14
          have h := h M14 eM14.symm
          exact m_vret C E dX4_takeWord_82 h
  have h := h (fun (x1 : Int) (M : Mem) => WM X 2 [(0, vR 33), (1, vI x1)] [] M) (fun (x1 : Int) (x2 : Int) (x3 : Int) (M : Mem) => WM X 48 [(0, vR 33), (1, vI x1), (2, vI x2), (3, vI x3)] [] M) hb2 hb48
  unfold B_X4_takeWord at h
  refine m_iconst C dX4_takeWord_0 (r32_of rfl) ?_
  refine m_istore_n C (L' := [(1, vI 0), (0, vR 33)]) dX4_takeWord_1 rfl (by rw [hnL]; decide) rfl ?_
  exact m_sub [1, 0] rfl h
def B_X4_takeNumber_7 (n : Nat)  (x1 : Int) (M : Mem) (Q : Int → Mem → Prop) (K7 : Int → Mem → Prop) : Prop :=
  ((160 ≤ x1 →
  (∀ M1 : Mem, M1 = up M 33 6 12 →
    (((w32 ((M1 33 4) - (M1 33 7))) ≤ 4 →
    Q 0 M1) ∧ (¬ (w32 ((M1 33 4) - (M1 33 7))) ≤ 4 →
    Con n md_X4_fail [vR 33] M1 (fun _ M3 =>
      Q 0 M3))))) ∧ (¬ 160 ≤ x1 →
  Con n md_X6_byteAt [vR 15, vI (M 33 4)] M (fun r4 M5 =>
    Con n md_X4_isDigit [vI r4] M5 (fun r6 M7 =>
    ((r6 = 0 →
    (∀ M8 : Mem, M8 = up M7 33 6 12 →
      (((w32 ((M8 33 4) - (M8 33 7))) ≤ 4 →
      Q 0 M8) ∧ (¬ (w32 ((M8 33 4) - (M8 33 7))) ≤ 4 →
      Con n md_X4_fail [vR 33] M8 (fun _ M10 =>
        Q 0 M10))))) ∧ (¬ r6 = 0 →
    Con n md_X6_byteAt [vR 15, vI (M7 33 4)] M7 (fun r11 M12 =>
      (∀ M13 : Mem, M13 = up M12 33 8 (w32 ((w32 ((w32 ((M7 33 8) * 10)) + r11)) - 48)) →
      (∀ M14 : Mem, M14 = up M13 33 4 (w32 ((M13 33 4) + 1)) →
      K7 (w32 (x1 + 1)) M14)))))))))
def B_X4_takeNumber (n : Nat)  (M : Mem) (Q : Int → Mem → Prop) (K7 : Int → Mem → Prop) : Prop :=
  (∀ M15 : Mem, M15 = up M 33 8 0 →
  K7 0 M15)
set_option maxHeartbeats 4000000 in
set_option maxRecDepth 20000 in
theorem g_X4_takeNumber {n : Nat}  {M : Mem} {Q : Int → Mem → Prop}  (h : ∀ (K7 : Int → Mem → Prop), (∀ (x1 : Int) (M : Mem), B_X4_takeNumber_7 n  x1 M Q K7 → K7 x1 M) → B_X4_takeNumber n  M Q K7) : Con (n + 1) md_X4_takeNumber [vR 33] M Q := by
  refine Con.ofF (n := n + 1) (Nat.succ_pos n) pl_X4_takeNumber (Nat.le_of_ble_eq_true rfl) (fun X C E hnL => ?_)
  have C : Cx X cX4_takeNumber RX4 n := C
  show WM X 0 [(0, vR 33)] [] M
  have hb7 : ∀ (x1 : Int) (M : Mem), B_X4_takeNumber_7 n  x1 M Q (fun (x1 : Int) (M : Mem) => WM X 7 [(0, vR 33), (1, vI x1)] [] M) → WM X 7 [(0, vR 33), (1, vI x1)] [] M := by
    intro x1 M h
    unfold B_X4_takeNumber_7 at h
    refine m_iload_n C 1 dX4_takeNumber_7 rfl rfl ?_
    refine m_sipush C dX4_takeNumber_8 (r32_of rfl) (by decide) ?_
    refine m_icmp_ge C (tgt := 73) dX4_takeNumber_11 (by decide) (fun e => ?_) (fun e => ?_)
    · have h := h.1 e
      refine m_aload_n C 0 dX4_takeNumber_73 rfl rfl ?_
      refine m_bipush C dX4_takeNumber_74 (r32_of rfl) (by decide) ?_
      refine m_putI C (k := 6) cl_X4 (by decide) so_33 rfl rfl rfl fl_X4_30 dX4_takeNumber_76 ?_
      generalize eM1 : up M 33 6 12 = M1
      have h := h M1 eM1.symm
      refine m_aload_n C 0 dX4_takeNumber_79 rfl rfl ?_
      refine m_getI C (k := 4) cl_X4 (by decide) so_33 rfl fl_X4_24 dX4_takeNumber_80 ?_
      refine m_aload_n C 0 dX4_takeNumber_83 rfl rfl ?_
      refine m_getI C (k := 7) cl_X4 (by decide) so_33 rfl fl_X4_33 dX4_takeNumber_84 ?_
      refine m_isub C dX4_takeNumber_87 ?_
      refine m_iconst C dX4_takeNumber_88 (r32_of rfl) ?_
      refine m_icmp_le C (tgt := 96) dX4_takeNumber_89 (by decide) (fun e => ?_) (fun e => ?_)
      · have h := h.1 e
        exact m_vret C E dX4_takeNumber_96 h
      · have h := h.2 e
        refine m_aload_n C 0 dX4_takeNumber_92 rfl rfl ?_
        refine m_callVv C (as := []) (rest := []) ok_X4_fail ml_X4_53 so_33 rfl rfl rfl (Nat.le_of_ble_eq_true rfl) (fun _ => rfl) dX4_takeNumber_93 (Con.mono h (fun _ M3 _ _ h => ?_))
        exact m_vret C E dX4_takeNumber_96 h
    · have h := h.2 e
      refine m_aload_n C 0 dX4_takeNumber_14 rfl rfl ?_
      refine m_getR C (k := 0) cl_X4 (by decide) so_33 rfl fl_X4_39 dX4_takeNumber_15 ?_
      refine m_aload_n C 0 dX4_takeNumber_18 rfl rfl ?_
      refine m_getI C (k := 4) cl_X4 (by decide) so_33 rfl fl_X4_24 dX4_takeNumber_19 ?_
      refine m_callVi C (as := [vI (M 33 4)]) (rest := []) ok_X6_byteAt ml_X4_74 so_15 rfl rfl rfl (Nat.le_of_ble_eq_true rfl) (fun _ => rfl) dX4_takeNumber_22 (Con.mono h (fun r4 M5 _ _ h => ?_))
      refine m_callSi C (as := [vI r4]) (rest := []) ok_X4_isDigit ml_X4_90 rfl rfl (Nat.le_of_ble_eq_true rfl) (fun _ => rfl) dX4_takeNumber_25 (Con.mono h (fun r6 M7 _ _ h => ?_))
      refine m_if_eq C (tgt := 73) dX4_takeNumber_28 (by decide) (fun e => ?_) (fun e => ?_)
      · have h := h.1 e
        refine m_aload_n C 0 dX4_takeNumber_73 rfl rfl ?_
        refine m_bipush C dX4_takeNumber_74 (r32_of rfl) (by decide) ?_
        refine m_putI C (k := 6) cl_X4 (by decide) so_33 rfl rfl rfl fl_X4_30 dX4_takeNumber_76 ?_
        generalize eM8 : up M7 33 6 12 = M8
        have h := h M8 eM8.symm
        refine m_aload_n C 0 dX4_takeNumber_79 rfl rfl ?_
        refine m_getI C (k := 4) cl_X4 (by decide) so_33 rfl fl_X4_24 dX4_takeNumber_80 ?_
        refine m_aload_n C 0 dX4_takeNumber_83 rfl rfl ?_
        refine m_getI C (k := 7) cl_X4 (by decide) so_33 rfl fl_X4_33 dX4_takeNumber_84 ?_
        refine m_isub C dX4_takeNumber_87 ?_
        refine m_iconst C dX4_takeNumber_88 (r32_of rfl) ?_
        refine m_icmp_le C (tgt := 96) dX4_takeNumber_89 (by decide) (fun e => ?_) (fun e => ?_)
        · have h := h.1 e
          exact m_vret C E dX4_takeNumber_96 h
        · have h := h.2 e
          refine m_aload_n C 0 dX4_takeNumber_92 rfl rfl ?_
          refine m_callVv C (as := []) (rest := []) ok_X4_fail ml_X4_53 so_33 rfl rfl rfl (Nat.le_of_ble_eq_true rfl) (fun _ => rfl) dX4_takeNumber_93 (Con.mono h (fun _ M10 _ _ h => ?_))
          exact m_vret C E dX4_takeNumber_96 h
      · have h := h.2 e
        refine m_aload_n C 0 dX4_takeNumber_31 rfl rfl ?_
        refine m_aload_n C 0 dX4_takeNumber_32 rfl rfl ?_
        refine m_getI C (k := 8) cl_X4 (by decide) so_33 rfl fl_X4_36 dX4_takeNumber_33 ?_
        refine m_bipush C dX4_takeNumber_36 (r32_of rfl) (by decide) ?_
        refine m_imul C dX4_takeNumber_38 ?_
        refine m_aload_n C 0 dX4_takeNumber_39 rfl rfl ?_
        refine m_getR C (k := 0) cl_X4 (by decide) so_33 rfl fl_X4_39 dX4_takeNumber_40 ?_
        refine m_aload_n C 0 dX4_takeNumber_43 rfl rfl ?_
        refine m_getI C (k := 4) cl_X4 (by decide) so_33 rfl fl_X4_24 dX4_takeNumber_44 ?_
        refine m_callVi C (as := [vI (M7 33 4)]) (rest := [vI (w32 ((M7 33 8) * 10)), vR 33]) ok_X6_byteAt ml_X4_74 so_15 rfl rfl rfl (Nat.le_of_ble_eq_true rfl) (fun _ => rfl) dX4_takeNumber_47 (Con.mono h (fun r11 M12 _ _ h => ?_))
        refine m_iadd C dX4_takeNumber_50 ?_
        refine m_bipush C dX4_takeNumber_51 (r32_of rfl) (by decide) ?_
        refine m_isub C dX4_takeNumber_53 ?_
        refine m_putI C (k := 8) cl_X4 (by decide) so_33 rfl rfl rfl fl_X4_36 dX4_takeNumber_54 ?_
        generalize eM13 : up M12 33 8 (w32 ((w32 ((w32 ((M7 33 8) * 10)) + r11)) - 48)) = M13
        have h := h M13 eM13.symm
        refine m_aload_n C 0 dX4_takeNumber_57 rfl rfl ?_
        refine m_dupR C dX4_takeNumber_58 ?_
        refine m_getI C (k := 4) cl_X4 (by decide) so_33 rfl fl_X4_24 dX4_takeNumber_59 ?_
        refine m_iconst C dX4_takeNumber_62 (r32_of rfl) ?_
        refine m_iadd C dX4_takeNumber_63 ?_
        refine m_putI C (k := 4) cl_X4 (by decide) so_33 rfl rfl rfl fl_X4_24 dX4_takeNumber_64 ?_
        generalize eM14 : up M13 33 4 (w32 ((M13 33 4) + 1)) = M14
        have h := h M14 eM14.symm
        refine m_iinc C (L' := [(1, vI (w32 (x1 + 1))), (0, vR 33)]) 1 dX4_takeNumber_67 rfl (by rw [hnL]; decide) rfl ?_
        refine m_goto C (tgt := 7) dX4_takeNumber_70 (by decide) ?_
        exact m_sub [1, 0] rfl h
  have h := h (fun (x1 : Int) (M : Mem) => WM X 7 [(0, vR 33), (1, vI x1)] [] M) hb7
  unfold B_X4_takeNumber at h
  refine m_aload_n C 0 dX4_takeNumber_0 rfl rfl ?_
  refine m_iconst C dX4_takeNumber_1 (r32_of rfl) ?_
  refine m_putI C (k := 8) cl_X4 (by decide) so_33 rfl rfl rfl fl_X4_36 dX4_takeNumber_2 ?_
  generalize eM15 : up M 33 8 0 = M15
  have h := h M15 eM15.symm
  refine m_iconst C dX4_takeNumber_5 (r32_of rfl) ?_
  refine m_istore_n C (L' := [(1, vI 0), (0, vR 33)]) dX4_takeNumber_6 rfl (by rw [hnL]; decide) rfl ?_
  exact m_sub [1, 0] rfl h
def B_X4_standsAtStart_19 (n : Nat) (a1 : Int) (a2 : Int) (x3 : Int) (M : Mem) (Q : Int → Mem → Prop) (K19 : Int → Mem → Prop) : Prop :=
  ((x3 < 0 →
  Q 1 M) ∧ (¬ x3 < 0 →
  ((a2 ≤ x3 →
    Q 1 M) ∧ (¬ a2 ≤ x3 →
    Con n md_J0_length_8abf5 [vR 68] M (fun r1 M2 =>
      ((r1 ≤ x3 →
      Q 1 M2) ∧ (¬ r1 ≤ x3 →
      Con n md_J0_charAt_5068e [vR 68, vI x3] M2 (fun r3 M4 =>
        Con n md_X6_byteAt [vR 15, vI (w32 ((w32 ((M4 33 7) + x3)) - a1))] M4 (fun r5 M6 =>
        ((r3 = r5 →
        K19 (w32 (x3 + 1)) M6) ∧ (¬ r3 = r5 →
        Q 0 M6)))))))))))
def B_X4_standsAtStart (n : Nat) (a1 : Int) (a2 : Int) (M : Mem) (Q : Int → Mem → Prop) (K19 : Int → Mem → Prop) : Prop :=
  (((w32 (a2 - a1)) = (w32 ((M 33 4) - (M 33 7))) →
  K19 a1 M) ∧ (¬ (w32 (a2 - a1)) = (w32 ((M 33 4) - (M 33 7))) →
  Q 0 M))
set_option maxHeartbeats 4000000 in
set_option maxRecDepth 20000 in
theorem g_X4_standsAtStart {n : Nat} {a1 : Int} {a2 : Int} {M : Mem} {Q : Int → Mem → Prop}  (h : ∀ (K19 : Int → Mem → Prop), (∀ (x3 : Int) (M : Mem), B_X4_standsAtStart_19 n a1 a2 x3 M Q K19 → K19 x3 M) → B_X4_standsAtStart n a1 a2 M Q K19) : Con (n + 1) md_X4_standsAtStart [vR 33, vI a1, vI a2] M Q := by
  refine Con.ofF (n := n + 1) (Nat.succ_pos n) pl_X4_standsAtStart (Nat.le_of_ble_eq_true rfl) (fun X C E hnL => ?_)
  have C : Cx X cX4_standsAtStart RX4 n := C
  show WM X 0 [(0, vR 33), (1, vI a1), (2, vI a2)] [] M
  have hb19 : ∀ (x3 : Int) (M : Mem), B_X4_standsAtStart_19 n a1 a2 x3 M Q (fun (x3 : Int) (M : Mem) => WM X 19 [(0, vR 33), (1, vI a1), (2, vI a2), (3, vI x3)] [] M) → WM X 19 [(0, vR 33), (1, vI a1), (2, vI a2), (3, vI x3)] [] M := by
    intro x3 M h
    unfold B_X4_standsAtStart_19 at h
    refine m_iload_n C 3 dX4_standsAtStart_19 rfl rfl ?_
    refine m_if_lt C (tgt := 69) dX4_standsAtStart_20 (by decide) (fun e => ?_) (fun e => ?_)
    · have h := h.1 e
      refine m_iconst C dX4_standsAtStart_69 (r32_of rfl) ?_
      exact m_iret C E (Or.inr ⟨rfl, Or.inr rfl⟩) dX4_standsAtStart_70 h
    · have h := h.2 e
      refine m_iload_n C 3 dX4_standsAtStart_23 rfl rfl ?_
      refine m_iload_n C 2 dX4_standsAtStart_24 rfl rfl ?_
      refine m_icmp_ge C (tgt := 69) dX4_standsAtStart_25 (by decide) (fun e => ?_) (fun e => ?_)
      · have h := h.1 e
        refine m_iconst C dX4_standsAtStart_69 (r32_of rfl) ?_
        exact m_iret C E (Or.inr ⟨rfl, Or.inr rfl⟩) dX4_standsAtStart_70 h
      · have h := h.2 e
        refine m_iload_n C 3 dX4_standsAtStart_28 rfl rfl ?_
        refine m_ldcS C dX4_standsAtStart_29 ?_
        refine m_callTi C (as := []) (rest := [vI x3]) ok_J0_length_8abf5 ml_X4_101 rfl rfl rfl (Nat.le_of_ble_eq_true rfl) (fun _ => rfl) dX4_standsAtStart_31 (Con.mono h (fun r1 M2 _ _ h => ?_))
        refine m_icmp_ge C (tgt := 69) dX4_standsAtStart_34 (by decide) (fun e => ?_) (fun e => ?_)
        · have h := h.1 e
          refine m_iconst C dX4_standsAtStart_69 (r32_of rfl) ?_
          exact m_iret C E (Or.inr ⟨rfl, Or.inr rfl⟩) dX4_standsAtStart_70 h
        · have h := h.2 e
          refine m_ldcS C dX4_standsAtStart_37 ?_
          refine m_iload_n C 3 dX4_standsAtStart_39 rfl rfl ?_
          refine m_callTi C (as := [vI x3]) (rest := []) ok_J0_charAt_5068e ml_X4_107 rfl rfl rfl (Nat.le_of_ble_eq_true rfl) (fun _ => rfl) dX4_standsAtStart_40 (Con.mono h (fun r3 M4 _ _ h => ?_))
          refine m_aload_n C 0 dX4_standsAtStart_43 rfl rfl ?_
          refine m_getR C (k := 0) cl_X4 (by decide) so_33 rfl fl_X4_39 dX4_standsAtStart_44 ?_
          refine m_aload_n C 0 dX4_standsAtStart_47 rfl rfl ?_
          refine m_getI C (k := 7) cl_X4 (by decide) so_33 rfl fl_X4_33 dX4_standsAtStart_48 ?_
          refine m_iload_n C 3 dX4_standsAtStart_51 rfl rfl ?_
          refine m_iadd C dX4_standsAtStart_52 ?_
          refine m_iload_n C 1 dX4_standsAtStart_53 rfl rfl ?_
          refine m_isub C dX4_standsAtStart_54 ?_
          refine m_callVi C (as := [vI (w32 ((w32 ((M4 33 7) + x3)) - a1))]) (rest := [vI r3]) ok_X6_byteAt ml_X4_74 so_15 rfl rfl rfl (Nat.le_of_ble_eq_true rfl) (fun _ => rfl) dX4_standsAtStart_55 (Con.mono h (fun r5 M6 _ _ h => ?_))
          refine m_icmp_eq C (tgt := 63) dX4_standsAtStart_58 (by decide) (fun e => ?_) (fun e => ?_)
          · have h := h.1 e
            refine m_iinc C (L' := [(3, vI (w32 (x3 + 1))), (0, vR 33), (1, vI a1), (2, vI a2)]) 3 dX4_standsAtStart_63 rfl (by rw [hnL]; decide) rfl ?_
            refine m_goto C (tgt := 19) dX4_standsAtStart_66 (by decide) ?_
            exact m_sub [1, 2, 3, 0] rfl h
          · have h := h.2 e
            refine m_iconst C dX4_standsAtStart_61 (r32_of rfl) ?_
            exact m_iret C E (Or.inr ⟨rfl, Or.inl rfl⟩) dX4_standsAtStart_62 h
  have h := h (fun (x3 : Int) (M : Mem) => WM X 19 [(0, vR 33), (1, vI a1), (2, vI a2), (3, vI x3)] [] M) hb19
  unfold B_X4_standsAtStart at h
  refine m_iload_n C 2 dX4_standsAtStart_0 rfl rfl ?_
  refine m_iload_n C 1 dX4_standsAtStart_1 rfl rfl ?_
  refine m_isub C dX4_standsAtStart_2 ?_
  refine m_aload_n C 0 dX4_standsAtStart_3 rfl rfl ?_
  refine m_getI C (k := 4) cl_X4 (by decide) so_33 rfl fl_X4_24 dX4_standsAtStart_4 ?_
  refine m_aload_n C 0 dX4_standsAtStart_7 rfl rfl ?_
  refine m_getI C (k := 7) cl_X4 (by decide) so_33 rfl fl_X4_33 dX4_standsAtStart_8 ?_
  refine m_isub C dX4_standsAtStart_11 ?_
  refine m_icmp_eq C (tgt := 17) dX4_standsAtStart_12 (by decide) (fun e => ?_) (fun e => ?_)
  · have h := h.1 e
    refine m_iload_n C 1 dX4_standsAtStart_17 rfl rfl ?_
    refine m_istore_n C (L' := [(3, vI a1), (0, vR 33), (1, vI a1), (2, vI a2)]) dX4_standsAtStart_18 rfl (by rw [hnL]; decide) rfl ?_
    exact m_sub [1, 2, 3, 0] rfl h
  · have h := h.2 e
    refine m_iconst C dX4_standsAtStart_15 (r32_of rfl) ?_
    exact m_iret C E (Or.inr ⟨rfl, Or.inl rfl⟩) dX4_standsAtStart_16 h
def B_X4_isBlank (n : Nat) (a1 : Int) (M : Mem) (Q : Int → Mem → Prop)  : Prop :=
  ((a1 = 32 →
  Q 1 M) ∧ (¬ a1 = 32 →
  ((a1 = 10 →
    Q 1 M) ∧ (¬ a1 = 10 →
    Q 0 M))))
set_option maxHeartbeats 4000000 in
set_option maxRecDepth 20000 in
theorem g_X4_isBlank {n : Nat} {a1 : Int} {M : Mem} {Q : Int → Mem → Prop}  (h : B_X4_isBlank n a1 M Q) : Con (n + 1) md_X4_isBlank [vI a1] M Q := by
  refine Con.ofF (n := n + 1) (Nat.succ_pos n) pl_X4_isBlank (Nat.le_of_ble_eq_true rfl) (fun X C E hnL => ?_)
  have C : Cx X cX4_isBlank RX4 n := C
  show WM X 0 [(0, vI a1)] [] M
  unfold B_X4_isBlank at h
  refine m_iload_n C 0 dX4_isBlank_0 rfl rfl ?_
  refine m_bipush C dX4_isBlank_1 (r32_of rfl) (by decide) ?_
  refine m_icmp_eq C (tgt := 12) dX4_isBlank_3 (by decide) (fun e => ?_) (fun e => ?_)
  · have h := h.1 e
    refine m_iconst C dX4_isBlank_12 (r32_of rfl) ?_
    refine m_goto C (tgt := 17) dX4_isBlank_13 (by decide) ?_
    exact m_iret C E (Or.inr ⟨rfl, Or.inr rfl⟩) dX4_isBlank_17 h
  · have h := h.2 e
    refine m_iload_n C 0 dX4_isBlank_6 rfl rfl ?_
    refine m_bipush C dX4_isBlank_7 (r32_of rfl) (by decide) ?_
    refine m_icmp_ne C (tgt := 16) dX4_isBlank_9 (by decide) (fun e => ?_) (fun e => ?_)
    · have h := h.2 e
      refine m_iconst C dX4_isBlank_16 (r32_of rfl) ?_
      exact m_iret C E (Or.inr ⟨rfl, Or.inl rfl⟩) dX4_isBlank_17 h
    · have h := h.1 e
      refine m_iconst C dX4_isBlank_12 (r32_of rfl) ?_
      refine m_goto C (tgt := 17) dX4_isBlank_13 (by decide) ?_
      exact m_iret C E (Or.inr ⟨rfl, Or.inr rfl⟩) dX4_isBlank_17 h
def B_X4_isLetter (n : Nat) (a1 : Int) (M : Mem) (Q : Int → Mem → Prop)  : Prop :=
  ((a1 < 97 →
  Q 0 M) ∧ (¬ a1 < 97 →
  ((122 < a1 →
    Q 0 M) ∧ (¬ 122 < a1 →
    Q 1 M))))
set_option maxHeartbeats 4000000 in
set_option maxRecDepth 20000 in
theorem g_X4_isLetter {n : Nat} {a1 : Int} {M : Mem} {Q : Int → Mem → Prop}  (h : B_X4_isLetter n a1 M Q) : Con (n + 1) md_X4_isLetter [vI a1] M Q := by
  refine Con.ofF (n := n + 1) (Nat.succ_pos n) pl_X4_isLetter (Nat.le_of_ble_eq_true rfl) (fun X C E hnL => ?_)
  have C : Cx X cX4_isLetter RX4 n := C
  show WM X 0 [(0, vI a1)] [] M
  unfold B_X4_isLetter at h
  refine m_iload_n C 0 dX4_isLetter_0 rfl rfl ?_
  refine m_bipush C dX4_isLetter_1 (r32_of rfl) (by decide) ?_
  refine m_icmp_lt C (tgt := 16) dX4_isLetter_3 (by decide) (fun e => ?_) (fun e => ?_)
  · have h := h.1 e
    refine m_iconst C dX4_isLetter_16 (r32_of rfl) ?_
    exact m_iret C E (Or.inr ⟨rfl, Or.inl rfl⟩) dX4_isLetter_17 h
  · have h := h.2 e
    refine m_iload_n C 0 dX4_isLetter_6 rfl rfl ?_
    refine m_bipush C dX4_isLetter_7 (r32_of rfl) (by decide) ?_
    refine m_icmp_gt C (tgt := 16) dX4_isLetter_9 (by decide) (fun e => ?_) (fun e => ?_)
    · have h := h.1 e
      refine m_iconst C dX4_isLetter_16 (r32_of rfl) ?_
      exact m_iret C E (Or.inr ⟨rfl, Or.inl rfl⟩) dX4_isLetter_17 h
    · have h := h.2 e
      refine m_iconst C dX4_isLetter_12 (r32_of rfl) ?_
      refine m_goto C (tgt := 17) dX4_isLetter_13 (by decide) ?_
      exact m_iret C E (Or.inr ⟨rfl, Or.inr rfl⟩) dX4_isLetter_17 h
def B_X4_isDigit (n : Nat) (a1 : Int) (M : Mem) (Q : Int → Mem → Prop)  : Prop :=
  ((a1 < 48 →
  Q 0 M) ∧ (¬ a1 < 48 →
  ((57 < a1 →
    Q 0 M) ∧ (¬ 57 < a1 →
    Q 1 M))))
set_option maxHeartbeats 4000000 in
set_option maxRecDepth 20000 in
theorem g_X4_isDigit {n : Nat} {a1 : Int} {M : Mem} {Q : Int → Mem → Prop}  (h : B_X4_isDigit n a1 M Q) : Con (n + 1) md_X4_isDigit [vI a1] M Q := by
  refine Con.ofF (n := n + 1) (Nat.succ_pos n) pl_X4_isDigit (Nat.le_of_ble_eq_true rfl) (fun X C E hnL => ?_)
  have C : Cx X cX4_isDigit RX4 n := C
  show WM X 0 [(0, vI a1)] [] M
  unfold B_X4_isDigit at h
  refine m_iload_n C 0 dX4_isDigit_0 rfl rfl ?_
  refine m_bipush C dX4_isDigit_1 (r32_of rfl) (by decide) ?_
  refine m_icmp_lt C (tgt := 16) dX4_isDigit_3 (by decide) (fun e => ?_) (fun e => ?_)
  · have h := h.1 e
    refine m_iconst C dX4_isDigit_16 (r32_of rfl) ?_
    exact m_iret C E (Or.inr ⟨rfl, Or.inl rfl⟩) dX4_isDigit_17 h
  · have h := h.2 e
    refine m_iload_n C 0 dX4_isDigit_6 rfl rfl ?_
    refine m_bipush C dX4_isDigit_7 (r32_of rfl) (by decide) ?_
    refine m_icmp_gt C (tgt := 16) dX4_isDigit_9 (by decide) (fun e => ?_) (fun e => ?_)
    · have h := h.1 e
      refine m_iconst C dX4_isDigit_16 (r32_of rfl) ?_
      exact m_iret C E (Or.inr ⟨rfl, Or.inl rfl⟩) dX4_isDigit_17 h
    · have h := h.2 e
      refine m_iconst C dX4_isDigit_12 (r32_of rfl) ?_
      refine m_goto C (tgt := 17) dX4_isDigit_13 (by decide) ?_
      exact m_iret C E (Or.inr ⟨rfl, Or.inr rfl⟩) dX4_isDigit_17 h
def B_X4_isSign (n : Nat) (a1 : Int) (M : Mem) (Q : Int → Mem → Prop)  : Prop :=
  (((a1 < 40 ∨ 61 < a1 ∨ a1 = 44 ∨ a1 = 46 ∨ a1 = 47 ∨ a1 = 48 ∨ a1 = 49 ∨ a1 = 50 ∨ a1 = 51 ∨ a1 = 52 ∨ a1 = 53 ∨ a1 = 54 ∨ a1 = 55 ∨ a1 = 56 ∨ a1 = 57 ∨ a1 = 58) →
  Q 0 M) ∧ ((a1 = 40 ∨ a1 = 41 ∨ a1 = 42 ∨ a1 = 43 ∨ a1 = 45 ∨ a1 = 59 ∨ a1 = 60 ∨ a1 = 61) →
  Q 1 M))
set_option maxHeartbeats 4000000 in
set_option maxRecDepth 20000 in
theorem g_X4_isSign {n : Nat} {a1 : Int} {M : Mem} {Q : Int → Mem → Prop}  (h : B_X4_isSign n a1 M Q) : Con (n + 1) md_X4_isSign [vI a1] M Q := by
  refine Con.ofF (n := n + 1) (Nat.succ_pos n) pl_X4_isSign (Nat.le_of_ble_eq_true rfl) (fun X C E hnL => ?_)
  have C : Cx X cX4_isSign RX4 n := C
  show WM X 0 [(0, vI a1)] [] M
  unfold B_X4_isSign at h
  refine m_iload_n C 0 dX4_isSign_0 rfl rfl ?_
  by_cases ho : a1 < 40 ∨ 61 < a1
  · have h := h.1 (by omega)
    refine m_tabO C (tgt := 106) dX4_isSign_1 ho (by decide) ?_
    refine m_iconst C dX4_isSign_106 (r32_of rfl) ?_
    exact m_iret C E (Or.inr ⟨rfl, Or.inl rfl⟩) dX4_isSign_107 h
  · obtain hx | hx | hx | hx | hx | hx | hx | hx | hx | hx | hx | hx | hx | hx | hx | hx | hx | hx | hx | hx | hx | hx : a1 = 40 ∨ a1 = 41 ∨ a1 = 42 ∨ a1 = 43 ∨ a1 = 44 ∨ a1 = 45 ∨ a1 = 46 ∨ a1 = 47 ∨ a1 = 48 ∨ a1 = 49 ∨ a1 = 50 ∨ a1 = 51 ∨ a1 = 52 ∨ a1 = 53 ∨ a1 = 54 ∨ a1 = 55 ∨ a1 = 56 ∨ a1 = 57 ∨ a1 = 58 ∨ a1 = 59 ∨ a1 = 60 ∨ a1 = 61 := by omega
    · have h := h.2 (by omega)
      refine m_tabI C (tgt := 104) dX4_isSign_1 (by omega) (by omega) (by rw [hx]; rfl) (by decide) ?_
      refine m_iconst C dX4_isSign_104 (r32_of rfl) ?_
      exact m_iret C E (Or.inr ⟨rfl, Or.inr rfl⟩) dX4_isSign_105 h
    · have h := h.2 (by omega)
      refine m_tabI C (tgt := 104) dX4_isSign_1 (by omega) (by omega) (by rw [hx]; rfl) (by decide) ?_
      refine m_iconst C dX4_isSign_104 (r32_of rfl) ?_
      exact m_iret C E (Or.inr ⟨rfl, Or.inr rfl⟩) dX4_isSign_105 h
    · have h := h.2 (by omega)
      refine m_tabI C (tgt := 104) dX4_isSign_1 (by omega) (by omega) (by rw [hx]; rfl) (by decide) ?_
      refine m_iconst C dX4_isSign_104 (r32_of rfl) ?_
      exact m_iret C E (Or.inr ⟨rfl, Or.inr rfl⟩) dX4_isSign_105 h
    · have h := h.2 (by omega)
      refine m_tabI C (tgt := 104) dX4_isSign_1 (by omega) (by omega) (by rw [hx]; rfl) (by decide) ?_
      refine m_iconst C dX4_isSign_104 (r32_of rfl) ?_
      exact m_iret C E (Or.inr ⟨rfl, Or.inr rfl⟩) dX4_isSign_105 h
    · have h := h.1 (by omega)
      refine m_tabI C (tgt := 106) dX4_isSign_1 (by omega) (by omega) (by rw [hx]; rfl) (by decide) ?_
      refine m_iconst C dX4_isSign_106 (r32_of rfl) ?_
      exact m_iret C E (Or.inr ⟨rfl, Or.inl rfl⟩) dX4_isSign_107 h
    · have h := h.2 (by omega)
      refine m_tabI C (tgt := 104) dX4_isSign_1 (by omega) (by omega) (by rw [hx]; rfl) (by decide) ?_
      refine m_iconst C dX4_isSign_104 (r32_of rfl) ?_
      exact m_iret C E (Or.inr ⟨rfl, Or.inr rfl⟩) dX4_isSign_105 h
    · have h := h.1 (by omega)
      refine m_tabI C (tgt := 106) dX4_isSign_1 (by omega) (by omega) (by rw [hx]; rfl) (by decide) ?_
      refine m_iconst C dX4_isSign_106 (r32_of rfl) ?_
      exact m_iret C E (Or.inr ⟨rfl, Or.inl rfl⟩) dX4_isSign_107 h
    · have h := h.1 (by omega)
      refine m_tabI C (tgt := 106) dX4_isSign_1 (by omega) (by omega) (by rw [hx]; rfl) (by decide) ?_
      refine m_iconst C dX4_isSign_106 (r32_of rfl) ?_
      exact m_iret C E (Or.inr ⟨rfl, Or.inl rfl⟩) dX4_isSign_107 h
    · have h := h.1 (by omega)
      refine m_tabI C (tgt := 106) dX4_isSign_1 (by omega) (by omega) (by rw [hx]; rfl) (by decide) ?_
      refine m_iconst C dX4_isSign_106 (r32_of rfl) ?_
      exact m_iret C E (Or.inr ⟨rfl, Or.inl rfl⟩) dX4_isSign_107 h
    · have h := h.1 (by omega)
      refine m_tabI C (tgt := 106) dX4_isSign_1 (by omega) (by omega) (by rw [hx]; rfl) (by decide) ?_
      refine m_iconst C dX4_isSign_106 (r32_of rfl) ?_
      exact m_iret C E (Or.inr ⟨rfl, Or.inl rfl⟩) dX4_isSign_107 h
    · have h := h.1 (by omega)
      refine m_tabI C (tgt := 106) dX4_isSign_1 (by omega) (by omega) (by rw [hx]; rfl) (by decide) ?_
      refine m_iconst C dX4_isSign_106 (r32_of rfl) ?_
      exact m_iret C E (Or.inr ⟨rfl, Or.inl rfl⟩) dX4_isSign_107 h
    · have h := h.1 (by omega)
      refine m_tabI C (tgt := 106) dX4_isSign_1 (by omega) (by omega) (by rw [hx]; rfl) (by decide) ?_
      refine m_iconst C dX4_isSign_106 (r32_of rfl) ?_
      exact m_iret C E (Or.inr ⟨rfl, Or.inl rfl⟩) dX4_isSign_107 h
    · have h := h.1 (by omega)
      refine m_tabI C (tgt := 106) dX4_isSign_1 (by omega) (by omega) (by rw [hx]; rfl) (by decide) ?_
      refine m_iconst C dX4_isSign_106 (r32_of rfl) ?_
      exact m_iret C E (Or.inr ⟨rfl, Or.inl rfl⟩) dX4_isSign_107 h
    · have h := h.1 (by omega)
      refine m_tabI C (tgt := 106) dX4_isSign_1 (by omega) (by omega) (by rw [hx]; rfl) (by decide) ?_
      refine m_iconst C dX4_isSign_106 (r32_of rfl) ?_
      exact m_iret C E (Or.inr ⟨rfl, Or.inl rfl⟩) dX4_isSign_107 h
    · have h := h.1 (by omega)
      refine m_tabI C (tgt := 106) dX4_isSign_1 (by omega) (by omega) (by rw [hx]; rfl) (by decide) ?_
      refine m_iconst C dX4_isSign_106 (r32_of rfl) ?_
      exact m_iret C E (Or.inr ⟨rfl, Or.inl rfl⟩) dX4_isSign_107 h
    · have h := h.1 (by omega)
      refine m_tabI C (tgt := 106) dX4_isSign_1 (by omega) (by omega) (by rw [hx]; rfl) (by decide) ?_
      refine m_iconst C dX4_isSign_106 (r32_of rfl) ?_
      exact m_iret C E (Or.inr ⟨rfl, Or.inl rfl⟩) dX4_isSign_107 h
    · have h := h.1 (by omega)
      refine m_tabI C (tgt := 106) dX4_isSign_1 (by omega) (by omega) (by rw [hx]; rfl) (by decide) ?_
      refine m_iconst C dX4_isSign_106 (r32_of rfl) ?_
      exact m_iret C E (Or.inr ⟨rfl, Or.inl rfl⟩) dX4_isSign_107 h
    · have h := h.1 (by omega)
      refine m_tabI C (tgt := 106) dX4_isSign_1 (by omega) (by omega) (by rw [hx]; rfl) (by decide) ?_
      refine m_iconst C dX4_isSign_106 (r32_of rfl) ?_
      exact m_iret C E (Or.inr ⟨rfl, Or.inl rfl⟩) dX4_isSign_107 h
    · have h := h.1 (by omega)
      refine m_tabI C (tgt := 106) dX4_isSign_1 (by omega) (by omega) (by rw [hx]; rfl) (by decide) ?_
      refine m_iconst C dX4_isSign_106 (r32_of rfl) ?_
      exact m_iret C E (Or.inr ⟨rfl, Or.inl rfl⟩) dX4_isSign_107 h
    · have h := h.2 (by omega)
      refine m_tabI C (tgt := 104) dX4_isSign_1 (by omega) (by omega) (by rw [hx]; rfl) (by decide) ?_
      refine m_iconst C dX4_isSign_104 (r32_of rfl) ?_
      exact m_iret C E (Or.inr ⟨rfl, Or.inr rfl⟩) dX4_isSign_105 h
    · have h := h.2 (by omega)
      refine m_tabI C (tgt := 104) dX4_isSign_1 (by omega) (by omega) (by rw [hx]; rfl) (by decide) ?_
      refine m_iconst C dX4_isSign_104 (r32_of rfl) ?_
      exact m_iret C E (Or.inr ⟨rfl, Or.inr rfl⟩) dX4_isSign_105 h
    · have h := h.2 (by omega)
      refine m_tabI C (tgt := 104) dX4_isSign_1 (by omega) (by omega) (by rw [hx]; rfl) (by decide) ?_
      refine m_iconst C dX4_isSign_104 (r32_of rfl) ?_
      exact m_iret C E (Or.inr ⟨rfl, Or.inr rfl⟩) dX4_isSign_105 h
def B_X2_asNow (n : Nat) (a2 : Int) (M : Mem) (Q : Int → Mem → Prop)  : Prop :=
  Con n md_X2_inEmptyHand [vR 36, vR 1, vI a2] M (fun _ M2 =>
  (∀ M3 : Mem, M3 = up M2 37 (Int.toNat 0) (M2 1 8) →
  Con n md_X0_lastAngle [vR 1] M3 (fun r4 M5 =>
  (∀ M6 : Mem, M6 = up M5 37 (Int.toNat 3) r4 →
  Con n md_X0_roomLeft [vR 1] M6 (fun r7 M8 =>
  (∀ M9 : Mem, M9 = up M8 37 (Int.toNat 5) r7 →
  Q 0 M9))))))
set_option maxHeartbeats 4000000 in
set_option maxRecDepth 20000 in
theorem g_X2_asNow {n : Nat} {a2 : Int} {M : Mem} {Q : Int → Mem → Prop}  (h : B_X2_asNow n a2 M Q) : Con (n + 1) md_X2_asNow [vR 36, vR 1, vI a2] M Q := by
  refine Con.ofF (n := n + 1) (Nat.succ_pos n) pl_X2_asNow (Nat.le_of_ble_eq_true rfl) (fun X C E hnL => ?_)
  have C : Cx X cX2_asNow RX2 n := C
  show WM X 0 [(0, vR 36), (1, vR 1), (2, vI a2)] [] M
  unfold B_X2_asNow at h
  refine m_aload_n C 0 dX2_asNow_0 rfl rfl ?_
  refine m_aload_n C 1 dX2_asNow_1 rfl rfl ?_
  refine m_iload_n C 2 dX2_asNow_2 rfl rfl ?_
  refine m_callVv C (as := [vR 1, vI a2]) (rest := []) ok_X2_inEmptyHand ml_X2_28 so_36 rfl rfl rfl (Nat.le_of_ble_eq_true rfl) (fun _ => rfl) dX2_asNow_3 (Con.mono h (fun _ M2 _ _ h => ?_))
  refine m_aload_n C 0 dX2_asNow_6 rfl rfl ?_
  refine m_getR C (k := 3) cl_X2 (by decide) so_36 rfl fl_X2_20 dX2_asNow_7 ?_
  refine m_iconst C dX2_asNow_10 (r32_of rfl) ?_
  refine m_aload_n C 1 dX2_asNow_11 rfl rfl ?_
  refine m_getI C (k := 8) cl_X0 (by decide) so_1 rfl fl_X2_32 dX2_asNow_12 ?_
  refine m_iast C (N := 6) sa_37 (by decide) dX2_asNow_15 ?_
  generalize eM3 : up M2 37 (Int.toNat 0) (M2 1 8) = M3
  have h := h M3 eM3.symm
  refine m_aload_n C 0 dX2_asNow_16 rfl rfl ?_
  refine m_getR C (k := 3) cl_X2 (by decide) so_36 rfl fl_X2_20 dX2_asNow_17 ?_
  refine m_iconst C dX2_asNow_20 (r32_of rfl) ?_
  refine m_aload_n C 1 dX2_asNow_21 rfl rfl ?_
  refine m_callVi C (as := []) (rest := [vI 3, vR 37]) ok_X0_lastAngle ml_X2_37 so_1 rfl rfl rfl (Nat.le_of_ble_eq_true rfl) (fun _ => rfl) dX2_asNow_22 (Con.mono h (fun r4 M5 _ _ h => ?_))
  refine m_iast C (N := 6) sa_37 (by decide) dX2_asNow_25 ?_
  generalize eM6 : up M5 37 (Int.toNat 3) r4 = M6
  have h := h M6 eM6.symm
  refine m_aload_n C 0 dX2_asNow_26 rfl rfl ?_
  refine m_getR C (k := 3) cl_X2 (by decide) so_36 rfl fl_X2_20 dX2_asNow_27 ?_
  refine m_iconst C dX2_asNow_30 (r32_of rfl) ?_
  refine m_aload_n C 1 dX2_asNow_31 rfl rfl ?_
  refine m_callVi C (as := []) (rest := [vI 5, vR 37]) ok_X0_roomLeft ml_X2_41 so_1 rfl rfl rfl (Nat.le_of_ble_eq_true rfl) (fun _ => rfl) dX2_asNow_32 (Con.mono h (fun r7 M8 _ _ h => ?_))
  refine m_iast C (N := 6) sa_37 (by decide) dX2_asNow_35 ?_
  generalize eM9 : up M8 37 (Int.toNat 5) r7 = M9
  have h := h M9 eM9.symm
  exact m_vret C E dX2_asNow_36 h
def B_X2_inEmptyHand (n : Nat) (a2 : Int) (M : Mem) (Q : Int → Mem → Prop)  : Prop :=
  Con n md_X0_hasFlower [vR 1, vI a2] M (fun r1 M2 =>
  ((r1 = 0 →
  Q 0 M2) ∧ (¬ r1 = 0 →
  (∀ M3 : Mem, M3 = up M2 36 1 (M2 1 2) →
    ((0 ≤ a2 ∧ a2 < 6) ∧ (∀ M4 : Mem, M4 = up M3 36 2 (M3 2 (Int.toNat a2)) →
    (∀ M5 : Mem, M5 = up M4 37 (Int.toNat 0) 0 →
    ((0 ≤ a2 ∧ a2 < 6) ∧ (∀ M6 : Mem, M6 = up M5 37 (Int.toNat 1) (M5 4 (Int.toNat a2)) →
    ((0 ≤ a2 ∧ a2 < 6) ∧ (∀ M7 : Mem, M7 = up M6 37 (Int.toNat 2) (M6 3 (Int.toNat a2)) →
    (∀ M8 : Mem, M8 = up M7 37 (Int.toNat 3) (M7 1 1) →
    ((0 ≤ a2 ∧ a2 < 6) ∧ (∀ M9 : Mem, M9 = up M8 37 (Int.toNat 4) (M8 5 (Int.toNat a2)) →
    (∀ M10 : Mem, M10 = up M9 37 (Int.toNat 5) (M9 1 0) →
    Q 0 M10)))))))))))))))
set_option maxHeartbeats 4000000 in
set_option maxRecDepth 20000 in
theorem g_X2_inEmptyHand {n : Nat} {a2 : Int} {M : Mem} {Q : Int → Mem → Prop}  (h : B_X2_inEmptyHand n a2 M Q) : Con (n + 1) md_X2_inEmptyHand [vR 36, vR 1, vI a2] M Q := by
  refine Con.ofF (n := n + 1) (Nat.succ_pos n) pl_X2_inEmptyHand (Nat.le_of_ble_eq_true rfl) (fun X C E hnL => ?_)
  have C : Cx X cX2_inEmptyHand RX2 n := C
  show WM X 0 [(0, vR 36), (1, vR 1), (2, vI a2)] [] M
  unfold B_X2_inEmptyHand at h
  refine m_aload_n C 1 dX2_inEmptyHand_0 rfl rfl ?_
  refine m_iload_n C 2 dX2_inEmptyHand_1 rfl rfl ?_
  refine m_callVi C (as := [vI a2]) (rest := []) ok_X0_hasFlower ml_X2_44 so_1 rfl rfl rfl (Nat.le_of_ble_eq_true rfl) (fun _ => rfl) dX2_inEmptyHand_2 (Con.mono h (fun r1 M2 _ _ h => ?_))
  refine m_if_ne C (tgt := 9) dX2_inEmptyHand_5 (by decide) (fun e => ?_) (fun e => ?_)
  · have h := h.2 e
    refine m_aload_n C 0 dX2_inEmptyHand_9 rfl rfl ?_
    refine m_aload_n C 1 dX2_inEmptyHand_10 rfl rfl ?_
    refine m_getI C (k := 2) cl_X0 (by decide) so_1 rfl fl_X2_48 dX2_inEmptyHand_11 ?_
    refine m_putI C (k := 1) cl_X2 (by decide) so_36 rfl rfl rfl fl_X2_9 dX2_inEmptyHand_14 ?_
    generalize eM3 : up M2 36 1 (M2 1 2) = M3
    have h := h M3 eM3.symm
    refine m_aload_n C 0 dX2_inEmptyHand_17 rfl rfl ?_
    refine m_aload_n C 1 dX2_inEmptyHand_18 rfl rfl ?_
    refine m_getR C (k := 4) cl_X0 (by decide) so_1 rfl fl_X2_49 dX2_inEmptyHand_19 ?_
    refine m_iload_n C 2 dX2_inEmptyHand_22 rfl rfl ?_
    refine m_iald C (N := 6) sa_2 h.1 dX2_inEmptyHand_23 ?_
    have h := h.2
    refine m_putI C (k := 2) cl_X2 (by decide) so_36 rfl rfl rfl fl_X2_15 dX2_inEmptyHand_24 ?_
    generalize eM4 : up M3 36 2 (M3 2 (Int.toNat a2)) = M4
    have h := h M4 eM4.symm
    refine m_aload_n C 0 dX2_inEmptyHand_27 rfl rfl ?_
    refine m_getR C (k := 3) cl_X2 (by decide) so_36 rfl fl_X2_20 dX2_inEmptyHand_28 ?_
    refine m_iconst C dX2_inEmptyHand_31 (r32_of rfl) ?_
    refine m_iconst C dX2_inEmptyHand_32 (r32_of rfl) ?_
    refine m_iast C (N := 6) sa_37 (by decide) dX2_inEmptyHand_33 ?_
    generalize eM5 : up M4 37 (Int.toNat 0) 0 = M5
    have h := h M5 eM5.symm
    refine m_aload_n C 0 dX2_inEmptyHand_34 rfl rfl ?_
    refine m_getR C (k := 3) cl_X2 (by decide) so_36 rfl fl_X2_20 dX2_inEmptyHand_35 ?_
    refine m_iconst C dX2_inEmptyHand_38 (r32_of rfl) ?_
    refine m_aload_n C 1 dX2_inEmptyHand_39 rfl rfl ?_
    refine m_getR C (k := 6) cl_X0 (by decide) so_1 rfl fl_X2_52 dX2_inEmptyHand_40 ?_
    refine m_iload_n C 2 dX2_inEmptyHand_43 rfl rfl ?_
    refine m_iald C (N := 6) sa_4 h.1 dX2_inEmptyHand_44 ?_
    have h := h.2
    refine m_iast C (N := 6) sa_37 (by decide) dX2_inEmptyHand_45 ?_
    generalize eM6 : up M5 37 (Int.toNat 1) (M5 4 (Int.toNat a2)) = M6
    have h := h M6 eM6.symm
    refine m_aload_n C 0 dX2_inEmptyHand_46 rfl rfl ?_
    refine m_getR C (k := 3) cl_X2 (by decide) so_36 rfl fl_X2_20 dX2_inEmptyHand_47 ?_
    refine m_iconst C dX2_inEmptyHand_50 (r32_of rfl) ?_
    refine m_aload_n C 1 dX2_inEmptyHand_51 rfl rfl ?_
    refine m_getR C (k := 5) cl_X0 (by decide) so_1 rfl fl_X2_55 dX2_inEmptyHand_52 ?_
    refine m_iload_n C 2 dX2_inEmptyHand_55 rfl rfl ?_
    refine m_iald C (N := 6) sa_3 h.1 dX2_inEmptyHand_56 ?_
    have h := h.2
    refine m_iast C (N := 6) sa_37 (by decide) dX2_inEmptyHand_57 ?_
    generalize eM7 : up M6 37 (Int.toNat 2) (M6 3 (Int.toNat a2)) = M7
    have h := h M7 eM7.symm
    refine m_aload_n C 0 dX2_inEmptyHand_58 rfl rfl ?_
    refine m_getR C (k := 3) cl_X2 (by decide) so_36 rfl fl_X2_20 dX2_inEmptyHand_59 ?_
    refine m_iconst C dX2_inEmptyHand_62 (r32_of rfl) ?_
    refine m_aload_n C 1 dX2_inEmptyHand_63 rfl rfl ?_
    refine m_getI C (k := 1) cl_X0 (by decide) so_1 rfl fl_X2_58 dX2_inEmptyHand_64 ?_
    refine m_iast C (N := 6) sa_37 (by decide) dX2_inEmptyHand_67 ?_
    generalize eM8 : up M7 37 (Int.toNat 3) (M7 1 1) = M8
    have h := h M8 eM8.symm
    refine m_aload_n C 0 dX2_inEmptyHand_68 rfl rfl ?_
    refine m_getR C (k := 3) cl_X2 (by decide) so_36 rfl fl_X2_20 dX2_inEmptyHand_69 ?_
    refine m_iconst C dX2_inEmptyHand_72 (r32_of rfl) ?_
    refine m_aload_n C 1 dX2_inEmptyHand_73 rfl rfl ?_
    refine m_getR C (k := 7) cl_X0 (by decide) so_1 rfl fl_X2_61 dX2_inEmptyHand_74 ?_
    refine m_iload_n C 2 dX2_inEmptyHand_77 rfl rfl ?_
    refine m_iald C (N := 6) sa_5 h.1 dX2_inEmptyHand_78 ?_
    have h := h.2
    refine m_iast C (N := 6) sa_37 (by decide) dX2_inEmptyHand_79 ?_
    generalize eM9 : up M8 37 (Int.toNat 4) (M8 5 (Int.toNat a2)) = M9
    have h := h M9 eM9.symm
    refine m_aload_n C 0 dX2_inEmptyHand_80 rfl rfl ?_
    refine m_getR C (k := 3) cl_X2 (by decide) so_36 rfl fl_X2_20 dX2_inEmptyHand_81 ?_
    refine m_iconst C dX2_inEmptyHand_84 (r32_of rfl) ?_
    refine m_aload_n C 1 dX2_inEmptyHand_85 rfl rfl ?_
    refine m_getI C (k := 0) cl_X0 (by decide) so_1 rfl fl_X2_64 dX2_inEmptyHand_86 ?_
    refine m_iast C (N := 6) sa_37 (by decide) dX2_inEmptyHand_89 ?_
    generalize eM10 : up M9 37 (Int.toNat 5) (M9 1 0) = M10
    have h := h M10 eM10.symm
    exact m_vret C E dX2_inEmptyHand_90 h
  · have h := h.1 e
    exact m_vret C E dX2_inEmptyHand_8 h
def B_X2_asThought (n : Nat) (a1 : Int) (a2 : Int) (a3 : Int) (a4 : Int) (M : Mem) (Q : Int → Mem → Prop)  : Prop :=
  (∀ M1 : Mem, M1 = up M 37 (Int.toNat 0) a1 →
  (∀ M2 : Mem, M2 = up M1 37 (Int.toNat 3) a2 →
  (∀ M3 : Mem, M3 = up M2 37 (Int.toNat 4) a3 →
  (∀ M4 : Mem, M4 = up M3 37 (Int.toNat 5) a4 →
  Q 0 M4))))
set_option maxHeartbeats 4000000 in
set_option maxRecDepth 20000 in
theorem g_X2_asThought {n : Nat} {a1 : Int} {a2 : Int} {a3 : Int} {a4 : Int} {M : Mem} {Q : Int → Mem → Prop}  (h : B_X2_asThought n a1 a2 a3 a4 M Q) : Con (n + 1) md_X2_asThought [vR 36, vI a1, vI a2, vI a3, vI a4] M Q := by
  refine Con.ofF (n := n + 1) (Nat.succ_pos n) pl_X2_asThought (Nat.le_of_ble_eq_true rfl) (fun X C E hnL => ?_)
  have C : Cx X cX2_asThought RX2 n := C
  show WM X 0 [(0, vR 36), (1, vI a1), (2, vI a2), (3, vI a3), (4, vI a4)] [] M
  unfold B_X2_asThought at h
  refine m_aload_n C 0 dX2_asThought_0 rfl rfl ?_
  refine m_getR C (k := 3) cl_X2 (by decide) so_36 rfl fl_X2_20 dX2_asThought_1 ?_
  refine m_iconst C dX2_asThought_4 (r32_of rfl) ?_
  refine m_iload_n C 1 dX2_asThought_5 rfl rfl ?_
  refine m_iast C (N := 6) sa_37 (by decide) dX2_asThought_6 ?_
  generalize eM1 : up M 37 (Int.toNat 0) a1 = M1
  have h := h M1 eM1.symm
  refine m_aload_n C 0 dX2_asThought_7 rfl rfl ?_
  refine m_getR C (k := 3) cl_X2 (by decide) so_36 rfl fl_X2_20 dX2_asThought_8 ?_
  refine m_iconst C dX2_asThought_11 (r32_of rfl) ?_
  refine m_iload_n C 2 dX2_asThought_12 rfl rfl ?_
  refine m_iast C (N := 6) sa_37 (by decide) dX2_asThought_13 ?_
  generalize eM2 : up M1 37 (Int.toNat 3) a2 = M2
  have h := h M2 eM2.symm
  refine m_aload_n C 0 dX2_asThought_14 rfl rfl ?_
  refine m_getR C (k := 3) cl_X2 (by decide) so_36 rfl fl_X2_20 dX2_asThought_15 ?_
  refine m_iconst C dX2_asThought_18 (r32_of rfl) ?_
  refine m_iload_n C 3 dX2_asThought_19 rfl rfl ?_
  refine m_iast C (N := 6) sa_37 (by decide) dX2_asThought_20 ?_
  generalize eM3 : up M2 37 (Int.toNat 4) a3 = M3
  have h := h M3 eM3.symm
  refine m_aload_n C 0 dX2_asThought_21 rfl rfl ?_
  refine m_getR C (k := 3) cl_X2 (by decide) so_36 rfl fl_X2_20 dX2_asThought_22 ?_
  refine m_iconst C dX2_asThought_25 (r32_of rfl) ?_
  refine m_iload C 4 dX2_asThought_26 rfl ?_
  refine m_iast C (N := 6) sa_37 (by decide) dX2_asThought_28 ?_
  generalize eM4 : up M3 37 (Int.toNat 5) a4 = M4
  have h := h M4 eM4.symm
  exact m_vret C E dX2_asThought_29 h
def B_X2_suppose (n : Nat) (a1 : Int) (a2 : Int) (M : Mem) (Q : Int → Mem → Prop)  : Prop :=
  (((a1 < 1 ∨ 5 < a1) →
  Q 0 M) ∧ ((a1 = 1) →
  (∀ M1 : Mem, M1 = up M 36 2 a2 →
    Q 0 M1)) ∧ ((a1 = 2) →
  (∀ M2 : Mem, M2 = up M 37 (Int.toNat 2) a2 →
    Q 0 M2)) ∧ ((a1 = 3) →
  (∀ M3 : Mem, M3 = up M 37 (Int.toNat 1) a2 →
    Q 0 M3)) ∧ ((a1 = 4) →
  (∀ M4 : Mem, M4 = up M 37 (Int.toNat 3) a2 →
    Q 0 M4)) ∧ ((a1 = 5) →
  (∀ M5 : Mem, M5 = up M 36 1 a2 →
    Q 0 M5)))
set_option maxHeartbeats 4000000 in
set_option maxRecDepth 20000 in
theorem g_X2_suppose {n : Nat} {a1 : Int} {a2 : Int} {M : Mem} {Q : Int → Mem → Prop}  (h : B_X2_suppose n a1 a2 M Q) : Con (n + 1) md_X2_suppose [vR 36, vI a1, vI a2] M Q := by
  refine Con.ofF (n := n + 1) (Nat.succ_pos n) pl_X2_suppose (Nat.le_of_ble_eq_true rfl) (fun X C E hnL => ?_)
  have C : Cx X cX2_suppose RX2 n := C
  show WM X 0 [(0, vR 36), (1, vI a1), (2, vI a2)] [] M
  unfold B_X2_suppose at h
  refine m_iload_n C 1 dX2_suppose_0 rfl rfl ?_
  by_cases ho : a1 < 1 ∨ 5 < a1
  · have h := h.1 (by omega)
    refine m_tabO C (tgt := 82) dX2_suppose_1 ho (by decide) ?_
    exact m_vret C E dX2_suppose_82 h
  · obtain hx | hx | hx | hx | hx : a1 = 1 ∨ a1 = 2 ∨ a1 = 3 ∨ a1 = 4 ∨ a1 = 5 := by omega
    · have h := h.2.1 (by omega)
      refine m_tabI C (tgt := 36) dX2_suppose_1 (by omega) (by omega) (by rw [hx]; rfl) (by decide) ?_
      refine m_aload_n C 0 dX2_suppose_36 rfl rfl ?_
      refine m_iload_n C 2 dX2_suppose_37 rfl rfl ?_
      refine m_putI C (k := 2) cl_X2 (by decide) so_36 rfl rfl rfl fl_X2_15 dX2_suppose_38 ?_
      generalize eM1 : up M 36 2 a2 = M1
      have h := h M1 eM1.symm
      refine m_goto C (tgt := 82) dX2_suppose_41 (by decide) ?_
      exact m_vret C E dX2_suppose_82 h
    · have h := h.2.2.1 (by omega)
      refine m_tabI C (tgt := 44) dX2_suppose_1 (by omega) (by omega) (by rw [hx]; rfl) (by decide) ?_
      refine m_aload_n C 0 dX2_suppose_44 rfl rfl ?_
      refine m_getR C (k := 3) cl_X2 (by decide) so_36 rfl fl_X2_20 dX2_suppose_45 ?_
      refine m_iconst C dX2_suppose_48 (r32_of rfl) ?_
      refine m_iload_n C 2 dX2_suppose_49 rfl rfl ?_
      refine m_iast C (N := 6) sa_37 (by decide) dX2_suppose_50 ?_
      generalize eM2 : up M 37 (Int.toNat 2) a2 = M2
      have h := h M2 eM2.symm
      refine m_goto C (tgt := 82) dX2_suppose_51 (by decide) ?_
      exact m_vret C E dX2_suppose_82 h
    · have h := h.2.2.2.1 (by omega)
      refine m_tabI C (tgt := 54) dX2_suppose_1 (by omega) (by omega) (by rw [hx]; rfl) (by decide) ?_
      refine m_aload_n C 0 dX2_suppose_54 rfl rfl ?_
      refine m_getR C (k := 3) cl_X2 (by decide) so_36 rfl fl_X2_20 dX2_suppose_55 ?_
      refine m_iconst C dX2_suppose_58 (r32_of rfl) ?_
      refine m_iload_n C 2 dX2_suppose_59 rfl rfl ?_
      refine m_iast C (N := 6) sa_37 (by decide) dX2_suppose_60 ?_
      generalize eM3 : up M 37 (Int.toNat 1) a2 = M3
      have h := h M3 eM3.symm
      refine m_goto C (tgt := 82) dX2_suppose_61 (by decide) ?_
      exact m_vret C E dX2_suppose_82 h
    · have h := h.2.2.2.2.1 (by omega)
      refine m_tabI C (tgt := 64) dX2_suppose_1 (by omega) (by omega) (by rw [hx]; rfl) (by decide) ?_
      refine m_aload_n C 0 dX2_suppose_64 rfl rfl ?_
      refine m_getR C (k := 3) cl_X2 (by decide) so_36 rfl fl_X2_20 dX2_suppose_65 ?_
      refine m_iconst C dX2_suppose_68 (r32_of rfl) ?_
      refine m_iload_n C 2 dX2_suppose_69 rfl rfl ?_
      refine m_iast C (N := 6) sa_37 (by decide) dX2_suppose_70 ?_
      generalize eM4 : up M 37 (Int.toNat 3) a2 = M4
      have h := h M4 eM4.symm
      refine m_goto C (tgt := 82) dX2_suppose_71 (by decide) ?_
      exact m_vret C E dX2_suppose_82 h
    · have h := h.2.2.2.2.2 (by omega)
      refine m_tabI C (tgt := 74) dX2_suppose_1 (by omega) (by omega) (by rw [hx]; rfl) (by decide) ?_
      refine m_aload_n C 0 dX2_suppose_74 rfl rfl ?_
      refine m_iload_n C 2 dX2_suppose_75 rfl rfl ?_
      refine m_putI C (k := 1) cl_X2 (by decide) so_36 rfl rfl rfl fl_X2_9 dX2_suppose_76 ?_
      generalize eM5 : up M 36 1 a2 = M5
      have h := h M5 eM5.symm
      refine m_goto C (tgt := 82) dX2_suppose_79 (by decide) ?_
      exact m_vret C E dX2_suppose_82 h
def B_X2_layOne (n : Nat)  (M : Mem) (Q : Int → Mem → Prop)  : Prop :=
  Con n md_X2_turns [vR 36] M (fun r1 M2 =>
  Con n md_X2_turned [vI (M 37 (Int.toNat 3)), vI r1] M2 (fun r3 M4 =>
  (∀ M5 : Mem, M5 = up M4 37 (Int.toNat 3) r3 →
  (∀ M6 : Mem, M6 = up M5 37 (Int.toNat 0) (w32 ((M5 37 (Int.toNat 0)) + 1)) →
  (∀ M7 : Mem, M7 = up M6 37 (Int.toNat 4) (w32 ((M6 37 (Int.toNat 4)) - 1)) →
  Con n md_X2_thick [vR 36] M7 (fun r8 M9 =>
  (∀ M10 : Mem, M10 = up M9 37 (Int.toNat 5) (w32 ((M7 37 (Int.toNat 5)) - r8)) →
  Q (M10 37 (Int.toNat 3)) M10)))))))
set_option maxHeartbeats 4000000 in
set_option maxRecDepth 20000 in
theorem g_X2_layOne {n : Nat}  {M : Mem} {Q : Int → Mem → Prop}  (h : B_X2_layOne n  M Q) : Con (n + 1) md_X2_layOne [vR 36] M Q := by
  refine Con.ofF (n := n + 1) (Nat.succ_pos n) pl_X2_layOne (Nat.le_of_ble_eq_true rfl) (fun X C E hnL => ?_)
  have C : Cx X cX2_layOne RX2 n := C
  show WM X 0 [(0, vR 36)] [] M
  unfold B_X2_layOne at h
  refine m_aload_n C 0 dX2_layOne_0 rfl rfl ?_
  refine m_getR C (k := 3) cl_X2 (by decide) so_36 rfl fl_X2_20 dX2_layOne_1 ?_
  refine m_iconst C dX2_layOne_4 (r32_of rfl) ?_
  refine m_aload_n C 0 dX2_layOne_5 rfl rfl ?_
  refine m_getR C (k := 3) cl_X2 (by decide) so_36 rfl fl_X2_20 dX2_layOne_6 ?_
  refine m_iconst C dX2_layOne_9 (r32_of rfl) ?_
  refine m_iald C (N := 6) sa_37 (by decide) dX2_layOne_10 ?_
  refine m_aload_n C 0 dX2_layOne_11 rfl rfl ?_
  refine m_callVi C (as := []) (rest := [vI (M 37 (Int.toNat 3)), vI 3, vR 37]) ok_X2_turns ml_X2_67 so_36 rfl rfl rfl (Nat.le_of_ble_eq_true rfl) (fun _ => rfl) dX2_layOne_12 (Con.mono h (fun r1 M2 _ _ h => ?_))
  refine m_callSi C (as := [vI (M 37 (Int.toNat 3)), vI r1]) (rest := [vI 3, vR 37]) ok_X2_turned ml_X2_70 rfl rfl (Nat.le_of_ble_eq_true rfl) (fun _ => rfl) dX2_layOne_15 (Con.mono h (fun r3 M4 _ _ h => ?_))
  refine m_iast C (N := 6) sa_37 (by decide) dX2_layOne_18 ?_
  generalize eM5 : up M4 37 (Int.toNat 3) r3 = M5
  have h := h M5 eM5.symm
  refine m_aload_n C 0 dX2_layOne_19 rfl rfl ?_
  refine m_getR C (k := 3) cl_X2 (by decide) so_36 rfl fl_X2_20 dX2_layOne_20 ?_
  refine m_iconst C dX2_layOne_23 (r32_of rfl) ?_
  refine m_dup2 C dX2_layOne_24 ?_
  refine m_iald C (N := 6) sa_37 (by decide) dX2_layOne_25 ?_
  refine m_iconst C dX2_layOne_26 (r32_of rfl) ?_
  refine m_iadd C dX2_layOne_27 ?_
  refine m_iast C (N := 6) sa_37 (by decide) dX2_layOne_28 ?_
  generalize eM6 : up M5 37 (Int.toNat 0) (w32 ((M5 37 (Int.toNat 0)) + 1)) = M6
  have h := h M6 eM6.symm
  refine m_aload_n C 0 dX2_layOne_29 rfl rfl ?_
  refine m_getR C (k := 3) cl_X2 (by decide) so_36 rfl fl_X2_20 dX2_layOne_30 ?_
  refine m_iconst C dX2_layOne_33 (r32_of rfl) ?_
  refine m_dup2 C dX2_layOne_34 ?_
  refine m_iald C (N := 6) sa_37 (by decide) dX2_layOne_35 ?_
  refine m_iconst C dX2_layOne_36 (r32_of rfl) ?_
  refine m_isub C dX2_layOne_37 ?_
  refine m_iast C (N := 6) sa_37 (by decide) dX2_layOne_38 ?_
  generalize eM7 : up M6 37 (Int.toNat 4) (w32 ((M6 37 (Int.toNat 4)) - 1)) = M7
  have h := h M7 eM7.symm
  refine m_aload_n C 0 dX2_layOne_39 rfl rfl ?_
  refine m_getR C (k := 3) cl_X2 (by decide) so_36 rfl fl_X2_20 dX2_layOne_40 ?_
  refine m_iconst C dX2_layOne_43 (r32_of rfl) ?_
  refine m_dup2 C dX2_layOne_44 ?_
  refine m_iald C (N := 6) sa_37 (by decide) dX2_layOne_45 ?_
  refine m_aload_n C 0 dX2_layOne_46 rfl rfl ?_
  refine m_callVi C (as := []) (rest := [vI (M7 37 (Int.toNat 5)), vI 5, vR 37]) ok_X2_thick ml_X2_74 so_36 rfl rfl rfl (Nat.le_of_ble_eq_true rfl) (fun _ => rfl) dX2_layOne_47 (Con.mono h (fun r8 M9 _ _ h => ?_))
  refine m_isub C dX2_layOne_50 ?_
  refine m_iast C (N := 6) sa_37 (by decide) dX2_layOne_51 ?_
  generalize eM10 : up M9 37 (Int.toNat 5) (w32 ((M7 37 (Int.toNat 5)) - r8)) = M10
  have h := h M10 eM10.symm
  refine m_aload_n C 0 dX2_layOne_52 rfl rfl ?_
  refine m_getR C (k := 3) cl_X2 (by decide) so_36 rfl fl_X2_20 dX2_layOne_53 ?_
  refine m_iconst C dX2_layOne_56 (r32_of rfl) ?_
  refine m_iald C (N := 6) sa_37 (by decide) dX2_layOne_57 ?_
  exact m_iret C E (Or.inl rfl) dX2_layOne_58 h
def B_X2_turned (n : Nat) (a1 : Int) (a2 : Int) (M : Mem) (Q : Int → Mem → Prop)  : Prop :=
  Con n md_J9_floorMod_7cf53 [vI (w32 (a1 + a2)), vI 16] M (fun r1 M2 =>
  Q r1 M2)
set_option maxHeartbeats 4000000 in
set_option maxRecDepth 20000 in
theorem g_X2_turned {n : Nat} {a1 : Int} {a2 : Int} {M : Mem} {Q : Int → Mem → Prop}  (h : B_X2_turned n a1 a2 M Q) : Con (n + 1) md_X2_turned [vI a1, vI a2] M Q := by
  refine Con.ofF (n := n + 1) (Nat.succ_pos n) pl_X2_turned (Nat.le_of_ble_eq_true rfl) (fun X C E hnL => ?_)
  have C : Cx X cX2_turned RX2 n := C
  show WM X 0 [(0, vI a1), (1, vI a2)] [] M
  unfold B_X2_turned at h
  refine m_iload_n C 0 dX2_turned_0 rfl rfl ?_
  refine m_iload_n C 1 dX2_turned_1 rfl rfl ?_
  refine m_iadd C dX2_turned_2 ?_
  refine m_bipush C dX2_turned_3 (r32_of rfl) (by decide) ?_
  refine m_callSi C (as := [vI (w32 (a1 + a2)), vI 16]) (rest := []) ok_J9_floorMod_7cf53 ml_X2_77 rfl rfl (Nat.le_of_ble_eq_true rfl) (fun _ => rfl) dX2_turned_5 (Con.mono h (fun r1 M2 _ _ h => ?_))
  exact m_iret C E (Or.inl rfl) dX2_turned_8 h
def B_X2_thick (n : Nat)  (M : Mem) (Q : Int → Mem → Prop)  : Prop :=
  Con n md_X1_thick [vI (M 36 2), vI (M 37 (Int.toNat 2))] M (fun r1 M2 =>
  Q r1 M2)
set_option maxHeartbeats 4000000 in
set_option maxRecDepth 20000 in
theorem g_X2_thick {n : Nat}  {M : Mem} {Q : Int → Mem → Prop}  (h : B_X2_thick n  M Q) : Con (n + 1) md_X2_thick [vR 36] M Q := by
  refine Con.ofF (n := n + 1) (Nat.succ_pos n) pl_X2_thick (Nat.le_of_ble_eq_true rfl) (fun X C E hnL => ?_)
  have C : Cx X cX2_thick RX2 n := C
  show WM X 0 [(0, vR 36)] [] M
  unfold B_X2_thick at h
  refine m_aload_n C 0 dX2_thick_0 rfl rfl ?_
  refine m_getI C (k := 2) cl_X2 (by decide) so_36 rfl fl_X2_15 dX2_thick_1 ?_
  refine m_aload_n C 0 dX2_thick_4 rfl rfl ?_
  refine m_getR C (k := 3) cl_X2 (by decide) so_36 rfl fl_X2_20 dX2_thick_5 ?_
  refine m_iconst C dX2_thick_8 (r32_of rfl) ?_
  refine m_iald C (N := 6) sa_37 (by decide) dX2_thick_9 ?_
  refine m_callSi C (as := [vI (M 36 2), vI (M 37 (Int.toNat 2))]) (rest := []) ok_X1_thick ml_X2_82 rfl rfl (Nat.le_of_ble_eq_true rfl) (fun _ => rfl) dX2_thick_10 (Con.mono h (fun r1 M2 _ _ h => ?_))
  exact m_iret C E (Or.inl rfl) dX2_thick_13 h
def B_X2_turns (n : Nat)  (M : Mem) (Q : Int → Mem → Prop)  : Prop :=
  Con n md_X7_valueOf [vR 17, vI (M 36 1), vI 0, vR 37] M (fun r1 M2 =>
  Con n md_X2_within [vI (-16), vI 16, vI r1] M2 (fun r3 M4 =>
  Con n md_X1_turns [vI (M 36 2), vI r3] M4 (fun r5 M6 =>
  Q r5 M6)))
set_option maxHeartbeats 4000000 in
set_option maxRecDepth 20000 in
theorem g_X2_turns {n : Nat}  {M : Mem} {Q : Int → Mem → Prop}  (h : B_X2_turns n  M Q) : Con (n + 1) md_X2_turns [vR 36] M Q := by
  refine Con.ofF (n := n + 1) (Nat.succ_pos n) pl_X2_turns (Nat.le_of_ble_eq_true rfl) (fun X C E hnL => ?_)
  have C : Cx X cX2_turns RX2 n := C
  show WM X 0 [(0, vR 36)] [] M
  unfold B_X2_turns at h
  refine m_aload_n C 0 dX2_turns_0 rfl rfl ?_
  refine m_getI C (k := 2) cl_X2 (by decide) so_36 rfl fl_X2_15 dX2_turns_1 ?_
  refine m_bipush C dX2_turns_4 (r32_of rfl) (by decide) ?_
  refine m_bipush C dX2_turns_6 (r32_of rfl) (by decide) ?_
  refine m_aload_n C 0 dX2_turns_8 rfl rfl ?_
  refine m_getR C (k := 0) cl_X2 (by decide) so_36 rfl fl_X2_24 dX2_turns_9 ?_
  refine m_aload_n C 0 dX2_turns_12 rfl rfl ?_
  refine m_getI C (k := 1) cl_X2 (by decide) so_36 rfl fl_X2_9 dX2_turns_13 ?_
  refine m_iconst C dX2_turns_16 (r32_of rfl) ?_
  refine m_aload_n C 0 dX2_turns_17 rfl rfl ?_
  refine m_getR C (k := 3) cl_X2 (by decide) so_36 rfl fl_X2_20 dX2_turns_18 ?_
  refine m_callVi C (as := [vI (M 36 1), vI 0, vR 37]) (rest := [vI 16, vI (-16), vI (M 36 2)]) ok_X7_valueOf ml_X2_86 so_17 rfl rfl rfl (Nat.le_of_ble_eq_true rfl) (fun _ => rfl) dX2_turns_21 (Con.mono h (fun r1 M2 _ _ h => ?_))
  refine m_callSi C (as := [vI (-16), vI 16, vI r1]) (rest := [vI (M 36 2)]) ok_X2_within ml_X2_90 rfl rfl (Nat.le_of_ble_eq_true rfl) (fun _ => rfl) dX2_turns_24 (Con.mono h (fun r3 M4 _ _ h => ?_))
  refine m_callSi C (as := [vI (M 36 2), vI r3]) (rest := []) ok_X1_turns ml_X2_94 rfl rfl (Nat.le_of_ble_eq_true rfl) (fun _ => rfl) dX2_turns_27 (Con.mono h (fun r5 M6 _ _ h => ?_))
  exact m_iret C E (Or.inl rfl) dX2_turns_30 h
def B_X2_costs (n : Nat)  (M : Mem) (Q : Int → Mem → Prop)  : Prop :=
  Con n md_X7_valueOf [vR 17, vI (M 36 1), vI 1, vR 37] M (fun r1 M2 =>
  Con n md_X2_within [vI 0, vI 999, vI r1] M2 (fun r3 M4 =>
  Con n md_X1_costs [vI (M4 36 2), vI (M4 37 (Int.toNat 2)), vI r3] M4 (fun r5 M6 =>
  Q r5 M6)))
set_option maxHeartbeats 4000000 in
set_option maxRecDepth 20000 in
theorem g_X2_costs {n : Nat}  {M : Mem} {Q : Int → Mem → Prop}  (h : B_X2_costs n  M Q) : Con (n + 1) md_X2_costs [vR 36] M Q := by
  refine Con.ofF (n := n + 1) (Nat.succ_pos n) pl_X2_costs (Nat.le_of_ble_eq_true rfl) (fun X C E hnL => ?_)
  have C : Cx X cX2_costs RX2 n := C
  show WM X 0 [(0, vR 36)] [] M
  unfold B_X2_costs at h
  refine m_iconst C dX2_costs_0 (r32_of rfl) ?_
  refine m_sipush C dX2_costs_1 (r32_of rfl) (by decide) ?_
  refine m_aload_n C 0 dX2_costs_4 rfl rfl ?_
  refine m_getR C (k := 0) cl_X2 (by decide) so_36 rfl fl_X2_24 dX2_costs_5 ?_
  refine m_aload_n C 0 dX2_costs_8 rfl rfl ?_
  refine m_getI C (k := 1) cl_X2 (by decide) so_36 rfl fl_X2_9 dX2_costs_9 ?_
  refine m_iconst C dX2_costs_12 (r32_of rfl) ?_
  refine m_aload_n C 0 dX2_costs_13 rfl rfl ?_
  refine m_getR C (k := 3) cl_X2 (by decide) so_36 rfl fl_X2_20 dX2_costs_14 ?_
  refine m_callVi C (as := [vI (M 36 1), vI 1, vR 37]) (rest := [vI 999, vI 0]) ok_X7_valueOf ml_X2_86 so_17 rfl rfl rfl (Nat.le_of_ble_eq_true rfl) (fun _ => rfl) dX2_costs_17 (Con.mono h (fun r1 M2 _ _ h => ?_))
  refine m_callSi C (as := [vI 0, vI 999, vI r1]) (rest := []) ok_X2_within ml_X2_90 rfl rfl (Nat.le_of_ble_eq_true rfl) (fun _ => rfl) dX2_costs_20 (Con.mono h (fun r3 M4 _ _ h => ?_))
  refine m_istore_n C (L' := [(1, vI r3), (0, vR 36)]) dX2_costs_23 rfl (by rw [hnL]; decide) rfl ?_
  refine m_aload_n C 1 dX2_costs_24 rfl rfl ?_
  refine m_getI C (k := 2) cl_X2 (by decide) so_36 rfl fl_X2_15 dX2_costs_25 ?_
  refine m_aload_n C 1 dX2_costs_28 rfl rfl ?_
  refine m_getR C (k := 3) cl_X2 (by decide) so_36 rfl fl_X2_20 dX2_costs_29 ?_
  refine m_iconst C dX2_costs_32 (r32_of rfl) ?_
  refine m_iald C (N := 6) sa_37 (by decide) dX2_costs_33 ?_
  refine m_iload_n C 0 dX2_costs_34 rfl rfl ?_
  refine m_callSi C (as := [vI (M4 36 2), vI (M4 37 (Int.toNat 2)), vI r3]) (rest := []) ok_X1_costs ml_X2_96 rfl rfl (Nat.le_of_ble_eq_true rfl) (fun _ => rfl) dX2_costs_35 (Con.mono h (fun r5 M6 _ _ h => ?_))
  exact m_iret C E (Or.inl rfl) dX2_costs_38 h
def B_X2_lasts (n : Nat)  (M : Mem) (Q : Int → Mem → Prop)  : Prop :=
  Con n md_X7_valueOf [vR 17, vI (M 36 1), vI 2, vR 37] M (fun r1 M2 =>
  Con n md_X2_within [vI 0, vI 30, vI r1] M2 (fun r3 M4 =>
  Con n md_X1_lasts [vI (M4 36 2), vI (M4 37 (Int.toNat 2)), vI r3] M4 (fun r5 M6 =>
  Q r5 M6)))
set_option maxHeartbeats 4000000 in
set_option maxRecDepth 20000 in
theorem g_X2_lasts {n : Nat}  {M : Mem} {Q : Int → Mem → Prop}  (h : B_X2_lasts n  M Q) : Con (n + 1) md_X2_lasts [vR 36] M Q := by
  refine Con.ofF (n := n + 1) (Nat.succ_pos n) pl_X2_lasts (Nat.le_of_ble_eq_true rfl) (fun X C E hnL => ?_)
  have C : Cx X cX2_lasts RX2 n := C
  show WM X 0 [(0, vR 36)] [] M
  unfold B_X2_lasts at h
  refine m_iconst C dX2_lasts_0 (r32_of rfl) ?_
  refine m_bipush C dX2_lasts_1 (r32_of rfl) (by decide) ?_
  refine m_aload_n C 0 dX2_lasts_3 rfl rfl ?_
  refine m_getR C (k := 0) cl_X2 (by decide) so_36 rfl fl_X2_24 dX2_lasts_4 ?_
  refine m_aload_n C 0 dX2_lasts_7 rfl rfl ?_
  refine m_getI C (k := 1) cl_X2 (by decide) so_36 rfl fl_X2_9 dX2_lasts_8 ?_
  refine m_iconst C dX2_lasts_11 (r32_of rfl) ?_
  refine m_aload_n C 0 dX2_lasts_12 rfl rfl ?_
  refine m_getR C (k := 3) cl_X2 (by decide) so_36 rfl fl_X2_20 dX2_lasts_13 ?_
  refine m_callVi C (as := [vI (M 36 1), vI 2, vR 37]) (rest := [vI 30, vI 0]) ok_X7_valueOf ml_X2_86 so_17 rfl rfl rfl (Nat.le_of_ble_eq_true rfl) (fun _ => rfl) dX2_lasts_16 (Con.mono h (fun r1 M2 _ _ h => ?_))
  refine m_callSi C (as := [vI 0, vI 30, vI r1]) (rest := []) ok_X2_within ml_X2_90 rfl rfl (Nat.le_of_ble_eq_true rfl) (fun _ => rfl) dX2_lasts_19 (Con.mono h (fun r3 M4 _ _ h => ?_))
  refine m_istore_n C (L' := [(1, vI r3), (0, vR 36)]) dX2_lasts_22 rfl (by rw [hnL]; decide) rfl ?_
  refine m_aload_n C 1 dX2_lasts_23 rfl rfl ?_
  refine m_getI C (k := 2) cl_X2 (by decide) so_36 rfl fl_X2_15 dX2_lasts_24 ?_
  refine m_aload_n C 1 dX2_lasts_27 rfl rfl ?_
  refine m_getR C (k := 3) cl_X2 (by decide) so_36 rfl fl_X2_20 dX2_lasts_28 ?_
  refine m_iconst C dX2_lasts_31 (r32_of rfl) ?_
  refine m_iald C (N := 6) sa_37 (by decide) dX2_lasts_32 ?_
  refine m_iload_n C 0 dX2_lasts_33 rfl rfl ?_
  refine m_callSi C (as := [vI (M4 36 2), vI (M4 37 (Int.toNat 2)), vI r3]) (rest := []) ok_X1_lasts ml_X2_99 rfl rfl (Nat.le_of_ble_eq_true rfl) (fun _ => rfl) dX2_lasts_34 (Con.mono h (fun r5 M6 _ _ h => ?_))
  exact m_iret C E (Or.inl rfl) dX2_lasts_37 h
def B_X2_within (n : Nat) (a1 : Int) (a2 : Int) (a3 : Int) (M : Mem) (Q : Int → Mem → Prop)  : Prop :=
  Con n md_J9_min_7cf53 [vI a2, vI a3] M (fun r1 M2 =>
  Con n md_J9_max_7cf53 [vI a1, vI r1] M2 (fun r3 M4 =>
  Q r3 M4))
set_option maxHeartbeats 4000000 in
set_option maxRecDepth 20000 in
theorem g_X2_within {n : Nat} {a1 : Int} {a2 : Int} {a3 : Int} {M : Mem} {Q : Int → Mem → Prop}  (h : B_X2_within n a1 a2 a3 M Q) : Con (n + 1) md_X2_within [vI a1, vI a2, vI a3] M Q := by
  refine Con.ofF (n := n + 1) (Nat.succ_pos n) pl_X2_within (Nat.le_of_ble_eq_true rfl) (fun X C E hnL => ?_)
  have C : Cx X cX2_within RX2 n := C
  show WM X 0 [(0, vI a1), (1, vI a2), (2, vI a3)] [] M
  unfold B_X2_within at h
  refine m_iload_n C 0 dX2_within_0 rfl rfl ?_
  refine m_iload_n C 1 dX2_within_1 rfl rfl ?_
  refine m_iload_n C 2 dX2_within_2 rfl rfl ?_
  refine m_callSi C (as := [vI a2, vI a3]) (rest := [vI a1]) ok_J9_min_7cf53 ml_X2_102 rfl rfl (Nat.le_of_ble_eq_true rfl) (fun _ => rfl) dX2_within_3 (Con.mono h (fun r1 M2 _ _ h => ?_))
  refine m_callSi C (as := [vI a1, vI r1]) (rest := []) ok_J9_max_7cf53 ml_X2_105 rfl rfl (Nat.le_of_ble_eq_true rfl) (fun _ => rfl) dX2_within_6 (Con.mono h (fun r3 M4 _ _ h => ?_))
  exact m_iret C E (Or.inl rfl) dX2_within_9 h
