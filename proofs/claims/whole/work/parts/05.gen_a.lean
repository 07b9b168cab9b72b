def B_J9_floorMod_7cf53 (n : Nat) (a1 : Int) (a2 : Int) (M : Mem) (Q : Int → Mem → Prop)  : Prop :=
  (a2 ≠ 0 ∧ ((0 ≤ (x_r a1 a2) →
  Q (Int.tmod a1 a2) M) ∧ (¬ 0 ≤ (x_r a1 a2) →
  (((Int.tmod a1 a2) = 0 →
    Q (Int.tmod a1 a2) M) ∧ (¬ (Int.tmod a1 a2) = 0 →
    Q (w32 ((Int.tmod a1 a2) + a2)) M)))))
set_option maxHeartbeats 4000000 in
set_option maxRecDepth 20000 in
theorem g_J9_floorMod_7cf53 {n : Nat} {a1 : Int} {a2 : Int} {M : Mem} {Q : Int → Mem → Prop}  (h : B_J9_floorMod_7cf53 n a1 a2 M Q) : Con (n + 1) md_J9_floorMod_7cf53 [vI a1, vI a2] M Q := by
  refine Con.ofF (n := n + 1) (Nat.succ_pos n) pl_J9_floorMod_7cf53 (Nat.le_of_ble_eq_true rfl) (fun X C E hnL => ?_)
  have C : Cx X cJ9_floorMod_7cf53 RJ9 n := C
  show WM X 0 [(0, vI a1), (1, vI a2)] [] M
  unfold B_J9_floorMod_7cf53 at h
  refine m_iload_n C 0 dJ9_floorMod_7cf53_0 rfl rfl ?_
  refine m_iload_n C 1 dJ9_floorMod_7cf53_1 rfl rfl ?_
  refine m_irem C dJ9_floorMod_7cf53_2 h.1 ?_
  have h := h.2
  refine m_istore_n C (L' := [(2, vI (Int.tmod a1 a2)), (0, vI a1), (1, vI a2)]) dJ9_floorMod_7cf53_3 rfl (by rw [hnL]; decide) rfl ?_
  refine m_iload_n C 1 dJ9_floorMod_7cf53_4 rfl rfl ?_
  refine m_iload_n C 2 dJ9_floorMod_7cf53_5 rfl rfl ?_
  refine m_ixor C dJ9_floorMod_7cf53_6 ?_
  refine m_if_ge C (tgt := 18) dJ9_floorMod_7cf53_7 (by decide) (fun e => ?_) (fun e => ?_)
  · have h := h.1 e
    refine m_iload_n C 0 dJ9_floorMod_7cf53_18 rfl rfl ?_
    exact m_iret C E (Or.inl rfl) dJ9_floorMod_7cf53_19 h
  · have h := h.2 e
    refine m_iload_n C 0 dJ9_floorMod_7cf53_10 rfl rfl ?_
    refine m_if_eq C (tgt := 18) dJ9_floorMod_7cf53_11 (by decide) (fun e => ?_) (fun e => ?_)
    · have h := h.1 e
      refine m_iload_n C 0 dJ9_floorMod_7cf53_18 rfl rfl ?_
      exact m_iret C E (Or.inl rfl) dJ9_floorMod_7cf53_19 h
    · have h := h.2 e
      refine m_iload_n C 0 dJ9_floorMod_7cf53_14 rfl rfl ?_
      refine m_iload_n C 2 dJ9_floorMod_7cf53_15 rfl rfl ?_
      refine m_iadd C dJ9_floorMod_7cf53_16 ?_
      exact m_iret C E (Or.inl rfl) dJ9_floorMod_7cf53_17 h
def B_J9_max_7cf53 (n : Nat) (a1 : Int) (a2 : Int) (M : Mem) (Q : Int → Mem → Prop)  : Prop :=
  ((a1 < a2 →
  Q a2 M) ∧ (¬ a1 < a2 →
  Q a1 M))
set_option maxHeartbeats 4000000 in
set_option maxRecDepth 20000 in
theorem g_J9_max_7cf53 {n : Nat} {a1 : Int} {a2 : Int} {M : Mem} {Q : Int → Mem → Prop}  (h : B_J9_max_7cf53 n a1 a2 M Q) : Con (n + 1) md_J9_max_7cf53 [vI a1, vI a2] M Q := by
  refine Con.ofF (n := n + 1) (Nat.succ_pos n) pl_J9_max_7cf53 (Nat.le_of_ble_eq_true rfl) (fun X C E hnL => ?_)
  have C : Cx X cJ9_max_7cf53 RJ9 n := C
  show WM X 0 [(0, vI a1), (1, vI a2)] [] M
  unfold B_J9_max_7cf53 at h
  refine m_iload_n C 0 dJ9_max_7cf53_0 rfl rfl ?_
  refine m_iload_n C 1 dJ9_max_7cf53_1 rfl rfl ?_
  refine m_icmp_lt C (tgt := 9) dJ9_max_7cf53_2 (by decide) (fun e => ?_) (fun e => ?_)
  · have h := h.1 e
    refine m_iload_n C 1 dJ9_max_7cf53_9 rfl rfl ?_
    exact m_iret C E (Or.inl rfl) dJ9_max_7cf53_10 h
  · have h := h.2 e
    refine m_iload_n C 0 dJ9_max_7cf53_5 rfl rfl ?_
    refine m_goto C (tgt := 10) dJ9_max_7cf53_6 (by decide) ?_
    exact m_iret C E (Or.inl rfl) dJ9_max_7cf53_10 h
def B_J9_min_7cf53 (n : Nat) (a1 : Int) (a2 : Int) (M : Mem) (Q : Int → Mem → Prop)  : Prop :=
  ((a2 < a1 →
  Q a2 M) ∧ (¬ a2 < a1 →
  Q a1 M))
set_option maxHeartbeats 4000000 in
set_option maxRecDepth 20000 in
theorem g_J9_min_7cf53 {n : Nat} {a1 : Int} {a2 : Int} {M : Mem} {Q : Int → Mem → Prop}  (h : B_J9_min_7cf53 n a1 a2 M Q) : Con (n + 1) md_J9_min_7cf53 [vI a1, vI a2] M Q := by
  refine Con.ofF (n := n + 1) (Nat.succ_pos n) pl_J9_min_7cf53 (Nat.le_of_ble_eq_true rfl) (fun X C E hnL => ?_)
  have C : Cx X cJ9_min_7cf53 RJ9 n := C
  show WM X 0 [(0, vI a1), (1, vI a2)] [] M
  unfold B_J9_min_7cf53 at h
  refine m_iload_n C 0 dJ9_min_7cf53_0 rfl rfl ?_
  refine m_iload_n C 1 dJ9_min_7cf53_1 rfl rfl ?_
  refine m_icmp_gt C (tgt := 9) dJ9_min_7cf53_2 (by decide) (fun e => ?_) (fun e => ?_)
  · have h := h.1 e
    refine m_iload_n C 1 dJ9_min_7cf53_9 rfl rfl ?_
    exact m_iret C E (Or.inl rfl) dJ9_min_7cf53_10 h
  · have h := h.2 e
    refine m_iload_n C 0 dJ9_min_7cf53_5 rfl rfl ?_
    refine m_goto C (tgt := 10) dJ9_min_7cf53_6 (by decide) ?_
    exact m_iret C E (Or.inl rfl) dJ9_min_7cf53_10 h
def B_X1_isKind (n : Nat) (a1 : Int) (M : Mem) (Q : Int → Mem → Prop)  : Prop :=
  ((a1 < 0 →
  Q 0 M) ∧ (¬ a1 < 0 →
  ((6 ≤ a1 →
    Q 0 M) ∧ (¬ 6 ≤ a1 →
    Q 1 M))))
set_option maxHeartbeats 4000000 in
set_option maxRecDepth 20000 in
theorem g_X1_isKind {n : Nat} {a1 : Int} {M : Mem} {Q : Int → Mem → Prop}  (h : B_X1_isKind n a1 M Q) : Con (n + 1) md_X1_isKind [vI a1] M Q := by
  refine Con.ofF (n := n + 1) (Nat.succ_pos n) pl_X1_isKind (Nat.le_of_ble_eq_true rfl) (fun X C E hnL => ?_)
  have C : Cx X cX1_isKind RX1 n := C
  show WM X 0 [(0, vI a1)] [] M
  unfold B_X1_isKind at h
  refine m_iload_n C 0 dX1_isKind_0 rfl rfl ?_
  refine m_if_lt C (tgt := 14) dX1_isKind_1 (by decide) (fun e => ?_) (fun e => ?_)
  · have h := h.1 e
    refine m_iconst C dX1_isKind_14 (r32_of rfl) ?_
    exact m_iret C E (Or.inr ⟨rfl, Or.inl rfl⟩) dX1_isKind_15 h
  · have h := h.2 e
    refine m_iload_n C 0 dX1_isKind_4 rfl rfl ?_
    refine m_bipush C dX1_isKind_5 (r32_of rfl) (by decide) ?_
    refine m_icmp_ge C (tgt := 14) dX1_isKind_7 (by decide) (fun e => ?_) (fun e => ?_)
    · have h := h.1 e
      refine m_iconst C dX1_isKind_14 (r32_of rfl) ?_
      exact m_iret C E (Or.inr ⟨rfl, Or.inl rfl⟩) dX1_isKind_15 h
    · have h := h.2 e
      refine m_iconst C dX1_isKind_10 (r32_of rfl) ?_
      refine m_goto C (tgt := 15) dX1_isKind_11 (by decide) ?_
      exact m_iret C E (Or.inr ⟨rfl, Or.inr rfl⟩) dX1_isKind_15 h
def B_X1_isUnder_4 (n : Nat) (a1 : Int) (a2 : Int) (x2 : Int) (x3 : Int) (M : Mem) (Q : Int → Mem → Prop) (K4 : Int → Int → Mem → Prop) : Prop :=
  ((6 ≤ x3 →
  Q 0 M) ∧ (¬ 6 ≤ x3 →
  Con n md_X1_isKind [vI x2] M (fun r1 M2 =>
    ((r1 = 0 →
    Q 0 M2) ∧ (¬ r1 = 0 →
    ((x2 = a2 →
      Q 1 M2) ∧ (¬ x2 = a2 →
      ((0 ≤ x2 ∧ x2 < 6) ∧ K4 (un_d x2) (w32 (x3 + 1)) M2))))))))
def B_X1_isUnder (n : Nat) (a1 : Int) (a2 : Int) (M : Mem) (Q : Int → Mem → Prop) (K4 : Int → Int → Mem → Prop) : Prop :=
  K4 a1 0 M
set_option maxHeartbeats 4000000 in
set_option maxRecDepth 20000 in
theorem g_X1_isUnder {n : Nat} {a1 : Int} {a2 : Int} {M : Mem} {Q : Int → Mem → Prop}  (h : ∀ (K4 : Int → Int → Mem → Prop), (∀ (x2 : Int) (x3 : Int) (M : Mem), B_X1_isUnder_4 n a1 a2 x2 x3 M Q K4 → K4 x2 x3 M) → B_X1_isUnder n a1 a2 M Q K4) : Con (n + 1) md_X1_isUnder [vI a1, vI a2] M Q := by
  refine Con.ofF (n := n + 1) (Nat.succ_pos n) pl_X1_isUnder (Nat.le_of_ble_eq_true rfl) (fun X C E hnL => ?_)
  have C : Cx X cX1_isUnder RX1 n := C
  show WM X 0 [(0, vI a1), (1, vI a2)] [] M
  have hb4 : ∀ (x2 : Int) (x3 : Int) (M : Mem), B_X1_isUnder_4 n a1 a2 x2 x3 M Q (fun (x2 : Int) (x3 : Int) (M : Mem) => WM X 4 [(0, vI a1), (1, vI a2), (2, vI x2), (3, vI x3)] [] M) → WM X 4 [(0, vI a1), (1, vI a2), (2, vI x2), (3, vI x3)] [] M := by
    intro x2 x3 M h
    unfold B_X1_isUnder_4 at h
    refine m_iload_n C 3 dX1_isUnder_4 rfl rfl ?_
    refine m_bipush C dX1_isUnder_5 (r32_of rfl) (by decide) ?_
    refine m_icmp_ge C (tgt := 36) dX1_isUnder_7 (by decide) (fun e => ?_) (fun e => ?_)
    · have h := h.1 e
      refine m_iconst C dX1_isUnder_36 (r32_of rfl) ?_
      exact m_iret C E (Or.inr ⟨rfl, Or.inl rfl⟩) dX1_isUnder_37 h
    · have h := h.2 e
      refine m_iload_n C 2 dX1_isUnder_10 rfl rfl ?_
      refine m_callSi C (as := [vI x2]) (rest := []) ok_X1_isKind ml_X1_9 rfl rfl (Nat.le_of_ble_eq_true rfl) (fun _ => rfl) dX1_isUnder_11 (Con.mono h (fun r1 M2 _ _ h => ?_))
      refine m_if_eq C (tgt := 36) dX1_isUnder_14 (by decide) (fun e => ?_) (fun e => ?_)
      · have h := h.1 e
        refine m_iconst C dX1_isUnder_36 (r32_of rfl) ?_
        exact m_iret C E (Or.inr ⟨rfl, Or.inl rfl⟩) dX1_isUnder_37 h
      · have h := h.2 e
        refine m_iload_n C 2 dX1_isUnder_17 rfl rfl ?_
        refine m_iload_n C 1 dX1_isUnder_18 rfl rfl ?_
        refine m_icmp_ne C (tgt := 24) dX1_isUnder_19 (by decide) (fun e => ?_) (fun e => ?_)
        · have h := h.2 e
          refine m_gets C gl_X1_15 dX1_isUnder_24 ?_
          refine m_iload_n C 2 dX1_isUnder_27 rfl rfl ?_
          refine m_und C h.1 dX1_isUnder_28 ?_
          have h := h.2
          refine m_istore_n C (L' := [(2, vI (un_d x2)), (0, vI a1), (1, vI a2), (3, vI x3)]) dX1_isUnder_29 rfl (by rw [hnL]; decide) rfl ?_
          refine m_iinc C (L' := [(3, vI (w32 (x3 + 1))), (2, vI (un_d x2)), (0, vI a1), (1, vI a2)]) 3 dX1_isUnder_30 rfl (by rw [hnL]; decide) rfl ?_
          refine m_goto C (tgt := 4) dX1_isUnder_33 (by decide) ?_
          exact m_sub [2, 3, 1, 0] rfl h
        · have h := h.1 e
          refine m_iconst C dX1_isUnder_22 (r32_of rfl) ?_
          exact m_iret C E (Or.inr ⟨rfl, Or.inr rfl⟩) dX1_isUnder_23 h
  have h := h (fun (x2 : Int) (x3 : Int) (M : Mem) => WM X 4 [(0, vI a1), (1, vI a2), (2, vI x2), (3, vI x3)] [] M) hb4
  unfold B_X1_isUnder at h
  refine m_iload_n C 0 dX1_isUnder_0 rfl rfl ?_
  refine m_istore_n C (L' := [(2, vI a1), (0, vI a1), (1, vI a2)]) dX1_isUnder_1 rfl (by rw [hnL]; decide) rfl ?_
  refine m_iconst C dX1_isUnder_2 (r32_of rfl) ?_
  refine m_istore_n C (L' := [(3, vI 0), (2, vI a1), (0, vI a1), (1, vI a2)]) dX1_isUnder_3 rfl (by rw [hnL]; decide) rfl ?_
  exact m_sub [2, 3, 1, 0] rfl h
def B_X1_thick (n : Nat) (a1 : Int) (a2 : Int) (M : Mem) (Q : Int → Mem → Prop)  : Prop :=
  (((a1 < 1 ∨ 5 < a1) →
  Q 3 M) ∧ ((a1 = 1) →
  Q (w32 (3 + a2)) M) ∧ ((a1 = 2 ∨ a1 = 4) →
  Q 1 M) ∧ ((a1 = 3) →
  Q (w32 (Int.tdiv (w32 (3 + a2)) 2)) M) ∧ ((a1 = 5) →
  Q (w32 (2 + (w32 (Int.tdiv a2 2)))) M))
set_option maxHeartbeats 4000000 in
set_option maxRecDepth 20000 in
theorem g_X1_thick {n : Nat} {a1 : Int} {a2 : Int} {M : Mem} {Q : Int → Mem → Prop}  (h : B_X1_thick n a1 a2 M Q) : Con (n + 1) md_X1_thick [vI a1, vI a2] M Q := by
  refine Con.ofF (n := n + 1) (Nat.succ_pos n) pl_X1_thick (Nat.le_of_ble_eq_true rfl) (fun X C E hnL => ?_)
  have C : Cx X cX1_thick RX1 n := C
  show WM X 0 [(0, vI a1), (1, vI a2)] [] M
  unfold B_X1_thick at h
  refine m_iload_n C 0 dX1_thick_0 rfl rfl ?_
  by_cases ho : a1 < 1 ∨ 5 < a1
  · have h := h.1 (by omega)
    refine m_tabO C (tgt := 54) dX1_thick_1 ho (by decide) ?_
    refine m_iconst C dX1_thick_54 (r32_of rfl) ?_
    exact m_iret C E (Or.inl rfl) dX1_thick_55 h
  · obtain hx | hx | hx | hx | hx : a1 = 1 ∨ a1 = 2 ∨ a1 = 3 ∨ a1 = 4 ∨ a1 = 5 := by omega
    · have h := h.2.1 (by omega)
      refine m_tabI C (tgt := 36) dX1_thick_1 (by omega) (by omega) (by rw [hx]; rfl) (by decide) ?_
      refine m_iconst C dX1_thick_36 (r32_of rfl) ?_
      refine m_iload_n C 1 dX1_thick_37 rfl rfl ?_
      refine m_iadd C dX1_thick_38 ?_
      exact m_iret C E (Or.inl rfl) dX1_thick_39 h
    · have h := h.2.2.1 (by omega)
      refine m_tabI C (tgt := 46) dX1_thick_1 (by omega) (by omega) (by rw [hx]; rfl) (by decide) ?_
      refine m_iconst C dX1_thick_46 (r32_of rfl) ?_
      exact m_iret C E (Or.inl rfl) dX1_thick_47 h
    · have h := h.2.2.2.1 (by omega)
      refine m_tabI C (tgt := 40) dX1_thick_1 (by omega) (by omega) (by rw [hx]; rfl) (by decide) ?_
      refine m_iconst C dX1_thick_40 (r32_of rfl) ?_
      refine m_iload_n C 1 dX1_thick_41 rfl rfl ?_
      refine m_iadd C dX1_thick_42 ?_
      refine m_iconst C dX1_thick_43 (r32_of rfl) ?_
      refine m_idiv C dX1_thick_44 (by decide) ?_
      exact m_iret C E (Or.inl rfl) dX1_thick_45 h
    · have h := h.2.2.1 (by omega)
      refine m_tabI C (tgt := 46) dX1_thick_1 (by omega) (by omega) (by rw [hx]; rfl) (by decide) ?_
      refine m_iconst C dX1_thick_46 (r32_of rfl) ?_
      exact m_iret C E (Or.inl rfl) dX1_thick_47 h
    · have h := h.2.2.2.2 (by omega)
      refine m_tabI C (tgt := 48) dX1_thick_1 (by omega) (by omega) (by rw [hx]; rfl) (by decide) ?_
      refine m_iconst C dX1_thick_48 (r32_of rfl) ?_
      refine m_iload_n C 1 dX1_thick_49 rfl rfl ?_
      refine m_iconst C dX1_thick_50 (r32_of rfl) ?_
      refine m_idiv C dX1_thick_51 (by decide) ?_
      refine m_iadd C dX1_thick_52 ?_
      exact m_iret C E (Or.inl rfl) dX1_thick_53 h
def B_X1_turns (n : Nat) (a1 : Int) (a2 : Int) (M : Mem) (Q : Int → Mem → Prop)  : Prop :=
  (((a1 < 1 ∨ 5 < a1 ∨ a1 = 2) →
  Q a2 M) ∧ ((a1 = 1 ∨ a1 = 3) →
  Q (w32 (a2 + 1)) M) ∧ ((a1 = 4) →
  Q (w32 (2 * a2)) M) ∧ ((a1 = 5) →
  Q (w32 (-a2)) M))
set_option maxHeartbeats 4000000 in
set_option maxRecDepth 20000 in
theorem g_X1_turns {n : Nat} {a1 : Int} {a2 : Int} {M : Mem} {Q : Int → Mem → Prop}  (h : B_X1_turns n a1 a2 M Q) : Con (n + 1) md_X1_turns [vI a1, vI a2] M Q := by
  refine Con.ofF (n := n + 1) (Nat.succ_pos n) pl_X1_turns (Nat.le_of_ble_eq_true rfl) (fun X C E hnL => ?_)
  have C : Cx X cX1_turns RX1 n := C
  show WM X 0 [(0, vI a1), (1, vI a2)] [] M
  unfold B_X1_turns at h
  refine m_iload_n C 0 dX1_turns_0 rfl rfl ?_
  by_cases ho : a1 < 1 ∨ 5 < a1
  · have h := h.1 (by omega)
    refine m_tabO C (tgt := 47) dX1_turns_1 ho (by decide) ?_
    refine m_iload_n C 1 dX1_turns_47 rfl rfl ?_
    exact m_iret C E (Or.inl rfl) dX1_turns_48 h
  · obtain hx | hx | hx | hx | hx : a1 = 1 ∨ a1 = 2 ∨ a1 = 3 ∨ a1 = 4 ∨ a1 = 5 := by omega
    · have h := h.2.1 (by omega)
      refine m_tabI C (tgt := 36) dX1_turns_1 (by omega) (by omega) (by rw [hx]; rfl) (by decide) ?_
      refine m_iload_n C 1 dX1_turns_36 rfl rfl ?_
      refine m_iconst C dX1_turns_37 (r32_of rfl) ?_
      refine m_iadd C dX1_turns_38 ?_
      exact m_iret C E (Or.inl rfl) dX1_turns_39 h
    · have h := h.1 (by omega)
      refine m_tabI C (tgt := 47) dX1_turns_1 (by omega) (by omega) (by rw [hx]; rfl) (by decide) ?_
      refine m_iload_n C 1 dX1_turns_47 rfl rfl ?_
      exact m_iret C E (Or.inl rfl) dX1_turns_48 h
    · have h := h.2.1 (by omega)
      refine m_tabI C (tgt := 36) dX1_turns_1 (by omega) (by omega) (by rw [hx]; rfl) (by decide) ?_
      refine m_iload_n C 1 dX1_turns_36 rfl rfl ?_
      refine m_iconst C dX1_turns_37 (r32_of rfl) ?_
      refine m_iadd C dX1_turns_38 ?_
      exact m_iret C E (Or.inl rfl) dX1_turns_39 h
    · have h := h.2.2.1 (by omega)
      refine m_tabI C (tgt := 40) dX1_turns_1 (by omega) (by omega) (by rw [hx]; rfl) (by decide) ?_
      refine m_iconst C dX1_turns_40 (r32_of rfl) ?_
      refine m_iload_n C 1 dX1_turns_41 rfl rfl ?_
      refine m_imul C dX1_turns_42 ?_
      exact m_iret C E (Or.inl rfl) dX1_turns_43 h
    · have h := h.2.2.2 (by omega)
      refine m_tabI C (tgt := 44) dX1_turns_1 (by omega) (by omega) (by rw [hx]; rfl) (by decide) ?_
      refine m_iload_n C 1 dX1_turns_44 rfl rfl ?_
      refine m_ineg C dX1_turns_45 ?_
      exact m_iret C E (Or.inl rfl) dX1_turns_46 h
def B_X1_costs (n : Nat) (a1 : Int) (a2 : Int) (a3 : Int) (M : Mem) (Q : Int → Mem → Prop)  : Prop :=
  (((a1 < 1 ∨ 4 < a1) →
  Q a3 M) ∧ ((a1 = 1) →
  Q (w32 (2 * a3)) M) ∧ ((a1 = 2 ∨ a1 = 4) →
  Q (w32 (Int.tdiv a3 2)) M) ∧ ((a1 = 3) →
  Con n md_J9_max_7cf53 [vI 0, vI (w32 ((w32 (2 * a3)) - a2))] M (fun r1 M2 =>
    Q r1 M2)))
set_option maxHeartbeats 4000000 in
set_option maxRecDepth 20000 in
theorem g_X1_costs {n : Nat} {a1 : Int} {a2 : Int} {a3 : Int} {M : Mem} {Q : Int → Mem → Prop}  (h : B_X1_costs n a1 a2 a3 M Q) : Con (n + 1) md_X1_costs [vI a1, vI a2, vI a3] M Q := by
  refine Con.ofF (n := n + 1) (Nat.succ_pos n) pl_X1_costs (Nat.le_of_ble_eq_true rfl) (fun X C E hnL => ?_)
  have C : Cx X cX1_costs RX1 n := C
  show WM X 0 [(0, vI a1), (1, vI a2), (2, vI a3)] [] M
  unfold B_X1_costs at h
  refine m_iload_n C 0 dX1_costs_0 rfl rfl ?_
  by_cases ho : a1 < 1 ∨ 4 < a1
  · have h := h.1 (by omega)
    refine m_tabO C (tgt := 50) dX1_costs_1 ho (by decide) ?_
    refine m_iload_n C 2 dX1_costs_50 rfl rfl ?_
    exact m_iret C E (Or.inl rfl) dX1_costs_51 h
  · obtain hx | hx | hx | hx : a1 = 1 ∨ a1 = 2 ∨ a1 = 3 ∨ a1 = 4 := by omega
    · have h := h.2.1 (by omega)
      refine m_tabI C (tgt := 32) dX1_costs_1 (by omega) (by omega) (by rw [hx]; rfl) (by decide) ?_
      refine m_iconst C dX1_costs_32 (r32_of rfl) ?_
      refine m_iload_n C 2 dX1_costs_33 rfl rfl ?_
      refine m_imul C dX1_costs_34 ?_
      exact m_iret C E (Or.inl rfl) dX1_costs_35 h
    · have h := h.2.2.1 (by omega)
      refine m_tabI C (tgt := 46) dX1_costs_1 (by omega) (by omega) (by rw [hx]; rfl) (by decide) ?_
      refine m_iload_n C 2 dX1_costs_46 rfl rfl ?_
      refine m_iconst C dX1_costs_47 (r32_of rfl) ?_
      refine m_idiv C dX1_costs_48 (by decide) ?_
      exact m_iret C E (Or.inl rfl) dX1_costs_49 h
    · have h := h.2.2.2 (by omega)
      refine m_tabI C (tgt := 36) dX1_costs_1 (by omega) (by omega) (by rw [hx]; rfl) (by decide) ?_
      refine m_iconst C dX1_costs_36 (r32_of rfl) ?_
      refine m_iconst C dX1_costs_37 (r32_of rfl) ?_
      refine m_iload_n C 2 dX1_costs_38 rfl rfl ?_
      refine m_imul C dX1_costs_39 ?_
      refine m_iload_n C 1 dX1_costs_40 rfl rfl ?_
      refine m_isub C dX1_costs_41 ?_
      refine m_callSi C (as := [vI 0, vI (w32 ((w32 (2 * a3)) - a2))]) (rest := []) ok_J9_max_7cf53 ml_X1_19 rfl rfl (Nat.le_of_ble_eq_true rfl) (fun _ => rfl) dX1_costs_42 (Con.mono h (fun r1 M2 _ _ h => ?_))
      exact m_iret C E (Or.inl rfl) dX1_costs_45 h
    · have h := h.2.2.1 (by omega)
      refine m_tabI C (tgt := 46) dX1_costs_1 (by omega) (by omega) (by rw [hx]; rfl) (by decide) ?_
      refine m_iload_n C 2 dX1_costs_46 rfl rfl ?_
      refine m_iconst C dX1_costs_47 (r32_of rfl) ?_
      refine m_idiv C dX1_costs_48 (by decide) ?_
      exact m_iret C E (Or.inl rfl) dX1_costs_49 h
def B_X1_lasts (n : Nat) (a1 : Int) (a2 : Int) (a3 : Int) (M : Mem) (Q : Int → Mem → Prop)  : Prop :=
  (((a1 < 2 ∨ 5 < a1) →
  Q a3 M) ∧ ((a1 = 2) →
  Q (w32 (2 * a3)) M) ∧ ((a1 = 3) →
  Q (w32 (a3 + 1)) M) ∧ ((a1 = 4) →
  Q (w32 ((w32 (2 * a3)) + a2)) M) ∧ ((a1 = 5) →
  Q 1 M))
set_option maxHeartbeats 4000000 in
set_option maxRecDepth 20000 in
theorem g_X1_lasts {n : Nat} {a1 : Int} {a2 : Int} {a3 : Int} {M : Mem} {Q : Int → Mem → Prop}  (h : B_X1_lasts n a1 a2 a3 M Q) : Con (n + 1) md_X1_lasts [vI a1, vI a2, vI a3] M Q := by
  refine Con.ofF (n := n + 1) (Nat.succ_pos n) pl_X1_lasts (Nat.le_of_ble_eq_true rfl) (fun X C E hnL => ?_)
  have C : Cx X cX1_lasts RX1 n := C
  show WM X 0 [(0, vI a1), (1, vI a2), (2, vI a3)] [] M
  unfold B_X1_lasts at h
  refine m_iload_n C 0 dX1_lasts_0 rfl rfl ?_
  by_cases ho : a1 < 2 ∨ 5 < a1
  · have h := h.1 (by omega)
    refine m_tabO C (tgt := 48) dX1_lasts_1 ho (by decide) ?_
    refine m_iload_n C 2 dX1_lasts_48 rfl rfl ?_
    exact m_iret C E (Or.inl rfl) dX1_lasts_49 h
  · obtain hx | hx | hx | hx : a1 = 2 ∨ a1 = 3 ∨ a1 = 4 ∨ a1 = 5 := by omega
    · have h := h.2.1 (by omega)
      refine m_tabI C (tgt := 32) dX1_lasts_1 (by omega) (by omega) (by rw [hx]; rfl) (by decide) ?_
      refine m_iconst C dX1_lasts_32 (r32_of rfl) ?_
      refine m_iload_n C 2 dX1_lasts_33 rfl rfl ?_
      refine m_imul C dX1_lasts_34 ?_
      exact m_iret C E (Or.inl rfl) dX1_lasts_35 h
    · have h := h.2.2.1 (by omega)
      refine m_tabI C (tgt := 36) dX1_lasts_1 (by omega) (by omega) (by rw [hx]; rfl) (by decide) ?_
      refine m_iload_n C 2 dX1_lasts_36 rfl rfl ?_
      refine m_iconst C dX1_lasts_37 (r32_of rfl) ?_
      refine m_iadd C dX1_lasts_38 ?_
      exact m_iret C E (Or.inl rfl) dX1_lasts_39 h
    · have h := h.2.2.2.1 (by omega)
      refine m_tabI C (tgt := 40) dX1_lasts_1 (by omega) (by omega) (by rw [hx]; rfl) (by decide) ?_
      refine m_iconst C dX1_lasts_40 (r32_of rfl) ?_
      refine m_iload_n C 2 dX1_lasts_41 rfl rfl ?_
      refine m_imul C dX1_lasts_42 ?_
      refine m_iload_n C 1 dX1_lasts_43 rfl rfl ?_
      refine m_iadd C dX1_lasts_44 ?_
      exact m_iret C E (Or.inl rfl) dX1_lasts_45 h
    · have h := h.2.2.2.2 (by omega)
      refine m_tabI C (tgt := 46) dX1_lasts_1 (by omega) (by omega) (by rw [hx]; rfl) (by decide) ?_
      refine m_iconst C dX1_lasts_46 (r32_of rfl) ?_
      exact m_iret C E (Or.inl rfl) dX1_lasts_47 h
def B_X6_add (n : Nat) (a1 : Int) (M : Mem) (Q : Int → Mem → Prop)  : Prop :=
  (((M 15 1) < 160 →
  ((0 ≤ (M 15 1) ∧ (M 15 1) < 160) ∧ (∀ M1 : Mem, M1 = up M 16 (Int.toNat (M 15 1)) a1 →
    (∀ M2 : Mem, M2 = up M1 15 1 (w32 ((M1 15 1) + 1)) →
    Q 1 M2)))) ∧ (¬ (M 15 1) < 160 →
  Q 0 M))
set_option maxHeartbeats 4000000 in
set_option maxRecDepth 20000 in
theorem g_X6_add {n : Nat} {a1 : Int} {M : Mem} {Q : Int → Mem → Prop}  (h : B_X6_add n a1 M Q) : Con (n + 1) md_X6_add [vR 15, vI a1] M Q := by
  refine Con.ofF (n := n + 1) (Nat.succ_pos n) pl_X6_add (Nat.le_of_ble_eq_true rfl) (fun X C E hnL => ?_)
  have C : Cx X cX6_add RX6 n := C
  show WM X 0 [(0, vR 15), (1, vI a1)] [] M
  unfold B_X6_add at h
  refine m_aload_n C 0 dX6_add_0 rfl rfl ?_
  refine m_getI C (k := 1) cl_X6 (by decide) so_15 rfl fl_X6_15 dX6_add_1 ?_
  refine m_sipush C dX6_add_4 (r32_of rfl) (by decide) ?_
  refine m_icmp_lt C (tgt := 12) dX6_add_7 (by decide) (fun e => ?_) (fun e => ?_)
  · have h := h.1 e
    refine m_aload_n C 0 dX6_add_12 rfl rfl ?_
    refine m_getR C (k := 0) cl_X6 (by decide) so_15 rfl fl_X6_9 dX6_add_13 ?_
    refine m_aload_n C 0 dX6_add_16 rfl rfl ?_
    refine m_getI C (k := 1) cl_X6 (by decide) so_15 rfl fl_X6_15 dX6_add_17 ?_
    refine m_iload_n C 1 dX6_add_20 rfl rfl ?_
    refine m_iast C (N := 160) sa_16 h.1 dX6_add_21 ?_
    have h := h.2
    generalize eM1 : up M 16 (Int.toNat (M 15 1)) a1 = M1
    have h := h M1 eM1.symm
    refine m_aload_n C 0 dX6_add_22 rfl rfl ?_
    refine m_dupR C dX6_add_23 ?_
    refine m_getI C (k := 1) cl_X6 (by decide) so_15 rfl fl_X6_15 dX6_add_24 ?_
    refine m_iconst C dX6_add_27 (r32_of rfl) ?_
    refine m_iadd C dX6_add_28 ?_
    refine m_putI C (k := 1) cl_X6 (by decide) so_15 rfl rfl rfl fl_X6_15 dX6_add_29 ?_
    generalize eM2 : up M1 15 1 (w32 ((M1 15 1) + 1)) = M2
    have h := h M2 eM2.symm
    refine m_iconst C dX6_add_32 (r32_of rfl) ?_
    exact m_iret C E (Or.inr ⟨rfl, Or.inr rfl⟩) dX6_add_33 h
  · have h := h.2 e
    refine m_iconst C dX6_add_10 (r32_of rfl) ?_
    exact m_iret C E (Or.inr ⟨rfl, Or.inl rfl⟩) dX6_add_11 h
def B_X6_clear (n : Nat)  (M : Mem) (Q : Int → Mem → Prop)  : Prop :=
  (∀ M1 : Mem, M1 = up M 15 1 0 →
  Q 0 M1)
set_option maxHeartbeats 4000000 in
set_option maxRecDepth 20000 in
theorem g_X6_clear {n : Nat}  {M : Mem} {Q : Int → Mem → Prop}  (h : B_X6_clear n  M Q) : Con (n + 1) md_X6_clear [vR 15] M Q := by
  refine Con.ofF (n := n + 1) (Nat.succ_pos n) pl_X6_clear (Nat.le_of_ble_eq_true rfl) (fun X C E hnL => ?_)
  have C : Cx X cX6_clear RX6 n := C
  show WM X 0 [(0, vR 15)] [] M
  unfold B_X6_clear at h
  refine m_aload_n C 0 dX6_clear_0 rfl rfl ?_
  refine m_iconst C dX6_clear_1 (r32_of rfl) ?_
  refine m_putI C (k := 1) cl_X6 (by decide) so_15 rfl rfl rfl fl_X6_15 dX6_clear_2 ?_
  generalize eM1 : up M 15 1 0 = M1
  have h := h M1 eM1.symm
  exact m_vret C E dX6_clear_5 h
def B_X6_byteAt (n : Nat) (a1 : Int) (M : Mem) (Q : Int → Mem → Prop)  : Prop :=
  ((a1 < 0 →
  Q (-1) M) ∧ (¬ a1 < 0 →
  (((M 15 1) ≤ a1 →
    Q (-1) M) ∧ (¬ (M 15 1) ≤ a1 →
    ((160 < (M 15 1) →
      Q (-1) M) ∧ (¬ 160 < (M 15 1) →
      ((0 ≤ a1 ∧ a1 < 160) ∧ Q (M 16 (Int.toNat a1)) M)))))))
set_option maxHeartbeats 4000000 in
set_option maxRecDepth 20000 in
theorem g_X6_byteAt {n : Nat} {a1 : Int} {M : Mem} {Q : Int → Mem → Prop}  (h : B_X6_byteAt n a1 M Q) : Con (n + 1) md_X6_byteAt [vR 15, vI a1] M Q := by
  refine Con.ofF (n := n + 1) (Nat.succ_pos n) pl_X6_byteAt (Nat.le_of_ble_eq_true rfl) (fun X C E hnL => ?_)
  have C : Cx X cX6_byteAt RX6 n := C
  show WM X 0 [(0, vR 15), (1, vI a1)] [] M
  unfold B_X6_byteAt at h
  refine m_iload_n C 1 dX6_byteAt_0 rfl rfl ?_
  refine m_if_lt C (tgt := 31) dX6_byteAt_1 (by decide) (fun e => ?_) (fun e => ?_)
  · have h := h.1 e
    refine m_iconst C dX6_byteAt_31 (r32_of rfl) ?_
    exact m_iret C E (Or.inl rfl) dX6_byteAt_32 h
  · have h := h.2 e
    refine m_iload_n C 1 dX6_byteAt_4 rfl rfl ?_
    refine m_aload_n C 0 dX6_byteAt_5 rfl rfl ?_
    refine m_getI C (k := 1) cl_X6 (by decide) so_15 rfl fl_X6_15 dX6_byteAt_6 ?_
    refine m_icmp_ge C (tgt := 31) dX6_byteAt_9 (by decide) (fun e => ?_) (fun e => ?_)
    · have h := h.1 e
      refine m_iconst C dX6_byteAt_31 (r32_of rfl) ?_
      exact m_iret C E (Or.inl rfl) dX6_byteAt_32 h
    · have h := h.2 e
      refine m_aload_n C 0 dX6_byteAt_12 rfl rfl ?_
      refine m_getI C (k := 1) cl_X6 (by decide) so_15 rfl fl_X6_15 dX6_byteAt_13 ?_
      refine m_sipush C dX6_byteAt_16 (r32_of rfl) (by decide) ?_
      refine m_icmp_gt C (tgt := 31) dX6_byteAt_19 (by decide) (fun e => ?_) (fun e => ?_)
      · have h := h.1 e
        refine m_iconst C dX6_byteAt_31 (r32_of rfl) ?_
        exact m_iret C E (Or.inl rfl) dX6_byteAt_32 h
      · have h := h.2 e
        refine m_aload_n C 0 dX6_byteAt_22 rfl rfl ?_
        refine m_getR C (k := 0) cl_X6 (by decide) so_15 rfl fl_X6_9 dX6_byteAt_23 ?_
        refine m_iload_n C 1 dX6_byteAt_26 rfl rfl ?_
        refine m_iald C (N := 160) sa_16 h.1 dX6_byteAt_27 ?_
        have h := h.2
        refine m_goto C (tgt := 32) dX6_byteAt_28 (by decide) ?_
        exact m_iret C E (Or.inl rfl) dX6_byteAt_32 h
def B_X5_isNumber (n : Nat) (a1 : Int) (M : Mem) (Q : Int → Mem → Prop)  : Prop :=
  ((a1 < 0 →
  Q 0 M) ∧ (¬ a1 < 0 →
  ((4 ≤ a1 →
    Q 0 M) ∧ (¬ 4 ≤ a1 →
    Q 1 M))))
set_option maxHeartbeats 4000000 in
set_option maxRecDepth 20000 in
theorem g_X5_isNumber {n : Nat} {a1 : Int} {M : Mem} {Q : Int → Mem → Prop}  (h : B_X5_isNumber n a1 M Q) : Con (n + 1) md_X5_isNumber [vI a1] M Q := by
  refine Con.ofF (n := n + 1) (Nat.succ_pos n) pl_X5_isNumber (Nat.le_of_ble_eq_true rfl) (fun X C E hnL => ?_)
  have C : Cx X cX5_isNumber RX5 n := C
  show WM X 0 [(0, vI a1)] [] M
  unfold B_X5_isNumber at h
  refine m_iload_n C 0 dX5_isNumber_0 rfl rfl ?_
  refine m_if_lt C (tgt := 13) dX5_isNumber_1 (by decide) (fun e => ?_) (fun e => ?_)
  · have h := h.1 e
    refine m_iconst C dX5_isNumber_13 (r32_of rfl) ?_
    exact m_iret C E (Or.inr ⟨rfl, Or.inl rfl⟩) dX5_isNumber_14 h
  · have h := h.2 e
    refine m_iload_n C 0 dX5_isNumber_4 rfl rfl ?_
    refine m_iconst C dX5_isNumber_5 (r32_of rfl) ?_
    refine m_icmp_ge C (tgt := 13) dX5_isNumber_6 (by decide) (fun e => ?_) (fun e => ?_)
    · have h := h.1 e
      refine m_iconst C dX5_isNumber_13 (r32_of rfl) ?_
      exact m_iret C E (Or.inr ⟨rfl, Or.inl rfl⟩) dX5_isNumber_14 h
    · have h := h.2 e
      refine m_iconst C dX5_isNumber_9 (r32_of rfl) ?_
      refine m_goto C (tgt := 14) dX5_isNumber_10 (by decide) ?_
      exact m_iret C E (Or.inr ⟨rfl, Or.inr rfl⟩) dX5_isNumber_14 h
def B_X5_isSort (n : Nat) (a1 : Int) (M : Mem) (Q : Int → Mem → Prop)  : Prop :=
  ((a1 < 0 →
  Q 0 M) ∧ (¬ a1 < 0 →
  ((2 < a1 →
    Q 0 M) ∧ (¬ 2 < a1 →
    Q 1 M))))
set_option maxHeartbeats 4000000 in
set_option maxRecDepth 20000 in
theorem g_X5_isSort {n : Nat} {a1 : Int} {M : Mem} {Q : Int → Mem → Prop}  (h : B_X5_isSort n a1 M Q) : Con (n + 1) md_X5_isSort [vI a1] M Q := by
  refine Con.ofF (n := n + 1) (Nat.succ_pos n) pl_X5_isSort (Nat.le_of_ble_eq_true rfl) (fun X C E hnL => ?_)
  have C : Cx X cX5_isSort RX5 n := C
  show WM X 0 [(0, vI a1)] [] M
  unfold B_X5_isSort at h
  refine m_iload_n C 0 dX5_isSort_0 rfl rfl ?_
  refine m_if_lt C (tgt := 13) dX5_isSort_1 (by decide) (fun e => ?_) (fun e => ?_)
  · have h := h.1 e
    refine m_iconst C dX5_isSort_13 (r32_of rfl) ?_
    exact m_iret C E (Or.inr ⟨rfl, Or.inl rfl⟩) dX5_isSort_14 h
  · have h := h.2 e
    refine m_iload_n C 0 dX5_isSort_4 rfl rfl ?_
    refine m_iconst C dX5_isSort_5 (r32_of rfl) ?_
    refine m_icmp_gt C (tgt := 13) dX5_isSort_6 (by decide) (fun e => ?_) (fun e => ?_)
    · have h := h.1 e
      refine m_iconst C dX5_isSort_13 (r32_of rfl) ?_
      exact m_iret C E (Or.inr ⟨rfl, Or.inl rfl⟩) dX5_isSort_14 h
    · have h := h.2 e
      refine m_iconst C dX5_isSort_9 (r32_of rfl) ?_
      refine m_goto C (tgt := 14) dX5_isSort_10 (by decide) ?_
      exact m_iret C E (Or.inr ⟨rfl, Or.inr rfl⟩) dX5_isSort_14 h
def B_X5_isMissing (n : Nat) (a1 : Int) (M : Mem) (Q : Int → Mem → Prop)  : Prop :=
  Con n md_X5_isNumber [vI a1] M (fun r1 M2 =>
  ((r1 = 0 →
  Q 1 M2) ∧ (¬ r1 = 0 →
  ((0 ≤ a1 ∧ a1 < 4) ∧ (((M2 44 (Int.toNat a1)) = (-1) →
    Q 1 M2) ∧ (¬ (M2 44 (Int.toNat a1)) = (-1) →
    Q 0 M2))))))
set_option maxHeartbeats 4000000 in
set_option maxRecDepth 20000 in
theorem g_X5_isMissing {n : Nat} {a1 : Int} {M : Mem} {Q : Int → Mem → Prop}  (h : B_X5_isMissing n a1 M Q) : Con (n + 1) md_X5_isMissing [vR 43, vI a1] M Q := by
  refine Con.ofF (n := n + 1) (Nat.succ_pos n) pl_X5_isMissing (Nat.le_of_ble_eq_true rfl) (fun X C E hnL => ?_)
  have C : Cx X cX5_isMissing RX5 n := C
  show WM X 0 [(0, vR 43), (1, vI a1)] [] M
  unfold B_X5_isMissing at h
  refine m_iload_n C 1 dX5_isMissing_0 rfl rfl ?_
  refine m_callSi C (as := [vI a1]) (rest := []) ok_X5_isNumber ml_X5_21 rfl rfl (Nat.le_of_ble_eq_true rfl) (fun _ => rfl) dX5_isMissing_1 (Con.mono h (fun r1 M2 _ _ h => ?_))
  refine m_if_eq C (tgt := 17) dX5_isMissing_4 (by decide) (fun e => ?_) (fun e => ?_)
  · have h := h.1 e
    refine m_iconst C dX5_isMissing_17 (r32_of rfl) ?_
    refine m_goto C (tgt := 22) dX5_isMissing_18 (by decide) ?_
    exact m_iret C E (Or.inr ⟨rfl, Or.inr rfl⟩) dX5_isMissing_22 h
  · have h := h.2 e
    refine m_aload_n C 0 dX5_isMissing_7 rfl rfl ?_
    refine m_getR C (k := 0) cl_X5 (by decide) so_43 rfl fl_X5_9 dX5_isMissing_8 ?_
    refine m_iload_n C 1 dX5_isMissing_11 rfl rfl ?_
    refine m_iald C (N := 4) sa_44 h.1 dX5_isMissing_12 ?_
    have h := h.2
    refine m_iconst C dX5_isMissing_13 (r32_of rfl) ?_
    refine m_icmp_ne C (tgt := 21) dX5_isMissing_14 (by decide) (fun e => ?_) (fun e => ?_)
    · have h := h.2 e
      refine m_iconst C dX5_isMissing_21 (r32_of rfl) ?_
      exact m_iret C E (Or.inr ⟨rfl, Or.inl rfl⟩) dX5_isMissing_22 h
    · have h := h.1 e
      refine m_iconst C dX5_isMissing_17 (r32_of rfl) ?_
      refine m_goto C (tgt := 22) dX5_isMissing_18 (by decide) ?_
      exact m_iret C E (Or.inr ⟨rfl, Or.inr rfl⟩) dX5_isMissing_22 h
def B_X5_hasItem (n : Nat) (a1 : Int) (a2 : Int) (M : Mem) (Q : Int → Mem → Prop)  : Prop :=
  Con n md_X5_isNumber [vI a1] M (fun r1 M2 =>
  ((r1 = 0 →
  Q 0 M2) ∧ (¬ r1 = 0 →
  ((a2 < 0 →
    Q 0 M2) ∧ (¬ a2 < 0 →
    ((0 ≤ a1 ∧ a1 < 4) ∧ (((M2 45 (Int.toNat a1)) ≤ a2 →
      Q 0 M2) ∧ (¬ (M2 45 (Int.toNat a1)) ≤ a2 →
      ((40 ≤ a2 →
        Q 0 M2) ∧ (¬ 40 ≤ a2 →
        Q 1 M2))))))))))
set_option maxHeartbeats 4000000 in
set_option maxRecDepth 20000 in
theorem g_X5_hasItem {n : Nat} {a1 : Int} {a2 : Int} {M : Mem} {Q : Int → Mem → Prop}  (h : B_X5_hasItem n a1 a2 M Q) : Con (n + 1) md_X5_hasItem [vR 43, vI a1, vI a2] M Q := by
  refine Con.ofF (n := n + 1) (Nat.succ_pos n) pl_X5_hasItem (Nat.le_of_ble_eq_true rfl) (fun X C E hnL => ?_)
  have C : Cx X cX5_hasItem RX5 n := C
  show WM X 0 [(0, vR 43), (1, vI a1), (2, vI a2)] [] M
  unfold B_X5_hasItem at h
  refine m_iload_n C 1 dX5_hasItem_0 rfl rfl ?_
  refine m_callSi C (as := [vI a1]) (rest := []) ok_X5_isNumber ml_X5_21 rfl rfl (Nat.le_of_ble_eq_true rfl) (fun _ => rfl) dX5_hasItem_1 (Con.mono h (fun r1 M2 _ _ h => ?_))
  refine m_if_eq C (tgt := 31) dX5_hasItem_4 (by decide) (fun e => ?_) (fun e => ?_)
  · have h := h.1 e
    refine m_iconst C dX5_hasItem_31 (r32_of rfl) ?_
    exact m_iret C E (Or.inr ⟨rfl, Or.inl rfl⟩) dX5_hasItem_32 h
  · have h := h.2 e
    refine m_iload_n C 2 dX5_hasItem_7 rfl rfl ?_
    refine m_if_lt C (tgt := 31) dX5_hasItem_8 (by decide) (fun e => ?_) (fun e => ?_)
    · have h := h.1 e
      refine m_iconst C dX5_hasItem_31 (r32_of rfl) ?_
      exact m_iret C E (Or.inr ⟨rfl, Or.inl rfl⟩) dX5_hasItem_32 h
    · have h := h.2 e
      refine m_iload_n C 2 dX5_hasItem_11 rfl rfl ?_
      refine m_aload_n C 0 dX5_hasItem_12 rfl rfl ?_
      refine m_getR C (k := 1) cl_X5 (by decide) so_43 rfl fl_X5_13 dX5_hasItem_13 ?_
      refine m_iload_n C 1 dX5_hasItem_16 rfl rfl ?_
      refine m_iald C (N := 4) sa_45 h.1 dX5_hasItem_17 ?_
      have h := h.2
      refine m_icmp_ge C (tgt := 31) dX5_hasItem_18 (by decide) (fun e => ?_) (fun e => ?_)
      · have h := h.1 e
        refine m_iconst C dX5_hasItem_31 (r32_of rfl) ?_
        exact m_iret C E (Or.inr ⟨rfl, Or.inl rfl⟩) dX5_hasItem_32 h
      · have h := h.2 e
        refine m_iload_n C 2 dX5_hasItem_21 rfl rfl ?_
        refine m_bipush C dX5_hasItem_22 (r32_of rfl) (by decide) ?_
        refine m_icmp_ge C (tgt := 31) dX5_hasItem_24 (by decide) (fun e => ?_) (fun e => ?_)
        · have h := h.1 e
          refine m_iconst C dX5_hasItem_31 (r32_of rfl) ?_
          exact m_iret C E (Or.inr ⟨rfl, Or.inl rfl⟩) dX5_hasItem_32 h
        · have h := h.2 e
          refine m_iconst C dX5_hasItem_27 (r32_of rfl) ?_
          refine m_goto C (tgt := 32) dX5_hasItem_28 (by decide) ?_
          exact m_iret C E (Or.inr ⟨rfl, Or.inr rfl⟩) dX5_hasItem_32 h
def B_X5_hasItems (n : Nat) (a1 : Int) (a2 : Int) (a3 : Int) (M : Mem) (Q : Int → Mem → Prop)  : Prop :=
  Con n md_X5_isNumber [vI a1] M (fun r1 M2 =>
  ((r1 = 0 →
  Q 0 M2) ∧ (¬ r1 = 0 →
  ((a2 < 0 →
    Q 0 M2) ∧ (¬ a2 < 0 →
    ((a3 < 0 →
      Q 0 M2) ∧ (¬ a3 < 0 →
      ((0 ≤ a1 ∧ a1 < 4) ∧ (((w32 ((M2 45 (Int.toNat a1)) - a3)) < a2 →
        Q 0 M2) ∧ (¬ (w32 ((M2 45 (Int.toNat a1)) - a3)) < a2 →
        Q 1 M2))))))))))
set_option maxHeartbeats 4000000 in
set_option maxRecDepth 20000 in
theorem g_X5_hasItems {n : Nat} {a1 : Int} {a2 : Int} {a3 : Int} {M : Mem} {Q : Int → Mem → Prop}  (h : B_X5_hasItems n a1 a2 a3 M Q) : Con (n + 1) md_X5_hasItems [vR 43, vI a1, vI a2, vI a3] M Q := by
  refine Con.ofF (n := n + 1) (Nat.succ_pos n) pl_X5_hasItems (Nat.le_of_ble_eq_true rfl) (fun X C E hnL => ?_)
  have C : Cx X cX5_hasItems RX5 n := C
  show WM X 0 [(0, vR 43), (1, vI a1), (2, vI a2), (3, vI a3)] [] M
  unfold B_X5_hasItems at h
  refine m_iload_n C 1 dX5_hasItems_0 rfl rfl ?_
  refine m_callSi C (as := [vI a1]) (rest := []) ok_X5_isNumber ml_X5_21 rfl rfl (Nat.le_of_ble_eq_true rfl) (fun _ => rfl) dX5_hasItems_1 (Con.mono h (fun r1 M2 _ _ h => ?_))
  refine m_if_eq C (tgt := 31) dX5_hasItems_4 (by decide) (fun e => ?_) (fun e => ?_)
  · have h := h.1 e
    refine m_iconst C dX5_hasItems_31 (r32_of rfl) ?_
    exact m_iret C E (Or.inr ⟨rfl, Or.inl rfl⟩) dX5_hasItems_32 h
  · have h := h.2 e
    refine m_iload_n C 2 dX5_hasItems_7 rfl rfl ?_
    refine m_if_lt C (tgt := 31) dX5_hasItems_8 (by decide) (fun e => ?_) (fun e => ?_)
    · have h := h.1 e
      refine m_iconst C dX5_hasItems_31 (r32_of rfl) ?_
      exact m_iret C E (Or.inr ⟨rfl, Or.inl rfl⟩) dX5_hasItems_32 h
    · have h := h.2 e
      refine m_iload_n C 3 dX5_hasItems_11 rfl rfl ?_
      refine m_if_lt C (tgt := 31) dX5_hasItems_12 (by decide) (fun e => ?_) (fun e => ?_)
      · have h := h.1 e
        refine m_iconst C dX5_hasItems_31 (r32_of rfl) ?_
        exact m_iret C E (Or.inr ⟨rfl, Or.inl rfl⟩) dX5_hasItems_32 h
      · have h := h.2 e
        refine m_iload_n C 2 dX5_hasItems_15 rfl rfl ?_
        refine m_aload_n C 0 dX5_hasItems_16 rfl rfl ?_
        refine m_getR C (k := 1) cl_X5 (by decide) so_43 rfl fl_X5_13 dX5_hasItems_17 ?_
        refine m_iload_n C 1 dX5_hasItems_20 rfl rfl ?_
        refine m_iald C (N := 4) sa_45 h.1 dX5_hasItems_21 ?_
        have h := h.2
        refine m_iload_n C 3 dX5_hasItems_22 rfl rfl ?_
        refine m_isub C dX5_hasItems_23 ?_
        refine m_icmp_gt C (tgt := 31) dX5_hasItems_24 (by decide) (fun e => ?_) (fun e => ?_)
        · have h := h.1 e
          refine m_iconst C dX5_hasItems_31 (r32_of rfl) ?_
          exact m_iret C E (Or.inr ⟨rfl, Or.inl rfl⟩) dX5_hasItems_32 h
        · have h := h.2 e
          refine m_iconst C dX5_hasItems_27 (r32_of rfl) ?_
          refine m_goto C (tgt := 32) dX5_hasItems_28 (by decide) ?_
          exact m_iret C E (Or.inr ⟨rfl, Or.inr rfl⟩) dX5_hasItems_32 h
def B_X5_itemAt (n : Nat) (a1 : Int) (a2 : Int) (M : Mem) (Q : Int → Mem → Prop)  : Prop :=
  Con n md_X5_hasItem [vR 43, vI a1, vI a2] M (fun r1 M2 =>
  ((r1 = 0 →
  Q 0 M2) ∧ (¬ r1 = 0 →
  ((0 ≤ a1 ∧ a1 < 4) ∧ ((0 ≤ a2 ∧ a2 < 40) ∧ Q (M2 (47 + Int.toNat a1) (Int.toNat a2)) M2)))))
set_option maxHeartbeats 4000000 in
set_option maxRecDepth 20000 in
theorem g_X5_itemAt {n : Nat} {a1 : Int} {a2 : Int} {M : Mem} {Q : Int → Mem → Prop}  (h : B_X5_itemAt n a1 a2 M Q) : Con (n + 1) md_X5_itemAt [vR 43, vI a1, vI a2] M Q := by
  refine Con.ofF (n := n + 1) (Nat.succ_pos n) pl_X5_itemAt (Nat.le_of_ble_eq_true rfl) (fun X C E hnL => ?_)
  have C : Cx X cX5_itemAt RX5 n := C
  show WM X 0 [(0, vR 43), (1, vI a1), (2, vI a2)] [] M
  unfold B_X5_itemAt at h
  refine m_aload_n C 0 dX5_itemAt_0 rfl rfl ?_
  refine m_iload_n C 1 dX5_itemAt_1 rfl rfl ?_
  refine m_iload_n C 2 dX5_itemAt_2 rfl rfl ?_
  refine m_callVi C (as := [vI a1, vI a2]) (rest := []) ok_X5_hasItem ml_X5_25 so_43 rfl rfl rfl (Nat.le_of_ble_eq_true rfl) (fun _ => rfl) dX5_itemAt_3 (Con.mono h (fun r1 M2 _ _ h => ?_))
  refine m_if_eq C (tgt := 20) dX5_itemAt_6 (by decide) (fun e => ?_) (fun e => ?_)
  · have h := h.1 e
    refine m_iconst C dX5_itemAt_20 (r32_of rfl) ?_
    exact m_iret C E (Or.inl rfl) dX5_itemAt_21 h
  · have h := h.2 e
    refine m_aload_n C 0 dX5_itemAt_9 rfl rfl ?_
    refine m_getR C (k := 2) cl_X5 (by decide) so_43 rfl fl_X5_18 dX5_itemAt_10 ?_
    refine m_iload_n C 1 dX5_itemAt_13 rfl rfl ?_
    have hg3 := h.1
    refine m_aald C gr_46 h.1 (grp_46 h.1) dX5_itemAt_14 ?_
    have h := h.2
    refine m_iload_n C 2 dX5_itemAt_15 rfl rfl ?_
    refine m_iald C (N := 40) (gri_46 hg3) h.1 dX5_itemAt_16 ?_
    have h := h.2
    refine m_goto C (tgt := 21) dX5_itemAt_17 (by decide) ?_
    exact m_iret C E (Or.inl rfl) dX5_itemAt_21 h
def B_X5_become_35 (n : Nat) (a1 : Int) (a2 : Int) (a3 : Int) (x4 : Int) (M : Mem) (Q : Int → Mem → Prop) (K35 : Int → Mem → Prop) : Prop :=
  ((40 ≤ x4 →
  Q 0 M) ∧ (¬ 40 ≤ x4 →
  ((0 ≤ a1 ∧ a1 < 4) ∧ ((0 ≤ x4 ∧ x4 < 40) ∧ (∀ M2 : Mem, M2 = up M (47 + Int.toNat a1) (Int.toNat x4) 0 →
    K35 (w32 (x4 + 1)) M2)))))
def B_X5_become (n : Nat) (a1 : Int) (a2 : Int) (a3 : Int) (M : Mem) (Q : Int → Mem → Prop) (K35 : Int → Mem → Prop) : Prop :=
  Con n md_X5_isNumber [vI a1] M (fun r3 M4 =>
  ((r3 = 0 →
  Q 0 M4) ∧ (¬ r3 = 0 →
  ((a3 < 0 →
    Q 0 M4) ∧ (¬ a3 < 0 →
    ((a3 ≤ 40 →
      ((0 ≤ a1 ∧ a1 < 4) ∧ (∀ M5 : Mem, M5 = up M4 44 (Int.toNat a1) a2 →
        ((0 ≤ a1 ∧ a1 < 4) ∧ (∀ M6 : Mem, M6 = up M5 45 (Int.toNat a1) a3 →
        K35 0 M6))))) ∧ (¬ a3 ≤ 40 →
      Q 0 M4)))))))
set_option maxHeartbeats 4000000 in
set_option maxRecDepth 20000 in
theorem g_X5_become {n : Nat} {a1 : Int} {a2 : Int} {a3 : Int} {M : Mem} {Q : Int → Mem → Prop}  (h : ∀ (K35 : Int → Mem → Prop), (∀ (x4 : Int) (M : Mem), B_X5_become_35 n a1 a2 a3 x4 M Q K35 → K35 x4 M) → B_X5_become n a1 a2 a3 M Q K35) : Con (n + 1) md_X5_become [vR 43, vI a1, vI a2, vI a3] M Q := by
  refine Con.ofF (n := n + 1) (Nat.succ_pos n) pl_X5_become (Nat.le_of_ble_eq_true rfl) (fun X C E hnL => ?_)
  have C : Cx X cX5_become RX5 n := C
  show WM X 0 [(0, vR 43), (1, vI a1), (2, vI a2), (3, vI a3)] [] M
  have hb35 : ∀ (x4 : Int) (M : Mem), B_X5_become_35 n a1 a2 a3 x4 M Q (fun (x4 : Int) (M : Mem) => WM X 35 [(0, vR 43), (1, vI a1), (2, vI a2), (3, vI a3), (4, vI x4)] [] M) → WM X 35 [(0, vR 43), (1, vI a1), (2, vI a2), (3, vI a3), (4, vI x4)] [] M := by
    intro x4 M h
    unfold B_X5_become_35 at h
    refine m_iload C 4 dX5_become_35 rfl ?_
    refine m_bipush C dX5_become_37 (r32_of rfl) (by decide) ?_
    refine m_icmp_ge C (tgt := 58) dX5_become_39 (by decide) (fun e => ?_) (fun e => ?_)
    · have h := h.1 e
      exact m_vret C E dX5_become_58 h
    · have h := h.2 e
      refine m_aload_n C 0 dX5_become_42 rfl rfl ?_
      refine m_getR C (k := 2) cl_X5 (by decide) so_43 rfl fl_X5_18 dX5_become_43 ?_
      refine m_iload_n C 1 dX5_become_46 rfl rfl ?_
      have hg1 := h.1
      refine m_aald C gr_46 h.1 (grp_46 h.1) dX5_become_47 ?_
      have h := h.2
      refine m_iload C 4 dX5_become_48 rfl ?_
      refine m_iconst C dX5_become_50 (r32_of rfl) ?_
      refine m_iast C (N := 40) (gri_46 hg1) h.1 dX5_become_51 ?_
      have h := h.2
      generalize eM2 : up M (47 + Int.toNat a1) (Int.toNat x4) 0 = M2
      have h := h M2 eM2.symm
      refine m_iinc C (L' := [(4, vI (w32 (x4 + 1))), (0, vR 43), (1, vI a1), (2, vI a2), (3, vI a3)]) 4 dX5_become_52 rfl (by rw [hnL]; decide) rfl ?_
      refine m_goto C (tgt := 35) dX5_become_55 (by decide) ?_
      exact m_sub [1, 2, 3, 4, 0] rfl h
  have h := h (fun (x4 : Int) (M : Mem) => WM X 35 [(0, vR 43), (1, vI a1), (2, vI a2), (3, vI a3), (4, vI x4)] [] M) hb35
  unfold B_X5_become at h
  refine m_iload_n C 1 dX5_become_0 rfl rfl ?_
  refine m_callSi C (as := [vI a1]) (rest := []) ok_X5_isNumber ml_X5_21 rfl rfl (Nat.le_of_ble_eq_true rfl) (fun _ => rfl) dX5_become_1 (Con.mono h (fun r3 M4 _ _ h => ?_))
  refine m_if_eq C (tgt := 17) dX5_become_4 (by decide) (fun e => ?_) (fun e => ?_)
  · have h := h.1 e
    exact m_vret C E dX5_become_17 h
  · have h := h.2 e
    refine m_iload_n C 3 dX5_become_7 rfl rfl ?_
    refine m_if_lt C (tgt := 17) dX5_become_8 (by decide) (fun e => ?_) (fun e => ?_)
    · have h := h.1 e
      exact m_vret C E dX5_become_17 h
    · have h := h.2 e
      refine m_iload_n C 3 dX5_become_11 rfl rfl ?_
      refine m_bipush C dX5_become_12 (r32_of rfl) (by decide) ?_
      refine m_icmp_le C (tgt := 18) dX5_become_14 (by decide) (fun e => ?_) (fun e => ?_)
      · have h := h.1 e
        refine m_aload_n C 0 dX5_become_18 rfl rfl ?_
        refine m_getR C (k := 0) cl_X5 (by decide) so_43 rfl fl_X5_9 dX5_become_19 ?_
        refine m_iload_n C 1 dX5_become_22 rfl rfl ?_
        refine m_iload_n C 2 dX5_become_23 rfl rfl ?_
        refine m_iast C (N := 4) sa_44 h.1 dX5_become_24 ?_
        have h := h.2
        generalize eM5 : up M4 44 (Int.toNat a1) a2 = M5
        have h := h M5 eM5.symm
        refine m_aload_n C 0 dX5_become_25 rfl rfl ?_
        refine m_getR C (k := 1) cl_X5 (by decide) so_43 rfl fl_X5_13 dX5_become_26 ?_
        refine m_iload_n C 1 dX5_become_29 rfl rfl ?_
        refine m_iload_n C 3 dX5_become_30 rfl rfl ?_
        refine m_iast C (N := 4) sa_45 h.1 dX5_become_31 ?_
        have h := h.2
        generalize eM6 : up M5 45 (Int.toNat a1) a3 = M6
        have h := h M6 eM6.symm
        refine m_iconst C dX5_become_32 (r32_of rfl) ?_
        refine m_istore C (L' := [(4, vI 0), (0, vR 43), (1, vI a1), (2, vI a2), (3, vI a3)]) dX5_become_33 (by rw [hnL]; decide) rfl ?_
        exact m_sub [1, 2, 3, 4, 0] rfl h
      · have h := h.2 e
        exact m_vret C E dX5_become_17 h
def B_X5_write (n : Nat) (a1 : Int) (a2 : Int) (a3 : Int) (M : Mem) (Q : Int → Mem → Prop)  : Prop :=
  Con n md_X5_hasItem [vR 43, vI a1, vI a2] M (fun r1 M2 =>
  ((r1 = 0 →
  Q 0 M2) ∧ (¬ r1 = 0 →
  ((0 ≤ a1 ∧ a1 < 4) ∧ ((0 ≤ a1 ∧ a1 < 4) ∧ (((M2 44 (Int.toNat a1)) = 0 →
    ((0 ≤ a2 ∧ a2 < 40) ∧ (∀ M6 : Mem, M6 = up M2 (47 + Int.toNat a1) (Int.toNat a2) (t_b a3) →
      Q 0 M6))) ∧ (¬ (M2 44 (Int.toNat a1)) = 0 →
    (((M2 44 (Int.toNat a1)) = 1 →
      ((0 ≤ a2 ∧ a2 < 40) ∧ (∀ M5 : Mem, M5 = up M2 (47 + Int.toNat a1) (Int.toNat a2) (t_s a3) →
        Q 0 M5))) ∧ (¬ (M2 44 (Int.toNat a1)) = 1 →
      ((0 ≤ a2 ∧ a2 < 40) ∧ (∀ M4 : Mem, M4 = up M2 (47 + Int.toNat a1) (Int.toNat a2) a3 →
        Q 0 M4)))))))))))
set_option maxHeartbeats 4000000 in
set_option maxRecDepth 20000 in
theorem g_X5_write {n : Nat} {a1 : Int} {a2 : Int} {a3 : Int} {M : Mem} {Q : Int → Mem → Prop}  (h : B_X5_write n a1 a2 a3 M Q) : Con (n + 1) md_X5_write [vR 43, vI a1, vI a2, vI a3] M Q := by
  refine Con.ofF (n := n + 1) (Nat.succ_pos n) pl_X5_write (Nat.le_of_ble_eq_true rfl) (fun X C E hnL => ?_)
  have C : Cx X cX5_write RX5 n := C
  show WM X 0 [(0, vR 43), (1, vI a1), (2, vI a2), (3, vI a3)] [] M
  unfold B_X5_write at h
  refine m_aload_n C 0 dX5_write_0 rfl rfl ?_
  refine m_iload_n C 1 dX5_write_1 rfl rfl ?_
  refine m_iload_n C 2 dX5_write_2 rfl rfl ?_
  refine m_callVi C (as := [vI a1, vI a2]) (rest := []) ok_X5_hasItem ml_X5_25 so_43 rfl rfl rfl (Nat.le_of_ble_eq_true rfl) (fun _ => rfl) dX5_write_3 (Con.mono h (fun r1 M2 _ _ h => ?_))
  refine m_if_eq C (tgt := 47) dX5_write_6 (by decide) (fun e => ?_) (fun e => ?_)
  · have h := h.1 e
    exact m_vret C E dX5_write_47 h
  · have h := h.2 e
    refine m_aload_n C 0 dX5_write_9 rfl rfl ?_
    refine m_getR C (k := 0) cl_X5 (by decide) so_43 rfl fl_X5_9 dX5_write_10 ?_
    refine m_iload_n C 1 dX5_write_13 rfl rfl ?_
    refine m_iald C (N := 4) sa_44 h.1 dX5_write_14 ?_
    have h := h.2
    refine m_istore C (L' := [(4, vI (M2 44 (Int.toNat a1))), (0, vR 43), (1, vI a1), (2, vI a2), (3, vI a3)]) dX5_write_15 (by rw [hnL]; decide) rfl ?_
    refine m_aload_n C 1 dX5_write_17 rfl rfl ?_
    refine m_getR C (k := 2) cl_X5 (by decide) so_43 rfl fl_X5_18 dX5_write_18 ?_
    refine m_iload_n C 2 dX5_write_21 rfl rfl ?_
    have hg3 := h.1
    refine m_aald C gr_46 h.1 (grp_46 h.1) dX5_write_22 ?_
    have h := h.2
    refine m_iload_n C 3 dX5_write_23 rfl rfl ?_
    refine m_iload C 0 dX5_write_24 rfl ?_
    refine m_if_ne C (tgt := 34) dX5_write_26 (by decide) (fun e => ?_) (fun e => ?_)
    · have h := h.2 e
      refine m_iload C 0 dX5_write_34 rfl ?_
      refine m_iconst C dX5_write_36 (r32_of rfl) ?_
      refine m_icmp_ne C (tgt := 45) dX5_write_37 (by decide) (fun e => ?_) (fun e => ?_)
      · have h := h.2 e
        refine m_iload_n C 4 dX5_write_45 rfl rfl ?_
        refine m_iast C (N := 40) (gri_46 hg3) h.1 dX5_write_46 ?_
        have h := h.2
        generalize eM4 : up M2 (47 + Int.toNat a1) (Int.toNat a2) a3 = M4
        have h := h M4 eM4.symm
        exact m_vret C E dX5_write_47 h
      · have h := h.1 e
        refine m_iload_n C 4 dX5_write_40 rfl rfl ?_
        refine m_i2s C dX5_write_41 ?_
        refine m_goto C (tgt := 46) dX5_write_42 (by decide) ?_
        refine m_iast C (N := 40) (gri_46 hg3) h.1 dX5_write_46 ?_
        have h := h.2
        generalize eM5 : up M2 (47 + Int.toNat a1) (Int.toNat a2) (t_s a3) = M5
        have h := h M5 eM5.symm
        exact m_vret C E dX5_write_47 h
    · have h := h.1 e
      refine m_iload_n C 4 dX5_write_29 rfl rfl ?_
      refine m_i2b C dX5_write_30 ?_
      refine m_goto C (tgt := 46) dX5_write_31 (by decide) ?_
      refine m_iast C (N := 40) (gri_46 hg3) h.1 dX5_write_46 ?_
      have h := h.2
      generalize eM6 : up M2 (47 + Int.toNat a1) (Int.toNat a2) (t_b a3) = M6
      have h := h M6 eM6.symm
      exact m_vret C E dX5_write_47 h
def B_X0_hasFlower (n : Nat) (a1 : Int) (M : Mem) (Q : Int → Mem → Prop)  : Prop :=
  ((a1 < 0 →
  Q 0 M) ∧ (¬ a1 < 0 →
  (((M 1 3) ≤ a1 →
    Q 0 M) ∧ (¬ (M 1 3) ≤ a1 →
    Q 1 M))))
set_option maxHeartbeats 4000000 in
set_option maxRecDepth 20000 in
theorem g_X0_hasFlower {n : Nat} {a1 : Int} {M : Mem} {Q : Int → Mem → Prop}  (h : B_X0_hasFlower n a1 M Q) : Con (n + 1) md_X0_hasFlower [vR 1, vI a1] M Q := by
  refine Con.ofF (n := n + 1) (Nat.succ_pos n) pl_X0_hasFlower (Nat.le_of_ble_eq_true rfl) (fun X C E hnL => ?_)
  have C : Cx X cX0_hasFlower RX0 n := C
  show WM X 0 [(0, vR 1), (1, vI a1)] [] M
  unfold B_X0_hasFlower at h
  refine m_iload_n C 1 dX0_hasFlower_0 rfl rfl ?_
  refine m_if_lt C (tgt := 16) dX0_hasFlower_1 (by decide) (fun e => ?_) (fun e => ?_)
  · have h := h.1 e
    refine m_iconst C dX0_hasFlower_16 (r32_of rfl) ?_
    exact m_iret C E (Or.inr ⟨rfl, Or.inl rfl⟩) dX0_hasFlower_17 h
  · have h := h.2 e
    refine m_iload_n C 1 dX0_hasFlower_4 rfl rfl ?_
    refine m_aload_n C 0 dX0_hasFlower_5 rfl rfl ?_
    refine m_getI C (k := 3) cl_X0 (by decide) so_1 rfl fl_X0_21 dX0_hasFlower_6 ?_
    refine m_icmp_ge C (tgt := 16) dX0_hasFlower_9 (by decide) (fun e => ?_) (fun e => ?_)
    · have h := h.1 e
      refine m_iconst C dX0_hasFlower_16 (r32_of rfl) ?_
      exact m_iret C E (Or.inr ⟨rfl, Or.inl rfl⟩) dX0_hasFlower_17 h
    · have h := h.2 e
      refine m_iconst C dX0_hasFlower_12 (r32_of rfl) ?_
      refine m_goto C (tgt := 17) dX0_hasFlower_13 (by decide) ?_
      exact m_iret C E (Or.inr ⟨rfl, Or.inr rfl⟩) dX0_hasFlower_17 h
def B_X0_hasStem (n : Nat) (a1 : Int) (M : Mem) (Q : Int → Mem → Prop)  : Prop :=
  ((a1 < 0 →
  Q 0 M) ∧ (¬ a1 < 0 →
  (((M 1 8) ≤ a1 →
    Q 0 M) ∧ (¬ (M 1 8) ≤ a1 →
    Q 1 M))))
set_option maxHeartbeats 4000000 in
set_option maxRecDepth 20000 in
theorem g_X0_hasStem {n : Nat} {a1 : Int} {M : Mem} {Q : Int → Mem → Prop}  (h : B_X0_hasStem n a1 M Q) : Con (n + 1) md_X0_hasStem [vR 1, vI a1] M Q := by
  refine Con.ofF (n := n + 1) (Nat.succ_pos n) pl_X0_hasStem (Nat.le_of_ble_eq_true rfl) (fun X C E hnL => ?_)
  have C : Cx X cX0_hasStem RX0 n := C
  show WM X 0 [(0, vR 1), (1, vI a1)] [] M
  unfold B_X0_hasStem at h
  refine m_iload_n C 1 dX0_hasStem_0 rfl rfl ?_
  refine m_if_lt C (tgt := 16) dX0_hasStem_1 (by decide) (fun e => ?_) (fun e => ?_)
  · have h := h.1 e
    refine m_iconst C dX0_hasStem_16 (r32_of rfl) ?_
    exact m_iret C E (Or.inr ⟨rfl, Or.inl rfl⟩) dX0_hasStem_17 h
  · have h := h.2 e
    refine m_iload_n C 1 dX0_hasStem_4 rfl rfl ?_
    refine m_aload_n C 0 dX0_hasStem_5 rfl rfl ?_
    refine m_getI C (k := 8) cl_X0 (by decide) so_1 rfl fl_X0_37 dX0_hasStem_6 ?_
    refine m_icmp_ge C (tgt := 16) dX0_hasStem_9 (by decide) (fun e => ?_) (fun e => ?_)
    · have h := h.1 e
      refine m_iconst C dX0_hasStem_16 (r32_of rfl) ?_
      exact m_iret C E (Or.inr ⟨rfl, Or.inl rfl⟩) dX0_hasStem_17 h
    · have h := h.2 e
      refine m_iconst C dX0_hasStem_12 (r32_of rfl) ?_
      refine m_goto C (tgt := 17) dX0_hasStem_13 (by decide) ?_
      exact m_iret C E (Or.inr ⟨rfl, Or.inr rfl⟩) dX0_hasStem_17 h
def B_X0_addFlower (n : Nat) (a1 : Int) (a2 : Int) (M : Mem) (Q : Int → Mem → Prop)  : Prop :=
  Con n md_X1_isKind [vI a1] M (fun r1 M2 =>
  ((r1 = 0 →
  Q (-2) M2) ∧ (¬ r1 = 0 →
  ((a2 < 0 →
    Q (-2) M2) ∧ (¬ a2 < 0 →
    ((a2 ≤ 9 →
      (((M2 1 3) < 6 →
        ((0 ≤ (M2 1 3) ∧ (M2 1 3) < 6) ∧ (∀ M3 : Mem, M3 = up M2 2 (Int.toNat (M2 1 3)) a1 →
          ((0 ≤ (M3 1 3) ∧ (M3 1 3) < 6) ∧ (∀ M4 : Mem, M4 = up M3 3 (Int.toNat (M3 1 3)) a2 →
          ((0 ≤ (M4 1 3) ∧ (M4 1 3) < 6) ∧ (∀ M5 : Mem, M5 = up M4 4 (Int.toNat (M4 1 3)) 0 →
          ((0 ≤ (M5 1 3) ∧ (M5 1 3) < 6) ∧ (∀ M6 : Mem, M6 = up M5 5 (Int.toNat (M5 1 3)) 10 →
          (∀ M7 : Mem, M7 = up M6 1 3 (w32 ((M6 1 3) + 1)) →
          Q (w32 ((M7 1 3) - 1)) M7)))))))))) ∧ (¬ (M2 1 3) < 6 →
        Q (-4) M2))) ∧ (¬ a2 ≤ 9 →
      Q (-2) M2)))))))
set_option maxHeartbeats 4000000 in
set_option maxRecDepth 20000 in
theorem g_X0_addFlower {n : Nat} {a1 : Int} {a2 : Int} {M : Mem} {Q : Int → Mem → Prop}  (h : B_X0_addFlower n a1 a2 M Q) : Con (n + 1) md_X0_addFlower [vR 1, vI a1, vI a2] M Q := by
  refine Con.ofF (n := n + 1) (Nat.succ_pos n) pl_X0_addFlower (Nat.le_of_ble_eq_true rfl) (fun X C E hnL => ?_)
  have C : Cx X cX0_addFlower RX0 n := C
  show WM X 0 [(0, vR 1), (1, vI a1), (2, vI a2)] [] M
  unfold B_X0_addFlower at h
  refine m_iload_n C 1 dX0_addFlower_0 rfl rfl ?_
  refine m_callSi C (as := [vI a1]) (rest := []) ok_X1_isKind ml_X0_46 rfl rfl (Nat.le_of_ble_eq_true rfl) (fun _ => rfl) dX0_addFlower_1 (Con.mono h (fun r1 M2 _ _ h => ?_))
  refine m_if_eq C (tgt := 17) dX0_addFlower_4 (by decide) (fun e => ?_) (fun e => ?_)
  · have h := h.1 e
    refine m_bipush C dX0_addFlower_17 (r32_of rfl) (by decide) ?_
    exact m_iret C E (Or.inl rfl) dX0_addFlower_19 h
  · have h := h.2 e
    refine m_iload_n C 2 dX0_addFlower_7 rfl rfl ?_
    refine m_if_lt C (tgt := 17) dX0_addFlower_8 (by decide) (fun e => ?_) (fun e => ?_)
    · have h := h.1 e
      refine m_bipush C dX0_addFlower_17 (r32_of rfl) (by decide) ?_
      exact m_iret C E (Or.inl rfl) dX0_addFlower_19 h
    · have h := h.2 e
      refine m_iload_n C 2 dX0_addFlower_11 rfl rfl ?_
      refine m_bipush C dX0_addFlower_12 (r32_of rfl) (by decide) ?_
      refine m_icmp_le C (tgt := 20) dX0_addFlower_14 (by decide) (fun e => ?_) (fun e => ?_)
      · have h := h.1 e
        refine m_aload_n C 0 dX0_addFlower_20 rfl rfl ?_
        refine m_getI C (k := 3) cl_X0 (by decide) so_1 rfl fl_X0_21 dX0_addFlower_21 ?_
        refine m_bipush C dX0_addFlower_24 (r32_of rfl) (by decide) ?_
        refine m_icmp_lt C (tgt := 32) dX0_addFlower_26 (by decide) (fun e => ?_) (fun e => ?_)
        · have h := h.1 e
          refine m_aload_n C 0 dX0_addFlower_32 rfl rfl ?_
          refine m_getR C (k := 4) cl_X0 (by decide) so_1 rfl fl_X0_24 dX0_addFlower_33 ?_
          refine m_aload_n C 0 dX0_addFlower_36 rfl rfl ?_
          refine m_getI C (k := 3) cl_X0 (by decide) so_1 rfl fl_X0_21 dX0_addFlower_37 ?_
          refine m_iload_n C 1 dX0_addFlower_40 rfl rfl ?_
          refine m_iast C (N := 6) sa_2 h.1 dX0_addFlower_41 ?_
          have h := h.2
          generalize eM3 : up M2 2 (Int.toNat (M2 1 3)) a1 = M3
          have h := h M3 eM3.symm
          refine m_aload_n C 0 dX0_addFlower_42 rfl rfl ?_
          refine m_getR C (k := 5) cl_X0 (by decide) so_1 rfl fl_X0_28 dX0_addFlower_43 ?_
          refine m_aload_n C 0 dX0_addFlower_46 rfl rfl ?_
          refine m_getI C (k := 3) cl_X0 (by decide) so_1 rfl fl_X0_21 dX0_addFlower_47 ?_
          refine m_iload_n C 2 dX0_addFlower_50 rfl rfl ?_
          refine m_iast C (N := 6) sa_3 h.1 dX0_addFlower_51 ?_
          have h := h.2
          generalize eM4 : up M3 3 (Int.toNat (M3 1 3)) a2 = M4
          have h := h M4 eM4.symm
          refine m_aload_n C 0 dX0_addFlower_52 rfl rfl ?_
          refine m_getR C (k := 6) cl_X0 (by decide) so_1 rfl fl_X0_31 dX0_addFlower_53 ?_
          refine m_aload_n C 0 dX0_addFlower_56 rfl rfl ?_
          refine m_getI C (k := 3) cl_X0 (by decide) so_1 rfl fl_X0_21 dX0_addFlower_57 ?_
          refine m_iconst C dX0_addFlower_60 (r32_of rfl) ?_
          refine m_iast C (N := 6) sa_4 h.1 dX0_addFlower_61 ?_
          have h := h.2
          generalize eM5 : up M4 4 (Int.toNat (M4 1 3)) 0 = M5
          have h := h M5 eM5.symm
          refine m_aload_n C 0 dX0_addFlower_62 rfl rfl ?_
          refine m_getR C (k := 7) cl_X0 (by decide) so_1 rfl fl_X0_34 dX0_addFlower_63 ?_
          refine m_aload_n C 0 dX0_addFlower_66 rfl rfl ?_
          refine m_getI C (k := 3) cl_X0 (by decide) so_1 rfl fl_X0_21 dX0_addFlower_67 ?_
          refine m_bipush C dX0_addFlower_70 (r32_of rfl) (by decide) ?_
          refine m_iast C (N := 6) sa_5 h.1 dX0_addFlower_72 ?_
          have h := h.2
          generalize eM6 : up M5 5 (Int.toNat (M5 1 3)) 10 = M6
          have h := h M6 eM6.symm
          refine m_aload_n C 0 dX0_addFlower_73 rfl rfl ?_
          refine m_dupR C dX0_addFlower_74 ?_
          refine m_getI C (k := 3) cl_X0 (by decide) so_1 rfl fl_X0_21 dX0_addFlower_75 ?_
          refine m_iconst C dX0_addFlower_78 (r32_of rfl) ?_
          refine m_iadd C dX0_addFlower_79 ?_
          refine m_putI C (k := 3) cl_X0 (by decide) so_1 rfl rfl rfl fl_X0_21 dX0_addFlower_80 ?_
          generalize eM7 : up M6 1 3 (w32 ((M6 1 3) + 1)) = M7
          have h := h M7 eM7.symm
          refine m_aload_n C 0 dX0_addFlower_83 rfl rfl ?_
          refine m_getI C (k := 3) cl_X0 (by decide) so_1 rfl fl_X0_21 dX0_addFlower_84 ?_
          refine m_iconst C dX0_addFlower_87 (r32_of rfl) ?_
          refine m_isub C dX0_addFlower_88 ?_
          exact m_iret C E (Or.inl rfl) dX0_addFlower_89 h
        · have h := h.2 e
          refine m_bipush C dX0_addFlower_29 (r32_of rfl) (by decide) ?_
          exact m_iret C E (Or.inl rfl) dX0_addFlower_31 h
      · have h := h.2 e
        refine m_bipush C dX0_addFlower_17 (r32_of rfl) (by decide) ?_
        exact m_iret C E (Or.inl rfl) dX0_addFlower_19 h
def B_X0_settingOf (n : Nat) (a1 : Int) (a2 : Int) (M : Mem) (Q : Int → Mem → Prop)  : Prop :=
  ((a1 = 0 →
  Q (M 1 0) M) ∧ (¬ a1 = 0 →
  ((a1 = 1 →
    Q (M 1 1) M) ∧ (¬ a1 = 1 →
    Con n md_X0_hasFlower [vR 1, vI a2] M (fun r1 M2 =>
      ((r1 = 0 →
      Q (-2) M2) ∧ (¬ r1 = 0 →
      (((a1 < 2 ∨ 4 < a1) →
        Q (-2) M2) ∧ ((a1 = 2) →
        ((0 ≤ a2 ∧ a2 < 6) ∧ Q (M2 3 (Int.toNat a2)) M2)) ∧ ((a1 = 3) →
        ((0 ≤ a2 ∧ a2 < 6) ∧ Q (M2 4 (Int.toNat a2)) M2)) ∧ ((a1 = 4) →
        ((0 ≤ a2 ∧ a2 < 6) ∧ Q (M2 5 (Int.toNat a2)) M2))))))))))
set_option maxHeartbeats 4000000 in
set_option maxRecDepth 20000 in
theorem g_X0_settingOf {n : Nat} {a1 : Int} {a2 : Int} {M : Mem} {Q : Int → Mem → Prop}  (h : B_X0_settingOf n a1 a2 M Q) : Con (n + 1) md_X0_settingOf [vR 1, vI a1, vI a2] M Q := by
  refine Con.ofF (n := n + 1) (Nat.succ_pos n) pl_X0_settingOf (Nat.le_of_ble_eq_true rfl) (fun X C E hnL => ?_)
  have C : Cx X cX0_settingOf RX0 n := C
  show WM X 0 [(0, vR 1), (1, vI a1), (2, vI a2)] [] M
  unfold B_X0_settingOf at h
  refine m_iload_n C 1 dX0_settingOf_0 rfl rfl ?_
  refine m_if_ne C (tgt := 9) dX0_settingOf_1 (by decide) (fun e => ?_) (fun e => ?_)
  · have h := h.2 e
    refine m_iload_n C 1 dX0_settingOf_9 rfl rfl ?_
    refine m_iconst C dX0_settingOf_10 (r32_of rfl) ?_
    refine m_icmp_ne C (tgt := 19) dX0_settingOf_11 (by decide) (fun e => ?_) (fun e => ?_)
    · have h := h.2 e
      refine m_aload_n C 0 dX0_settingOf_19 rfl rfl ?_
      refine m_iload_n C 2 dX0_settingOf_20 rfl rfl ?_
      refine m_callVi C (as := [vI a2]) (rest := []) ok_X0_hasFlower ml_X0_52 so_1 rfl rfl rfl (Nat.le_of_ble_eq_true rfl) (fun _ => rfl) dX0_settingOf_21 (Con.mono h (fun r1 M2 _ _ h => ?_))
      refine m_if_ne C (tgt := 30) dX0_settingOf_24 (by decide) (fun e => ?_) (fun e => ?_)
      · have h := h.2 e
        refine m_iload_n C 1 dX0_settingOf_30 rfl rfl ?_
        by_cases ho : a1 < 2 ∨ 4 < a1
        · have h := h.1 (by omega)
          refine m_tabO C (tgt := 77) dX0_settingOf_31 ho (by decide) ?_
          refine m_bipush C dX0_settingOf_77 (r32_of rfl) (by decide) ?_
          exact m_iret C E (Or.inl rfl) dX0_settingOf_79 h
        · obtain hx | hx | hx : a1 = 2 ∨ a1 = 3 ∨ a1 = 4 := by omega
          · have h := h.2.1 (by omega)
            refine m_tabI C (tgt := 56) dX0_settingOf_31 (by omega) (by omega) (by rw [hx]; rfl) (by decide) ?_
            refine m_aload_n C 0 dX0_settingOf_56 rfl rfl ?_
            refine m_getR C (k := 5) cl_X0 (by decide) so_1 rfl fl_X0_28 dX0_settingOf_57 ?_
            refine m_iload_n C 2 dX0_settingOf_60 rfl rfl ?_
            refine m_iald C (N := 6) sa_3 h.1 dX0_settingOf_61 ?_
            have h := h.2
            exact m_iret C E (Or.inl rfl) dX0_settingOf_62 h
          · have h := h.2.2.1 (by omega)
            refine m_tabI C (tgt := 63) dX0_settingOf_31 (by omega) (by omega) (by rw [hx]; rfl) (by decide) ?_
            refine m_aload_n C 0 dX0_settingOf_63 rfl rfl ?_
            refine m_getR C (k := 6) cl_X0 (by decide) so_1 rfl fl_X0_31 dX0_settingOf_64 ?_
            refine m_iload_n C 2 dX0_settingOf_67 rfl rfl ?_
            refine m_iald C (N := 6) sa_4 h.1 dX0_settingOf_68 ?_
            have h := h.2
            exact m_iret C E (Or.inl rfl) dX0_settingOf_69 h
          · have h := h.2.2.2 (by omega)
            refine m_tabI C (tgt := 70) dX0_settingOf_31 (by omega) (by omega) (by rw [hx]; rfl) (by decide) ?_
            refine m_aload_n C 0 dX0_settingOf_70 rfl rfl ?_
            refine m_getR C (k := 7) cl_X0 (by decide) so_1 rfl fl_X0_34 dX0_settingOf_71 ?_
            refine m_iload_n C 2 dX0_settingOf_74 rfl rfl ?_
            refine m_iald C (N := 6) sa_5 h.1 dX0_settingOf_75 ?_
            have h := h.2
            exact m_iret C E (Or.inl rfl) dX0_settingOf_76 h
      · have h := h.1 e
        refine m_bipush C dX0_settingOf_27 (r32_of rfl) (by decide) ?_
        exact m_iret C E (Or.inl rfl) dX0_settingOf_29 h
    · have h := h.1 e
      refine m_aload_n C 0 dX0_settingOf_14 rfl rfl ?_
      refine m_getI C (k := 1) cl_X0 (by decide) so_1 rfl fl_X0_15 dX0_settingOf_15 ?_
      exact m_iret C E (Or.inl rfl) dX0_settingOf_18 h
  · have h := h.1 e
    refine m_aload_n C 0 dX0_settingOf_4 rfl rfl ?_
    refine m_getI C (k := 0) cl_X0 (by decide) so_1 rfl fl_X0_9 dX0_settingOf_5 ?_
    exact m_iret C E (Or.inl rfl) dX0_settingOf_8 h
def B_X0_change (n : Nat) (a1 : Int) (a2 : Int) (a3 : Int) (M : Mem) (Q : Int → Mem → Prop)  : Prop :=
  ((a1 = 0 →
  (∀ M7 : Mem, M7 = up M 1 0 a3 →
    Q 0 M7)) ∧ (¬ a1 = 0 →
  ((a1 = 1 →
    (∀ M6 : Mem, M6 = up M 1 1 a3 →
      Q 0 M6)) ∧ (¬ a1 = 1 →
    Con n md_X0_hasFlower [vR 1, vI a2] M (fun r1 M2 =>
      ((r1 = 0 →
      Q 0 M2) ∧ (¬ r1 = 0 →
      (((a1 < 2 ∨ 4 < a1) →
        Q 0 M2) ∧ ((a1 = 2) →
        ((0 ≤ a2 ∧ a2 < 6) ∧ (∀ M3 : Mem, M3 = up M2 3 (Int.toNat a2) a3 →
          Q 0 M3))) ∧ ((a1 = 3) →
        ((0 ≤ a2 ∧ a2 < 6) ∧ (∀ M4 : Mem, M4 = up M2 4 (Int.toNat a2) a3 →
          Q 0 M4))) ∧ ((a1 = 4) →
        ((0 ≤ a2 ∧ a2 < 6) ∧ (∀ M5 : Mem, M5 = up M2 5 (Int.toNat a2) a3 →
          Q 0 M5)))))))))))
set_option maxHeartbeats 4000000 in
set_option maxRecDepth 20000 in
theorem g_X0_change {n : Nat} {a1 : Int} {a2 : Int} {a3 : Int} {M : Mem} {Q : Int → Mem → Prop}  (h : B_X0_change n a1 a2 a3 M Q) : Con (n + 1) md_X0_change [vR 1, vI a1, vI a2, vI a3] M Q := by
  refine Con.ofF (n := n + 1) (Nat.succ_pos n) pl_X0_change (Nat.le_of_ble_eq_true rfl) (fun X C E hnL => ?_)
  have C : Cx X cX0_change RX0 n := C
  show WM X 0 [(0, vR 1), (1, vI a1), (2, vI a2), (3, vI a3)] [] M
  unfold B_X0_change at h
  refine m_iload_n C 1 dX0_change_0 rfl rfl ?_
  refine m_if_ne C (tgt := 12) dX0_change_1 (by decide) (fun e => ?_) (fun e => ?_)
  · have h := h.2 e
    refine m_iload_n C 1 dX0_change_12 rfl rfl ?_
    refine m_iconst C dX0_change_13 (r32_of rfl) ?_
    refine m_icmp_ne C (tgt := 25) dX0_change_14 (by decide) (fun e => ?_) (fun e => ?_)
    · have h := h.2 e
      refine m_aload_n C 0 dX0_change_25 rfl rfl ?_
      refine m_iload_n C 2 dX0_change_26 rfl rfl ?_
      refine m_callVi C (as := [vI a2]) (rest := []) ok_X0_hasFlower ml_X0_52 so_1 rfl rfl rfl (Nat.le_of_ble_eq_true rfl) (fun _ => rfl) dX0_change_27 (Con.mono h (fun r1 M2 _ _ h => ?_))
      refine m_if_eq C (tgt := 90) dX0_change_30 (by decide) (fun e => ?_) (fun e => ?_)
      · have h := h.1 e
        exact m_vret C E dX0_change_90 h
      · have h := h.2 e
        refine m_iload_n C 1 dX0_change_33 rfl rfl ?_
        by_cases ho : a1 < 2 ∨ 4 < a1
        · have h := h.1 (by omega)
          refine m_tabO C (tgt := 90) dX0_change_34 ho (by decide) ?_
          exact m_vret C E dX0_change_90 h
        · obtain hx | hx | hx : a1 = 2 ∨ a1 = 3 ∨ a1 = 4 := by omega
          · have h := h.2.1 (by omega)
            refine m_tabI C (tgt := 60) dX0_change_34 (by omega) (by omega) (by rw [hx]; rfl) (by decide) ?_
            refine m_aload_n C 0 dX0_change_60 rfl rfl ?_
            refine m_getR C (k := 5) cl_X0 (by decide) so_1 rfl fl_X0_28 dX0_change_61 ?_
            refine m_iload_n C 2 dX0_change_64 rfl rfl ?_
            refine m_iload_n C 3 dX0_change_65 rfl rfl ?_
            refine m_iast C (N := 6) sa_3 h.1 dX0_change_66 ?_
            have h := h.2
            generalize eM3 : up M2 3 (Int.toNat a2) a3 = M3
            have h := h M3 eM3.symm
            refine m_goto C (tgt := 90) dX0_change_67 (by decide) ?_
            exact m_vret C E dX0_change_90 h
          · have h := h.2.2.1 (by omega)
            refine m_tabI C (tgt := 70) dX0_change_34 (by omega) (by omega) (by rw [hx]; rfl) (by decide) ?_
            refine m_aload_n C 0 dX0_change_70 rfl rfl ?_
            refine m_getR C (k := 6) cl_X0 (by decide) so_1 rfl fl_X0_31 dX0_change_71 ?_
            refine m_iload_n C 2 dX0_change_74 rfl rfl ?_
            refine m_iload_n C 3 dX0_change_75 rfl rfl ?_
            refine m_iast C (N := 6) sa_4 h.1 dX0_change_76 ?_
            have h := h.2
            generalize eM4 : up M2 4 (Int.toNat a2) a3 = M4
            have h := h M4 eM4.symm
            refine m_goto C (tgt := 90) dX0_change_77 (by decide) ?_
            exact m_vret C E dX0_change_90 h
          · have h := h.2.2.2 (by omega)
            refine m_tabI C (tgt := 80) dX0_change_34 (by omega) (by omega) (by rw [hx]; rfl) (by decide) ?_
            refine m_aload_n C 0 dX0_change_80 rfl rfl ?_
            refine m_getR C (k := 7) cl_X0 (by decide) so_1 rfl fl_X0_34 dX0_change_81 ?_
            refine m_iload_n C 2 dX0_change_84 rfl rfl ?_
            refine m_iload_n C 3 dX0_change_85 rfl rfl ?_
            refine m_iast C (N := 6) sa_5 h.1 dX0_change_86 ?_
            have h := h.2
            generalize eM5 : up M2 5 (Int.toNat a2) a3 = M5
            have h := h M5 eM5.symm
            refine m_goto C (tgt := 90) dX0_change_87 (by decide) ?_
            exact m_vret C E dX0_change_90 h
    · have h := h.1 e
      refine m_aload_n C 0 dX0_change_17 rfl rfl ?_
      refine m_iload_n C 3 dX0_change_18 rfl rfl ?_
      refine m_putI C (k := 1) cl_X0 (by decide) so_1 rfl rfl rfl fl_X0_15 dX0_change_19 ?_
      generalize eM6 : up M 1 1 a3 = M6
      have h := h M6 eM6.symm
      refine m_goto C (tgt := 90) dX0_change_22 (by decide) ?_
      exact m_vret C E dX0_change_90 h
  · have h := h.1 e
    refine m_aload_n C 0 dX0_change_4 rfl rfl ?_
    refine m_iload_n C 3 dX0_change_5 rfl rfl ?_
    refine m_putI C (k := 0) cl_X0 (by decide) so_1 rfl rfl rfl fl_X0_9 dX0_change_6 ?_
    generalize eM7 : up M 1 0 a3 = M7
    have h := h M7 eM7.symm
    refine m_goto C (tgt := 90) dX0_change_9 (by decide) ?_
    exact m_vret C E dX0_change_90 h
def B_X0_addStem (n : Nat) (a1 : Int) (a2 : Int) (M : Mem) (Q : Int → Mem → Prop)  : Prop :=
  ((40 ≤ (M 1 8) →
  Q 0 M) ∧ (¬ 40 ≤ (M 1 8) →
  Con n md_X0_hasFlower [vR 1, vI a1] M (fun r1 M2 =>
    ((r1 = 0 →
    Q 0 M2) ∧ (¬ r1 = 0 →
    ((0 ≤ (M2 1 8) ∧ (M2 1 8) < 40) ∧ (∀ M3 : Mem, M3 = up M2 6 (Int.toNat (M2 1 8)) a1 →
      ((0 ≤ (M3 1 8) ∧ (M3 1 8) < 40) ∧ (∀ M4 : Mem, M4 = up M3 7 (Int.toNat (M3 1 8)) a2 →
      (∀ M5 : Mem, M5 = up M4 1 8 (w32 ((M4 1 8) + 1)) →
      ((0 ≤ a1 ∧ a1 < 6) ∧ ((0 ≤ a1 ∧ a1 < 6) ∧ (∀ M6 : Mem, M6 = up M5 5 (Int.toNat a1) (w32 ((M5 5 (Int.toNat a1)) - 1)) →
      Q 0 M6)))))))))))))
set_option maxHeartbeats 4000000 in
set_option maxRecDepth 20000 in
theorem g_X0_addStem {n : Nat} {a1 : Int} {a2 : Int} {M : Mem} {Q : Int → Mem → Prop}  (h : B_X0_addStem n a1 a2 M Q) : Con (n + 1) md_X0_addStem [vR 1, vI a1, vI a2] M Q := by
  refine Con.ofF (n := n + 1) (Nat.succ_pos n) pl_X0_addStem (Nat.le_of_ble_eq_true rfl) (fun X C E hnL => ?_)
  have C : Cx X cX0_addStem RX0 n := C
  show WM X 0 [(0, vR 1), (1, vI a1), (2, vI a2)] [] M
  unfold B_X0_addStem at h
  refine m_aload_n C 0 dX0_addStem_0 rfl rfl ?_
  refine m_getI C (k := 8) cl_X0 (by decide) so_1 rfl fl_X0_37 dX0_addStem_1 ?_
  refine m_bipush C dX0_addStem_4 (r32_of rfl) (by decide) ?_
  refine m_icmp_ge C (tgt := 57) dX0_addStem_6 (by decide) (fun e => ?_) (fun e => ?_)
  · have h := h.1 e
    exact m_vret C E dX0_addStem_57 h
  · have h := h.2 e
    refine m_aload_n C 0 dX0_addStem_9 rfl rfl ?_
    refine m_iload_n C 1 dX0_addStem_10 rfl rfl ?_
    refine m_callVi C (as := [vI a1]) (rest := []) ok_X0_hasFlower ml_X0_52 so_1 rfl rfl rfl (Nat.le_of_ble_eq_true rfl) (fun _ => rfl) dX0_addStem_11 (Con.mono h (fun r1 M2 _ _ h => ?_))
    refine m_if_eq C (tgt := 57) dX0_addStem_14 (by decide) (fun e => ?_) (fun e => ?_)
    · have h := h.1 e
      exact m_vret C E dX0_addStem_57 h
    · have h := h.2 e
      refine m_aload_n C 0 dX0_addStem_17 rfl rfl ?_
      refine m_getR C (k := 9) cl_X0 (by decide) so_1 rfl fl_X0_40 dX0_addStem_18 ?_
      refine m_aload_n C 0 dX0_addStem_21 rfl rfl ?_
      refine m_getI C (k := 8) cl_X0 (by decide) so_1 rfl fl_X0_37 dX0_addStem_22 ?_
      refine m_iload_n C 1 dX0_addStem_25 rfl rfl ?_
      refine m_iast C (N := 40) sa_6 h.1 dX0_addStem_26 ?_
      have h := h.2
      generalize eM3 : up M2 6 (Int.toNat (M2 1 8)) a1 = M3
      have h := h M3 eM3.symm
      refine m_aload_n C 0 dX0_addStem_27 rfl rfl ?_
      refine m_getR C (k := 10) cl_X0 (by decide) so_1 rfl fl_X0_43 dX0_addStem_28 ?_
      refine m_aload_n C 0 dX0_addStem_31 rfl rfl ?_
      refine m_getI C (k := 8) cl_X0 (by decide) so_1 rfl fl_X0_37 dX0_addStem_32 ?_
      refine m_iload_n C 2 dX0_addStem_35 rfl rfl ?_
      refine m_iast C (N := 40) sa_7 h.1 dX0_addStem_36 ?_
      have h := h.2
      generalize eM4 : up M3 7 (Int.toNat (M3 1 8)) a2 = M4
      have h := h M4 eM4.symm
      refine m_aload_n C 0 dX0_addStem_37 rfl rfl ?_
      refine m_dupR C dX0_addStem_38 ?_
      refine m_getI C (k := 8) cl_X0 (by decide) so_1 rfl fl_X0_37 dX0_addStem_39 ?_
      refine m_iconst C dX0_addStem_42 (r32_of rfl) ?_
      refine m_iadd C dX0_addStem_43 ?_
      refine m_putI C (k := 8) cl_X0 (by decide) so_1 rfl rfl rfl fl_X0_37 dX0_addStem_44 ?_
      generalize eM5 : up M4 1 8 (w32 ((M4 1 8) + 1)) = M5
      have h := h M5 eM5.symm
      refine m_aload_n C 0 dX0_addStem_47 rfl rfl ?_
      refine m_getR C (k := 7) cl_X0 (by decide) so_1 rfl fl_X0_34 dX0_addStem_48 ?_
      refine m_iload_n C 1 dX0_addStem_51 rfl rfl ?_
      refine m_dup2 C dX0_addStem_52 ?_
      refine m_iald C (N := 6) sa_5 h.1 dX0_addStem_53 ?_
      have h := h.2
      refine m_iconst C dX0_addStem_54 (r32_of rfl) ?_
      refine m_isub C dX0_addStem_55 ?_
      refine m_iast C (N := 6) sa_5 h.1 dX0_addStem_56 ?_
      have h := h.2
      generalize eM6 : up M5 5 (Int.toNat a1) (w32 ((M5 5 (Int.toNat a1)) - 1)) = M6
      have h := h M6 eM6.symm
      exact m_vret C E dX0_addStem_57 h
def B_X0_removeStem_20 (n : Nat) (a1 : Int) (x2 : Int) (x3 : Int) (M : Mem) (Q : Int → Mem → Prop) (K20 : Int → Int → Mem → Prop) : Prop :=
  (((w32 ((M 1 8) - 1)) ≤ x3 →
  (∀ M1 : Mem, M1 = up M 1 8 (w32 ((M 1 8) - 1)) →
    Con n md_X0_hasFlower [vR 1, vI x2] M1 (fun r2 M3 =>
    ((r2 = 0 →
    Q x2 M3) ∧ (¬ r2 = 0 →
    ((0 ≤ x2 ∧ x2 < 6) ∧ Con n md_J9_min_7cf53 [vI 40, vI (w32 ((M3 5 (Int.toNat x2)) + 1))] M3 (fun r4 M5 =>
      ((0 ≤ x2 ∧ x2 < 6) ∧ (∀ M6 : Mem, M6 = up M5 5 (Int.toNat x2) r4 →
      Q x2 M6))))))))) ∧ (¬ (w32 ((M 1 8) - 1)) ≤ x3 →
  ((0 ≤ (w32 (x3 + 1)) ∧ (w32 (x3 + 1)) < 40) ∧ ((0 ≤ x3 ∧ x3 < 40) ∧ (∀ M7 : Mem, M7 = up M 6 (Int.toNat x3) (M 6 (Int.toNat (w32 (x3 + 1)))) →
    ((0 ≤ (w32 (x3 + 1)) ∧ (w32 (x3 + 1)) < 40) ∧ ((0 ≤ x3 ∧ x3 < 40) ∧ (∀ M8 : Mem, M8 = up M7 7 (Int.toNat x3) (M7 7 (Int.toNat (w32 (x3 + 1)))) →
    K20 x2 (w32 (x3 + 1)) M8))))))))
def B_X0_removeStem (n : Nat) (a1 : Int) (M : Mem) (Q : Int → Mem → Prop) (K20 : Int → Int → Mem → Prop) : Prop :=
  Con n md_X0_hasStem [vR 1, vI a1] M (fun r9 M10 =>
  ((r9 = 0 →
  Q (-2) M10) ∧ (¬ r9 = 0 →
  ((0 ≤ a1 ∧ a1 < 40) ∧ K20 (M10 6 (Int.toNat a1)) a1 M10))))
set_option maxHeartbeats 4000000 in
set_option maxRecDepth 20000 in
theorem g_X0_removeStem {n : Nat} {a1 : Int} {M : Mem} {Q : Int → Mem → Prop}  (h : ∀ (K20 : Int → Int → Mem → Prop), (∀ (x2 : Int) (x3 : Int) (M : Mem), B_X0_removeStem_20 n a1 x2 x3 M Q K20 → K20 x2 x3 M) → B_X0_removeStem n a1 M Q K20) : Con (n + 1) md_X0_removeStem [vR 1, vI a1] M Q := by
  refine Con.ofF (n := n + 1) (Nat.succ_pos n) pl_X0_removeStem (Nat.le_of_ble_eq_true rfl) (fun X C E hnL => ?_)
  have C : Cx X cX0_removeStem RX0 n := C
  show WM X 0 [(0, vR 1), (1, vI a1)] [] M
  have hb20 : ∀ (x2 : Int) (x3 : Int) (M : Mem), B_X0_removeStem_20 n a1 x2 x3 M Q (fun (x2 : Int) (x3 : Int) (M : Mem) => WM X 20 [(0, vR 1), (1, vI a1), (2, vI x2), (3, vI x3)] [] M) → WM X 20 [(0, vR 1), (1, vI a1), (2, vI x2), (3, vI x3)] [] M := by
    intro x2 x3 M h
    unfold B_X0_removeStem_20 at h
    refine m_iload_n C 3 dX0_removeStem_20 rfl rfl ?_
    refine m_aload_n C 0 dX0_removeStem_21 rfl rfl ?_
    refine m_getI C (k := 8) cl_X0 (by decide) so_1 rfl fl_X0_37 dX0_removeStem_22 ?_
    refine m_iconst C dX0_removeStem_25 (r32_of rfl) ?_
    refine m_isub C dX0_removeStem_26 ?_
    refine m_icmp_ge C (tgt := 64) dX0_removeStem_27 (by decide) (fun e => ?_) (fun e => ?_)
    · have h := h.1 e
      refine m_aload_n C 0 dX0_removeStem_64 rfl rfl ?_
      refine m_dupR C dX0_removeStem_65 ?_
      refine m_getI C (k := 8) cl_X0 (by decide) so_1 rfl fl_X0_37 dX0_removeStem_66 ?_
      refine m_iconst C dX0_removeStem_69 (r32_of rfl) ?_
      refine m_isub C dX0_removeStem_70 ?_
      refine m_putI C (k := 8) cl_X0 (by decide) so_1 rfl rfl rfl fl_X0_37 dX0_removeStem_71 ?_
      generalize eM1 : up M 1 8 (w32 ((M 1 8) - 1)) = M1
      have h := h M1 eM1.symm
      refine m_aload_n C 0 dX0_removeStem_74 rfl rfl ?_
      refine m_iload_n C 2 dX0_removeStem_75 rfl rfl ?_
      refine m_callVi C (as := [vI x2]) (rest := []) ok_X0_hasFlower ml_X0_52 so_1 rfl rfl rfl (Nat.le_of_ble_eq_true rfl) (fun _ => rfl) dX0_removeStem_76 (Con.mono h (fun r2 M3 _ _ h => ?_))
      refine m_if_eq C (tgt := 101) dX0_removeStem_79 (by decide) (fun e => ?_) (fun e => ?_)
      · have h := h.1 e
        refine m_iload_n C 2 dX0_removeStem_101 rfl rfl ?_
        exact m_iret C E (Or.inl rfl) dX0_removeStem_102 h
      · have h := h.2 e
        refine m_aload_n C 0 dX0_removeStem_82 rfl rfl ?_
        refine m_getR C (k := 7) cl_X0 (by decide) so_1 rfl fl_X0_34 dX0_removeStem_83 ?_
        refine m_iload_n C 2 dX0_removeStem_86 rfl rfl ?_
        refine m_bipush C dX0_removeStem_87 (r32_of rfl) (by decide) ?_
        refine m_aload_n C 0 dX0_removeStem_89 rfl rfl ?_
        refine m_getR C (k := 7) cl_X0 (by decide) so_1 rfl fl_X0_34 dX0_removeStem_90 ?_
        refine m_iload_n C 2 dX0_removeStem_93 rfl rfl ?_
        refine m_iald C (N := 6) sa_5 h.1 dX0_removeStem_94 ?_
        have h := h.2
        refine m_iconst C dX0_removeStem_95 (r32_of rfl) ?_
        refine m_iadd C dX0_removeStem_96 ?_
        refine m_callSi C (as := [vI 40, vI (w32 ((M3 5 (Int.toNat x2)) + 1))]) (rest := [vI x2, vR 5]) ok_J9_min_7cf53 ml_X0_58 rfl rfl (Nat.le_of_ble_eq_true rfl) (fun _ => rfl) dX0_removeStem_97 (Con.mono h (fun r4 M5 _ _ h => ?_))
        refine m_iast C (N := 6) sa_5 h.1 dX0_removeStem_100 ?_
        have h := h.2
        generalize eM6 : up M5 5 (Int.toNat x2) r4 = M6
        have h := h M6 eM6.symm
        refine m_iload_n C 2 dX0_removeStem_101 rfl rfl ?_
        exact m_iret C E (Or.inl rfl) dX0_removeStem_102 h
    · have h := h.2 e
      refine m_aload_n C 0 dX0_removeStem_30 rfl rfl ?_
      refine m_getR C (k := 9) cl_X0 (by decide) so_1 rfl fl_X0_40 dX0_removeStem_31 ?_
      refine m_iload_n C 3 dX0_removeStem_34 rfl rfl ?_
      refine m_aload_n C 0 dX0_removeStem_35 rfl rfl ?_
      refine m_getR C (k := 9) cl_X0 (by decide) so_1 rfl fl_X0_40 dX0_removeStem_36 ?_
      refine m_iload_n C 3 dX0_removeStem_39 rfl rfl ?_
      refine m_iconst C dX0_removeStem_40 (r32_of rfl) ?_
      refine m_iadd C dX0_removeStem_41 ?_
      refine m_iald C (N := 40) sa_6 h.1 dX0_removeStem_42 ?_
      have h := h.2
      refine m_iast C (N := 40) sa_6 h.1 dX0_removeStem_43 ?_
      have h := h.2
      generalize eM7 : up M 6 (Int.toNat x3) (M 6 (Int.toNat (w32 (x3 + 1)))) = M7
      have h := h M7 eM7.symm
      refine m_aload_n C 0 dX0_removeStem_44 rfl rfl ?_
      refine m_getR C (k := 10) cl_X0 (by decide) so_1 rfl fl_X0_43 dX0_removeStem_45 ?_
      refine m_iload_n C 3 dX0_removeStem_48 rfl rfl ?_
      refine m_aload_n C 0 dX0_removeStem_49 rfl rfl ?_
      refine m_getR C (k := 10) cl_X0 (by decide) so_1 rfl fl_X0_43 dX0_removeStem_50 ?_
      refine m_iload_n C 3 dX0_removeStem_53 rfl rfl ?_
      refine m_iconst C dX0_removeStem_54 (r32_of rfl) ?_
      refine m_iadd C dX0_removeStem_55 ?_
      refine m_iald C (N := 40) sa_7 h.1 dX0_removeStem_56 ?_
      have h := h.2
      refine m_iast C (N := 40) sa_7 h.1 dX0_removeStem_57 ?_
      have h := h.2
      generalize eM8 : up M7 7 (Int.toNat x3) (M7 7 (Int.toNat (w32 (x3 + 1)))) = M8
      have h := h M8 eM8.symm
      refine m_iinc C (L' := [(3, vI (w32 (x3 + 1))), (0, vR 1), (1, vI a1), (2, vI x2)]) 3 dX0_removeStem_58 rfl (by rw [hnL]; decide) rfl ?_
      refine m_goto C (tgt := 20) dX0_removeStem_61 (by decide) ?_
      exact m_sub [1, 2, 3, 0] rfl h
  have h := h (fun (x2 : Int) (x3 : Int) (M : Mem) => WM X 20 [(0, vR 1), (1, vI a1), (2, vI x2), (3, vI x3)] [] M) hb20
  unfold B_X0_removeStem at h
  refine m_aload_n C 0 dX0_removeStem_0 rfl rfl ?_
  refine m_iload_n C 1 dX0_removeStem_1 rfl rfl ?_
  refine m_callVi C (as := [vI a1]) (rest := []) ok_X0_hasStem ml_X0_55 so_1 rfl rfl rfl (Nat.le_of_ble_eq_true rfl) (fun _ => rfl) dX0_removeStem_2 (Con.mono h (fun r9 M10 _ _ h => ?_))
  refine m_if_ne C (tgt := 11) dX0_removeStem_5 (by decide) (fun e => ?_) (fun e => ?_)
  · have h := h.2 e
    refine m_aload_n C 0 dX0_removeStem_11 rfl rfl ?_
    refine m_getR C (k := 9) cl_X0 (by decide) so_1 rfl fl_X0_40 dX0_removeStem_12 ?_
    refine m_iload_n C 1 dX0_removeStem_15 rfl rfl ?_
    refine m_iald C (N := 40) sa_6 h.1 dX0_removeStem_16 ?_
    have h := h.2
    refine m_istore_n C (L' := [(2, vI (M10 6 (Int.toNat a1))), (0, vR 1), (1, vI a1)]) dX0_removeStem_17 rfl (by rw [hnL]; decide) rfl ?_
    refine m_iload_n C 2 dX0_removeStem_18 rfl rfl ?_
    refine m_istore_n C (L' := [(3, vI a1), (2, vI (M10 6 (Int.toNat a1))), (0, vR 1), (1, vI a1)]) dX0_removeStem_19 rfl (by rw [hnL]; decide) rfl ?_
    exact m_sub [2, 3, 1, 0] rfl h
  · have h := h.1 e
    refine m_bipush C dX0_removeStem_8 (r32_of rfl) (by decide) ?_
    exact m_iret C E (Or.inl rfl) dX0_removeStem_10 h
def B_X0_lastAngle (n : Nat)  (M : Mem) (Q : Int → Mem → Prop)  : Prop :=
  (((M 1 8) ≤ 0 →
  Q (M 1 1) M) ∧ (¬ (M 1 8) ≤ 0 →
  ((40 < (M 1 8) →
    Q (M 1 1) M) ∧ (¬ 40 < (M 1 8) →
    ((0 ≤ (w32 ((M 1 8) - 1)) ∧ (w32 ((M 1 8) - 1)) < 40) ∧ Q (M 7 (Int.toNat (w32 ((M 1 8) - 1)))) M)))))
set_option maxHeartbeats 4000000 in
set_option maxRecDepth 20000 in
theorem g_X0_lastAngle {n : Nat}  {M : Mem} {Q : Int → Mem → Prop}  (h : B_X0_lastAngle n  M Q) : Con (n + 1) md_X0_lastAngle [vR 1] M Q := by
  refine Con.ofF (n := n + 1) (Nat.succ_pos n) pl_X0_lastAngle (Nat.le_of_ble_eq_true rfl) (fun X C E hnL => ?_)
  have C : Cx X cX0_lastAngle RX0 n := C
  show WM X 0 [(0, vR 1)] [] M
  unfold B_X0_lastAngle at h
  refine m_aload_n C 0 dX0_lastAngle_0 rfl rfl ?_
  refine m_getI C (k := 8) cl_X0 (by decide) so_1 rfl fl_X0_37 dX0_lastAngle_1 ?_
  refine m_if_le C (tgt := 30) dX0_lastAngle_4 (by decide) (fun e => ?_) (fun e => ?_)
  · have h := h.1 e
    refine m_aload_n C 0 dX0_lastAngle_30 rfl rfl ?_
    refine m_getI C (k := 1) cl_X0 (by decide) so_1 rfl fl_X0_15 dX0_lastAngle_31 ?_
    exact m_iret C E (Or.inl rfl) dX0_lastAngle_34 h
  · have h := h.2 e
    refine m_aload_n C 0 dX0_lastAngle_7 rfl rfl ?_
    refine m_getI C (k := 8) cl_X0 (by decide) so_1 rfl fl_X0_37 dX0_lastAngle_8 ?_
    refine m_bipush C dX0_lastAngle_11 (r32_of rfl) (by decide) ?_
    refine m_icmp_gt C (tgt := 30) dX0_lastAngle_13 (by decide) (fun e => ?_) (fun e => ?_)
    · have h := h.1 e
      refine m_aload_n C 0 dX0_lastAngle_30 rfl rfl ?_
      refine m_getI C (k := 1) cl_X0 (by decide) so_1 rfl fl_X0_15 dX0_lastAngle_31 ?_
      exact m_iret C E (Or.inl rfl) dX0_lastAngle_34 h
    · have h := h.2 e
      refine m_aload_n C 0 dX0_lastAngle_16 rfl rfl ?_
      refine m_getR C (k := 10) cl_X0 (by decide) so_1 rfl fl_X0_43 dX0_lastAngle_17 ?_
      refine m_aload_n C 0 dX0_lastAngle_20 rfl rfl ?_
      refine m_getI C (k := 8) cl_X0 (by decide) so_1 rfl fl_X0_37 dX0_lastAngle_21 ?_
      refine m_iconst C dX0_lastAngle_24 (r32_of rfl) ?_
      refine m_isub C dX0_lastAngle_25 ?_
      refine m_iald C (N := 40) sa_7 h.1 dX0_lastAngle_26 ?_
      have h := h.2
      refine m_goto C (tgt := 34) dX0_lastAngle_27 (by decide) ?_
      exact m_iret C E (Or.inl rfl) dX0_lastAngle_34 h
def B_X0_roomLeft_7 (n : Nat)  (x1 : Int) (x2 : Int) (M : Mem) (Q : Int → Mem → Prop) (K7 : Int → Int → Mem → Prop) : Prop :=
  (((M 1 8) ≤ x2 →
  Q x1 M) ∧ (¬ (M 1 8) ≤ x2 →
  ((0 ≤ x2 ∧ x2 < 40) ∧ Con n md_X0_thickOf [vR 1, vI (M 6 (Int.toNat x2))] M (fun r1 M2 =>
    K7 (w32 (x1 - r1)) (w32 (x2 + 1)) M2))))
def B_X0_roomLeft (n : Nat)  (M : Mem) (Q : Int → Mem → Prop) (K7 : Int → Int → Mem → Prop) : Prop :=
  K7 (M 1 0) 0 M
set_option maxHeartbeats 4000000 in
set_option maxRecDepth 20000 in
theorem g_X0_roomLeft {n : Nat}  {M : Mem} {Q : Int → Mem → Prop}  (h : ∀ (K7 : Int → Int → Mem → Prop), (∀ (x1 : Int) (x2 : Int) (M : Mem), B_X0_roomLeft_7 n  x1 x2 M Q K7 → K7 x1 x2 M) → B_X0_roomLeft n  M Q K7) : Con (n + 1) md_X0_roomLeft [vR 1] M Q := by
  refine Con.ofF (n := n + 1) (Nat.succ_pos n) pl_X0_roomLeft (Nat.le_of_ble_eq_true rfl) (fun X C E hnL => ?_)
  have C : Cx X cX0_roomLeft RX0 n := C
  show WM X 0 [(0, vR 1)] [] M
  have hb7 : ∀ (x1 : Int) (x2 : Int) (M : Mem), B_X0_roomLeft_7 n  x1 x2 M Q (fun (x1 : Int) (x2 : Int) (M : Mem) => WM X 7 [(0, vR 1), (1, vI x1), (2, vI x2)] [] M) → WM X 7 [(0, vR 1), (1, vI x1), (2, vI x2)] [] M := by
    intro x1 x2 M h
    unfold B_X0_roomLeft_7 at h
    refine m_iload_n C 2 dX0_roomLeft_7 rfl rfl ?_
    refine m_aload_n C 0 dX0_roomLeft_8 rfl rfl ?_
    refine m_getI C (k := 8) cl_X0 (by decide) so_1 rfl fl_X0_37 dX0_roomLeft_9 ?_
    refine m_icmp_ge C (tgt := 34) dX0_roomLeft_12 (by decide) (fun e => ?_) (fun e => ?_)
    · have h := h.1 e
      refine m_iload_n C 1 dX0_roomLeft_34 rfl rfl ?_
      exact m_iret C E (Or.inl rfl) dX0_roomLeft_35 h
    · have h := h.2 e
      refine m_iload_n C 1 dX0_roomLeft_15 rfl rfl ?_
      refine m_aload_n C 0 dX0_roomLeft_16 rfl rfl ?_
      refine m_aload_n C 0 dX0_roomLeft_17 rfl rfl ?_
      refine m_getR C (k := 9) cl_X0 (by decide) so_1 rfl fl_X0_40 dX0_roomLeft_18 ?_
      refine m_iload_n C 2 dX0_roomLeft_21 rfl rfl ?_
      refine m_iald C (N := 40) sa_6 h.1 dX0_roomLeft_22 ?_
      have h := h.2
      refine m_callVi C (as := [vI (M 6 (Int.toNat x2))]) (rest := [vI x1]) ok_X0_thickOf ml_X0_64 so_1 rfl rfl rfl (Nat.le_of_ble_eq_true rfl) (fun _ => rfl) dX0_roomLeft_23 (Con.mono h (fun r1 M2 _ _ h => ?_))
      refine m_isub C dX0_roomLeft_26 ?_
      refine m_istore_n C (L' := [(1, vI (w32 (x1 - r1))), (0, vR 1), (2, vI x2)]) dX0_roomLeft_27 rfl (by rw [hnL]; decide) rfl ?_
      refine m_iinc C (L' := [(2, vI (w32 (x2 + 1))), (1, vI (w32 (x1 - r1))), (0, vR 1)]) 2 dX0_roomLeft_28 rfl (by rw [hnL]; decide) rfl ?_
      refine m_goto C (tgt := 7) dX0_roomLeft_31 (by decide) ?_
      exact m_sub [2, 1, 0] rfl h
  have h := h (fun (x1 : Int) (x2 : Int) (M : Mem) => WM X 7 [(0, vR 1), (1, vI x1), (2, vI x2)] [] M) hb7
  unfold B_X0_roomLeft at h
  refine m_aload_n C 0 dX0_roomLeft_0 rfl rfl ?_
  refine m_getI C (k := 0) cl_X0 (by decide) so_1 rfl fl_X0_9 dX0_roomLeft_1 ?_
  refine m_istore_n C (L' := [(1, vI (M 1 0)), (0, vR 1)]) dX0_roomLeft_4 rfl (by rw [hnL]; decide) rfl ?_
  refine m_iconst C dX0_roomLeft_5 (r32_of rfl) ?_
  refine m_istore_n C (L' := [(2, vI 0), (1, vI (M 1 0)), (0, vR 1)]) dX0_roomLeft_6 rfl (by rw [hnL]; decide) rfl ?_
  exact m_sub [2, 1, 0] rfl h
def B_X0_thickOf (n : Nat) (a1 : Int) (M : Mem) (Q : Int → Mem → Prop)  : Prop :=
  Con n md_X0_hasFlower [vR 1, vI a1] M (fun r1 M2 =>
  ((r1 = 0 →
  Q 0 M2) ∧ (¬ r1 = 0 →
  ((0 ≤ a1 ∧ a1 < 6) ∧ ((0 ≤ a1 ∧ a1 < 6) ∧ Con n md_X1_thick [vI (M2 2 (Int.toNat a1)), vI (M2 3 (Int.toNat a1))] M2 (fun r3 M4 =>
    Q r3 M4))))))
set_option maxHeartbeats 4000000 in
set_option maxRecDepth 20000 in
theorem g_X0_thickOf {n : Nat} {a1 : Int} {M : Mem} {Q : Int → Mem → Prop}  (h : B_X0_thickOf n a1 M Q) : Con (n + 1) md_X0_thickOf [vR 1, vI a1] M Q := by
  refine Con.ofF (n := n + 1) (Nat.succ_pos n) pl_X0_thickOf (Nat.le_of_ble_eq_true rfl) (fun X C E hnL => ?_)
  have C : Cx X cX0_thickOf RX0 n := C
  show WM X 0 [(0, vR 1), (1, vI a1)] [] M
  unfold B_X0_thickOf at h
  refine m_aload_n C 0 dX0_thickOf_0 rfl rfl ?_
  refine m_iload_n C 1 dX0_thickOf_1 rfl rfl ?_
  refine m_callVi C (as := [vI a1]) (rest := []) ok_X0_hasFlower ml_X0_52 so_1 rfl rfl rfl (Nat.le_of_ble_eq_true rfl) (fun _ => rfl) dX0_thickOf_2 (Con.mono h (fun r1 M2 _ _ h => ?_))
  refine m_if_eq C (tgt := 26) dX0_thickOf_5 (by decide) (fun e => ?_) (fun e => ?_)
  · have h := h.1 e
    refine m_iconst C dX0_thickOf_26 (r32_of rfl) ?_
    exact m_iret C E (Or.inl rfl) dX0_thickOf_27 h
  · have h := h.2 e
    refine m_aload_n C 0 dX0_thickOf_8 rfl rfl ?_
    refine m_getR C (k := 4) cl_X0 (by decide) so_1 rfl fl_X0_24 dX0_thickOf_9 ?_
    refine m_iload_n C 1 dX0_thickOf_12 rfl rfl ?_
    refine m_iald C (N := 6) sa_2 h.1 dX0_thickOf_13 ?_
    have h := h.2
    refine m_aload_n C 0 dX0_thickOf_14 rfl rfl ?_
    refine m_getR C (k := 5) cl_X0 (by decide) so_1 rfl fl_X0_28 dX0_thickOf_15 ?_
    refine m_iload_n C 1 dX0_thickOf_18 rfl rfl ?_
    refine m_iald C (N := 6) sa_3 h.1 dX0_thickOf_19 ?_
    have h := h.2
    refine m_callSi C (as := [vI (M2 2 (Int.toNat a1)), vI (M2 3 (Int.toNat a1))]) (rest := []) ok_X1_thick ml_X0_68 rfl rfl (Nat.le_of_ble_eq_true rfl) (fun _ => rfl) dX0_thickOf_20 (Con.mono h (fun r3 M4 _ _ h => ?_))
    refine m_goto C (tgt := 27) dX0_thickOf_23 (by decide) ?_
    exact m_iret C E (Or.inl rfl) dX0_thickOf_27 h
def B_X0_colourOf (n : Nat) (a1 : Int) (M : Mem) (Q : Int → Mem → Prop)  : Prop :=
  Con n md_X0_hasFlower [vR 1, vI a1] M (fun r1 M2 =>
  ((r1 = 0 →
  Q 0 M2) ∧ (¬ r1 = 0 →
  ((0 ≤ a1 ∧ a1 < 6) ∧ Q (M2 4 (Int.toNat a1)) M2))))
set_option maxHeartbeats 4000000 in
set_option maxRecDepth 20000 in
theorem g_X0_colourOf {n : Nat} {a1 : Int} {M : Mem} {Q : Int → Mem → Prop}  (h : B_X0_colourOf n a1 M Q) : Con (n + 1) md_X0_colourOf [vR 1, vI a1] M Q := by
  refine Con.ofF (n := n + 1) (Nat.succ_pos n) pl_X0_colourOf (Nat.le_of_ble_eq_true rfl) (fun X C E hnL => ?_)
  have C : Cx X cX0_colourOf RX0 n := C
  show WM X 0 [(0, vR 1), (1, vI a1)] [] M
  unfold B_X0_colourOf at h
  refine m_aload_n C 0 dX0_colourOf_0 rfl rfl ?_
  refine m_iload_n C 1 dX0_colourOf_1 rfl rfl ?_
  refine m_callVi C (as := [vI a1]) (rest := []) ok_X0_hasFlower ml_X0_52 so_1 rfl rfl rfl (Nat.le_of_ble_eq_true rfl) (fun _ => rfl) dX0_colourOf_2 (Con.mono h (fun r1 M2 _ _ h => ?_))
  refine m_if_eq C (tgt := 17) dX0_colourOf_5 (by decide) (fun e => ?_) (fun e => ?_)
  · have h := h.1 e
    refine m_iconst C dX0_colourOf_17 (r32_of rfl) ?_
    exact m_iret C E (Or.inl rfl) dX0_colourOf_18 h
  · have h := h.2 e
    refine m_aload_n C 0 dX0_colourOf_8 rfl rfl ?_
    refine m_getR C (k := 6) cl_X0 (by decide) so_1 rfl fl_X0_31 dX0_colourOf_9 ?_
    refine m_iload_n C 1 dX0_colourOf_12 rfl rfl ?_
    refine m_iald C (N := 6) sa_4 h.1 dX0_colourOf_13 ?_
    have h := h.2
    refine m_goto C (tgt := 18) dX0_colourOf_14 (by decide) ?_
    exact m_iret C E (Or.inl rfl) dX0_colourOf_18 h
def B_X0_stemsOf_4 (n : Nat) (a1 : Int) (x2 : Int) (x3 : Int) (M : Mem) (Q : Int → Mem → Prop) (K4 : Int → Int → Mem → Prop) : Prop :=
  (((M 1 8) ≤ x3 →
  Q x2 M) ∧ (¬ (M 1 8) ≤ x3 →
  ((0 ≤ x3 ∧ x3 < 40) ∧ (((M 6 (Int.toNat x3)) = a1 →
    K4 (w32 (x2 + 1)) (w32 (x3 + 1)) M) ∧ (¬ (M 6 (Int.toNat x3)) = a1 →
    K4 x2 (w32 (x3 + 1)) M)))))
def B_X0_stemsOf (n : Nat) (a1 : Int) (M : Mem) (Q : Int → Mem → Prop) (K4 : Int → Int → Mem → Prop) : Prop :=
  K4 0 0 M
set_option maxHeartbeats 4000000 in
set_option maxRecDepth 20000 in
theorem g_X0_stemsOf {n : Nat} {a1 : Int} {M : Mem} {Q : Int → Mem → Prop}  (h : ∀ (K4 : Int → Int → Mem → Prop), (∀ (x2 : Int) (x3 : Int) (M : Mem), B_X0_stemsOf_4 n a1 x2 x3 M Q K4 → K4 x2 x3 M) → B_X0_stemsOf n a1 M Q K4) : Con (n + 1) md_X0_stemsOf [vR 1, vI a1] M Q := by
  refine Con.ofF (n := n + 1) (Nat.succ_pos n) pl_X0_stemsOf (Nat.le_of_ble_eq_true rfl) (fun X C E hnL => ?_)
  have C : Cx X cX0_stemsOf RX0 n := C
  show WM X 0 [(0, vR 1), (1, vI a1)] [] M
  have hb4 : ∀ (x2 : Int) (x3 : Int) (M : Mem), B_X0_stemsOf_4 n a1 x2 x3 M Q (fun (x2 : Int) (x3 : Int) (M : Mem) => WM X 4 [(0, vR 1), (1, vI a1), (2, vI x2), (3, vI x3)] [] M) → WM X 4 [(0, vR 1), (1, vI a1), (2, vI x2), (3, vI x3)] [] M := by
    intro x2 x3 M h
    unfold B_X0_stemsOf_4 at h
    refine m_iload_n C 3 dX0_stemsOf_4 rfl rfl ?_
    refine m_aload_n C 0 dX0_stemsOf_5 rfl rfl ?_
    refine m_getI C (k := 8) cl_X0 (by decide) so_1 rfl fl_X0_37 dX0_stemsOf_6 ?_
    refine m_icmp_ge C (tgt := 31) dX0_stemsOf_9 (by decide) (fun e => ?_) (fun e => ?_)
    · have h := h.1 e
      refine m_iload_n C 2 dX0_stemsOf_31 rfl rfl ?_
      exact m_iret C E (Or.inl rfl) dX0_stemsOf_32 h
    · have h := h.2 e
      refine m_aload_n C 0 dX0_stemsOf_12 rfl rfl ?_
      refine m_getR C (k := 9) cl_X0 (by decide) so_1 rfl fl_X0_40 dX0_stemsOf_13 ?_
      refine m_iload_n C 3 dX0_stemsOf_16 rfl rfl ?_
      refine m_iald C (N := 40) sa_6 h.1 dX0_stemsOf_17 ?_
      have h := h.2
      refine m_iload_n C 1 dX0_stemsOf_18 rfl rfl ?_
      refine m_icmp_ne C (tgt := 25) dX0_stemsOf_19 (by decide) (fun e => ?_) (fun e => ?_)
      · have h := h.2 e
        refine m_iinc C (L' := [(3, vI (w32 (x3 + 1))), (0, vR 1), (1, vI a1), (2, vI x2)]) 3 dX0_stemsOf_25 rfl (by rw [hnL]; decide) rfl ?_
        refine m_goto C (tgt := 4) dX0_stemsOf_28 (by decide) ?_
        exact m_sub [1, 2, 3, 0] rfl h
      · have h := h.1 e
        refine m_iinc C (L' := [(2, vI (w32 (x2 + 1))), (0, vR 1), (1, vI a1), (3, vI x3)]) 2 dX0_stemsOf_22 rfl (by rw [hnL]; decide) rfl ?_
        refine m_iinc C (L' := [(3, vI (w32 (x3 + 1))), (2, vI (w32 (x2 + 1))), (0, vR 1), (1, vI a1)]) 3 dX0_stemsOf_25 rfl (by rw [hnL]; decide) rfl ?_
        refine m_goto C (tgt := 4) dX0_stemsOf_28 (by decide) ?_
        exact m_sub [2, 3, 1, 0] rfl h
  have h := h (fun (x2 : Int) (x3 : Int) (M : Mem) => WM X 4 [(0, vR 1), (1, vI a1), (2, vI x2), (3, vI x3)] [] M) hb4
  unfold B_X0_stemsOf at h
  refine m_iconst C dX0_stemsOf_0 (r32_of rfl) ?_
  refine m_istore_n C (L' := [(2, vI 0), (0, vR 1), (1, vI a1)]) dX0_stemsOf_1 rfl (by rw [hnL]; decide) rfl ?_
  refine m_iconst C dX0_stemsOf_2 (r32_of rfl) ?_
  refine m_istore_n C (L' := [(3, vI 0), (2, vI 0), (0, vR 1), (1, vI a1)]) dX0_stemsOf_3 rfl (by rw [hnL]; decide) rfl ?_
  exact m_sub [2, 3, 1, 0] rfl h
def B_X0_stemsOfColour_4 (n : Nat) (a1 : Int) (x2 : Int) (x3 : Int) (M : Mem) (Q : Int → Mem → Prop) (K4 : Int → Int → Mem → Prop) : Prop :=
  (((M 1 8) ≤ x3 →
  Q x2 M) ∧ (¬ (M 1 8) ≤ x3 →
  ((0 ≤ x3 ∧ x3 < 40) ∧ Con n md_X0_colourOf [vR 1, vI (M 6 (Int.toNat x3))] M (fun r1 M2 =>
    ((r1 = a1 →
    K4 (w32 (x2 + 1)) (w32 (x3 + 1)) M2) ∧ (¬ r1 = a1 →
    K4 x2 (w32 (x3 + 1)) M2))))))
def B_X0_stemsOfColour (n : Nat) (a1 : Int) (M : Mem) (Q : Int → Mem → Prop) (K4 : Int → Int → Mem → Prop) : Prop :=
  K4 0 0 M
set_option maxHeartbeats 4000000 in
set_option maxRecDepth 20000 in
theorem g_X0_stemsOfColour {n : Nat} {a1 : Int} {M : Mem} {Q : Int → Mem → Prop}  (h : ∀ (K4 : Int → Int → Mem → Prop), (∀ (x2 : Int) (x3 : Int) (M : Mem), B_X0_stemsOfColour_4 n a1 x2 x3 M Q K4 → K4 x2 x3 M) → B_X0_stemsOfColour n a1 M Q K4) : Con (n + 1) md_X0_stemsOfColour [vR 1, vI a1] M Q := by
  refine Con.ofF (n := n + 1) (Nat.succ_pos n) pl_X0_stemsOfColour (Nat.le_of_ble_eq_true rfl) (fun X C E hnL => ?_)
  have C : Cx X cX0_stemsOfColour RX0 n := C
  show WM X 0 [(0, vR 1), (1, vI a1)] [] M
  have hb4 : ∀ (x2 : Int) (x3 : Int) (M : Mem), B_X0_stemsOfColour_4 n a1 x2 x3 M Q (fun (x2 : Int) (x3 : Int) (M : Mem) => WM X 4 [(0, vR 1), (1, vI a1), (2, vI x2), (3, vI x3)] [] M) → WM X 4 [(0, vR 1), (1, vI a1), (2, vI x2), (3, vI x3)] [] M := by
    intro x2 x3 M h
    unfold B_X0_stemsOfColour_4 at h
    refine m_iload_n C 3 dX0_stemsOfColour_4 rfl rfl ?_
    refine m_aload_n C 0 dX0_stemsOfColour_5 rfl rfl ?_
    refine m_getI C (k := 8) cl_X0 (by decide) so_1 rfl fl_X0_37 dX0_stemsOfColour_6 ?_
    refine m_icmp_ge C (tgt := 35) dX0_stemsOfColour_9 (by decide) (fun e => ?_) (fun e => ?_)
    · have h := h.1 e
      refine m_iload_n C 2 dX0_stemsOfColour_35 rfl rfl ?_
      exact m_iret C E (Or.inl rfl) dX0_stemsOfColour_36 h
    · have h := h.2 e
      refine m_aload_n C 0 dX0_stemsOfColour_12 rfl rfl ?_
      refine m_aload_n C 0 dX0_stemsOfColour_13 rfl rfl ?_
      refine m_getR C (k := 9) cl_X0 (by decide) so_1 rfl fl_X0_40 dX0_stemsOfColour_14 ?_
      refine m_iload_n C 3 dX0_stemsOfColour_17 rfl rfl ?_
      refine m_iald C (N := 40) sa_6 h.1 dX0_stemsOfColour_18 ?_
      have h := h.2
      refine m_callVi C (as := [vI (M 6 (Int.toNat x3))]) (rest := []) ok_X0_colourOf ml_X0_71 so_1 rfl rfl rfl (Nat.le_of_ble_eq_true rfl) (fun _ => rfl) dX0_stemsOfColour_19 (Con.mono h (fun r1 M2 _ _ h => ?_))
      refine m_iload_n C 1 dX0_stemsOfColour_22 rfl rfl ?_
      refine m_icmp_ne C (tgt := 29) dX0_stemsOfColour_23 (by decide) (fun e => ?_) (fun e => ?_)
      · have h := h.2 e
        refine m_iinc C (L' := [(3, vI (w32 (x3 + 1))), (0, vR 1), (1, vI a1), (2, vI x2)]) 3 dX0_stemsOfColour_29 rfl (by rw [hnL]; decide) rfl ?_
        refine m_goto C (tgt := 4) dX0_stemsOfColour_32 (by decide) ?_
        exact m_sub [1, 2, 3, 0] rfl h
      · have h := h.1 e
        refine m_iinc C (L' := [(2, vI (w32 (x2 + 1))), (0, vR 1), (1, vI a1), (3, vI x3)]) 2 dX0_stemsOfColour_26 rfl (by rw [hnL]; decide) rfl ?_
        refine m_iinc C (L' := [(3, vI (w32 (x3 + 1))), (2, vI (w32 (x2 + 1))), (0, vR 1), (1, vI a1)]) 3 dX0_stemsOfColour_29 rfl (by rw [hnL]; decide) rfl ?_
        refine m_goto C (tgt := 4) dX0_stemsOfColour_32 (by decide) ?_
        exact m_sub [2, 3, 1, 0] rfl h
  have h := h (fun (x2 : Int) (x3 : Int) (M : Mem) => WM X 4 [(0, vR 1), (1, vI a1), (2, vI x2), (3, vI x3)] [] M) hb4
  unfold B_X0_stemsOfColour at h
  refine m_iconst C dX0_stemsOfColour_0 (r32_of rfl) ?_
  refine m_istore_n C (L' := [(2, vI 0), (0, vR 1), (1, vI a1)]) dX0_stemsOfColour_1 rfl (by rw [hnL]; decide) rfl ?_
  refine m_iconst C dX0_stemsOfColour_2 (r32_of rfl) ?_
  refine m_istore_n C (L' := [(3, vI 0), (2, vI 0), (0, vR 1), (1, vI a1)]) dX0_stemsOfColour_3 rfl (by rw [hnL]; decide) rfl ?_
  exact m_sub [2, 3, 1, 0] rfl h
def B_X0_stemsInQuarter_4 (n : Nat) (a1 : Int) (x2 : Int) (x3 : Int) (M : Mem) (Q : Int → Mem → Prop) (K4 : Int → Int → Mem → Prop) : Prop :=
  (((M 1 8) ≤ x3 →
  Q x2 M) ∧ (¬ (M 1 8) ≤ x3 →
  ((0 ≤ x3 ∧ x3 < 40) ∧ (((w32 (Int.tdiv (M 7 (Int.toNat x3)) 4)) = a1 →
    K4 (w32 (x2 + 1)) (w32 (x3 + 1)) M) ∧ (¬ (w32 (Int.tdiv (M 7 (Int.toNat x3)) 4)) = a1 →
    K4 x2 (w32 (x3 + 1)) M)))))
def B_X0_stemsInQuarter (n : Nat) (a1 : Int) (M : Mem) (Q : Int → Mem → Prop) (K4 : Int → Int → Mem → Prop) : Prop :=
  K4 0 0 M
set_option maxHeartbeats 4000000 in
set_option maxRecDepth 20000 in
theorem g_X0_stemsInQuarter {n : Nat} {a1 : Int} {M : Mem} {Q : Int → Mem → Prop}  (h : ∀ (K4 : Int → Int → Mem → Prop), (∀ (x2 : Int) (x3 : Int) (M : Mem), B_X0_stemsInQuarter_4 n a1 x2 x3 M Q K4 → K4 x2 x3 M) → B_X0_stemsInQuarter n a1 M Q K4) : Con (n + 1) md_X0_stemsInQuarter [vR 1, vI a1] M Q := by
  refine Con.ofF (n := n + 1) (Nat.succ_pos n) pl_X0_stemsInQuarter (Nat.le_of_ble_eq_true rfl) (fun X C E hnL => ?_)
  have C : Cx X cX0_stemsInQuarter RX0 n := C
  show WM X 0 [(0, vR 1), (1, vI a1)] [] M
  have hb4 : ∀ (x2 : Int) (x3 : Int) (M : Mem), B_X0_stemsInQuarter_4 n a1 x2 x3 M Q (fun (x2 : Int) (x3 : Int) (M : Mem) => WM X 4 [(0, vR 1), (1, vI a1), (2, vI x2), (3, vI x3)] [] M) → WM X 4 [(0, vR 1), (1, vI a1), (2, vI x2), (3, vI x3)] [] M := by
    intro x2 x3 M h
    unfold B_X0_stemsInQuarter_4 at h
    refine m_iload_n C 3 dX0_stemsInQuarter_4 rfl rfl ?_
    refine m_aload_n C 0 dX0_stemsInQuarter_5 rfl rfl ?_
    refine m_getI C (k := 8) cl_X0 (by decide) so_1 rfl fl_X0_37 dX0_stemsInQuarter_6 ?_
    refine m_icmp_ge C (tgt := 33) dX0_stemsInQuarter_9 (by decide) (fun e => ?_) (fun e => ?_)
    · have h := h.1 e
      refine m_iload_n C 2 dX0_stemsInQuarter_33 rfl rfl ?_
      exact m_iret C E (Or.inl rfl) dX0_stemsInQuarter_34 h
    · have h := h.2 e
      refine m_aload_n C 0 dX0_stemsInQuarter_12 rfl rfl ?_
      refine m_getR C (k := 10) cl_X0 (by decide) so_1 rfl fl_X0_43 dX0_stemsInQuarter_13 ?_
      refine m_iload_n C 3 dX0_stemsInQuarter_16 rfl rfl ?_
      refine m_iald C (N := 40) sa_7 h.1 dX0_stemsInQuarter_17 ?_
      have h := h.2
      refine m_iconst C dX0_stemsInQuarter_18 (r32_of rfl) ?_
      refine m_idiv C dX0_stemsInQuarter_19 (by decide) ?_
      refine m_iload_n C 1 dX0_stemsInQuarter_20 rfl rfl ?_
      refine m_icmp_ne C (tgt := 27) dX0_stemsInQuarter_21 (by decide) (fun e => ?_) (fun e => ?_)
      · have h := h.2 e
        refine m_iinc C (L' := [(3, vI (w32 (x3 + 1))), (0, vR 1), (1, vI a1), (2, vI x2)]) 3 dX0_stemsInQuarter_27 rfl (by rw [hnL]; decide) rfl ?_
        refine m_goto C (tgt := 4) dX0_stemsInQuarter_30 (by decide) ?_
        exact m_sub [1, 2, 3, 0] rfl h
      · have h := h.1 e
        refine m_iinc C (L' := [(2, vI (w32 (x2 + 1))), (0, vR 1), (1, vI a1), (3, vI x3)]) 2 dX0_stemsInQuarter_24 rfl (by rw [hnL]; decide) rfl ?_
        refine m_iinc C (L' := [(3, vI (w32 (x3 + 1))), (2, vI (w32 (x2 + 1))), (0, vR 1), (1, vI a1)]) 3 dX0_stemsInQuarter_27 rfl (by rw [hnL]; decide) rfl ?_
        refine m_goto C (tgt := 4) dX0_stemsInQuarter_30 (by decide) ?_
        exact m_sub [2, 3, 1, 0] rfl h
  have h := h (fun (x2 : Int) (x3 : Int) (M : Mem) => WM X 4 [(0, vR 1), (1, vI a1), (2, vI x2), (3, vI x3)] [] M) hb4
  unfold B_X0_stemsInQuarter at h
  refine m_iconst C dX0_stemsInQuarter_0 (r32_of rfl) ?_
  refine m_istore_n C (L' := [(2, vI 0), (0, vR 1), (1, vI a1)]) dX0_stemsInQuarter_1 rfl (by rw [hnL]; decide) rfl ?_
  refine m_iconst C dX0_stemsInQuarter_2 (r32_of rfl) ?_
  refine m_istore_n C (L' := [(3, vI 0), (2, vI 0), (0, vR 1), (1, vI a1)]) dX0_stemsInQuarter_3 rfl (by rw [hnL]; decide) rfl ?_
  exact m_sub [2, 3, 1, 0] rfl h
def B_X0_inAllBuckets_4 (n : Nat)  (x1 : Int) (x2 : Int) (M : Mem) (Q : Int → Mem → Prop) (K4 : Int → Int → Mem → Prop) : Prop :=
  (((M 1 3) ≤ x2 →
  Q x1 M) ∧ (¬ (M 1 3) ≤ x2 →
  ((0 ≤ x2 ∧ x2 < 6) ∧ K4 (w32 (x1 + (M 5 (Int.toNat x2)))) (w32 (x2 + 1)) M)))
def B_X0_inAllBuckets (n : Nat)  (M : Mem) (Q : Int → Mem → Prop) (K4 : Int → Int → Mem → Prop) : Prop :=
  K4 0 0 M
set_option maxHeartbeats 4000000 in
set_option maxRecDepth 20000 in
theorem g_X0_inAllBuckets {n : Nat}  {M : Mem} {Q : Int → Mem → Prop}  (h : ∀ (K4 : Int → Int → Mem → Prop), (∀ (x1 : Int) (x2 : Int) (M : Mem), B_X0_inAllBuckets_4 n  x1 x2 M Q K4 → K4 x1 x2 M) → B_X0_inAllBuckets n  M Q K4) : Con (n + 1) md_X0_inAllBuckets [vR 1] M Q := by
  refine Con.ofF (n := n + 1) (Nat.succ_pos n) pl_X0_inAllBuckets (Nat.le_of_ble_eq_true rfl) (fun X C E hnL => ?_)
  have C : Cx X cX0_inAllBuckets RX0 n := C
  show WM X 0 [(0, vR 1)] [] M
  have hb4 : ∀ (x1 : Int) (x2 : Int) (M : Mem), B_X0_inAllBuckets_4 n  x1 x2 M Q (fun (x1 : Int) (x2 : Int) (M : Mem) => WM X 4 [(0, vR 1), (1, vI x1), (2, vI x2)] [] M) → WM X 4 [(0, vR 1), (1, vI x1), (2, vI x2)] [] M := by
    intro x1 x2 M h
    unfold B_X0_inAllBuckets_4 at h
    refine m_iload_n C 2 dX0_inAllBuckets_4 rfl rfl ?_
    refine m_aload_n C 0 dX0_inAllBuckets_5 rfl rfl ?_
    refine m_getI C (k := 3) cl_X0 (by decide) so_1 rfl fl_X0_21 dX0_inAllBuckets_6 ?_
    refine m_icmp_ge C (tgt := 27) dX0_inAllBuckets_9 (by decide) (fun e => ?_) (fun e => ?_)
    · have h := h.1 e
      refine m_iload_n C 1 dX0_inAllBuckets_27 rfl rfl ?_
      exact m_iret C E (Or.inl rfl) dX0_inAllBuckets_28 h
    · have h := h.2 e
      refine m_iload_n C 1 dX0_inAllBuckets_12 rfl rfl ?_
      refine m_aload_n C 0 dX0_inAllBuckets_13 rfl rfl ?_
      refine m_getR C (k := 7) cl_X0 (by decide) so_1 rfl fl_X0_34 dX0_inAllBuckets_14 ?_
      refine m_iload_n C 2 dX0_inAllBuckets_17 rfl rfl ?_
      refine m_iald C (N := 6) sa_5 h.1 dX0_inAllBuckets_18 ?_
      have h := h.2
      refine m_iadd C dX0_inAllBuckets_19 ?_
      refine m_istore_n C (L' := [(1, vI (w32 (x1 + (M 5 (Int.toNat x2))))), (0, vR 1), (2, vI x2)]) dX0_inAllBuckets_20 rfl (by rw [hnL]; decide) rfl ?_
      refine m_iinc C (L' := [(2, vI (w32 (x2 + 1))), (1, vI (w32 (x1 + (M 5 (Int.toNat x2))))), (0, vR 1)]) 2 dX0_inAllBuckets_21 rfl (by rw [hnL]; decide) rfl ?_
      refine m_goto C (tgt := 4) dX0_inAllBuckets_24 (by decide) ?_
      exact m_sub [2, 1, 0] rfl h
  have h := h (fun (x1 : Int) (x2 : Int) (M : Mem) => WM X 4 [(0, vR 1), (1, vI x1), (2, vI x2)] [] M) hb4
  unfold B_X0_inAllBuckets at h
  refine m_iconst C dX0_inAllBuckets_0 (r32_of rfl) ?_
  refine m_istore_n C (L' := [(1, vI 0), (0, vR 1)]) dX0_inAllBuckets_1 rfl (by rw [hnL]; decide) rfl ?_
  refine m_iconst C dX0_inAllBuckets_2 (r32_of rfl) ?_
  refine m_istore_n C (L' := [(2, vI 0), (1, vI 0), (0, vR 1)]) dX0_inAllBuckets_3 rfl (by rw [hnL]; decide) rfl ?_
  exact m_sub [2, 1, 0] rfl h
def B_X0_become_n (n : Nat)  (M : Mem) (Q : Int → Mem → Prop)  : Prop :=
  (∀ M1 : Mem, M1 = up M 1 0 (M 8 0) →
  (∀ M2 : Mem, M2 = up M1 1 1 (M1 8 1) →
  (∀ M3 : Mem, M3 = up M2 1 2 (M2 8 2) →
  (∀ M4 : Mem, M4 = up M3 1 3 (M3 8 3) →
  (∀ M5 : Mem, M5 = up M4 1 8 (M4 8 8) →
  (∀ M6 : Mem, M6 = cpM M5 9 2 0 0 6 →
  (∀ M7 : Mem, M7 = cpM M6 10 3 0 0 6 →
  (∀ M8 : Mem, M8 = cpM M7 11 4 0 0 6 →
  (∀ M9 : Mem, M9 = cpM M8 12 5 0 0 6 →
  (∀ M10 : Mem, M10 = cpM M9 13 6 0 0 40 →
  (∀ M11 : Mem, M11 = cpM M10 14 7 0 0 40 →
  Q 0 M11)))))))))))
set_option maxHeartbeats 4000000 in
set_option maxRecDepth 20000 in
theorem g_X0_become_n {n : Nat}  {M : Mem} {Q : Int → Mem → Prop}  (h : B_X0_become_n n  M Q) : Con (n + 1) md_X0_become [vR 1, vR 8] M Q := by
  refine Con.ofF (n := n + 1) (Nat.succ_pos n) pl_X0_become (Nat.le_of_ble_eq_true rfl) (fun X C E hnL => ?_)
  have C : Cx X cX0_become RX0 n := C
  show WM X 0 [(0, vR 1), (1, vR 8)] [] M
  unfold B_X0_become_n at h
  refine m_aload_n C 0 dX0_become_0 rfl rfl ?_
  refine m_aload_n C 1 dX0_become_1 rfl rfl ?_
  refine m_getI C (k := 0) cl_X0 (by decide) so_8 rfl fl_X0_9 dX0_become_2 ?_
  refine m_putI C (k := 0) cl_X0 (by decide) so_1 rfl rfl rfl fl_X0_9 dX0_become_5 ?_
  generalize eM1 : up M 1 0 (M 8 0) = M1
  have h := h M1 eM1.symm
  refine m_aload_n C 0 dX0_become_8 rfl rfl ?_
  refine m_aload_n C 1 dX0_become_9 rfl rfl ?_
  refine m_getI C (k := 1) cl_X0 (by decide) so_8 rfl fl_X0_15 dX0_become_10 ?_
  refine m_putI C (k := 1) cl_X0 (by decide) so_1 rfl rfl rfl fl_X0_15 dX0_become_13 ?_
  generalize eM2 : up M1 1 1 (M1 8 1) = M2
  have h := h M2 eM2.symm
  refine m_aload_n C 0 dX0_become_16 rfl rfl ?_
  refine m_aload_n C 1 dX0_become_17 rfl rfl ?_
  refine m_getI C (k := 2) cl_X0 (by decide) so_8 rfl fl_X0_18 dX0_become_18 ?_
  refine m_putI C (k := 2) cl_X0 (by decide) so_1 rfl rfl rfl fl_X0_18 dX0_become_21 ?_
  generalize eM3 : up M2 1 2 (M2 8 2) = M3
  have h := h M3 eM3.symm
  refine m_aload_n C 0 dX0_become_24 rfl rfl ?_
  refine m_aload_n C 1 dX0_become_25 rfl rfl ?_
  refine m_getI C (k := 3) cl_X0 (by decide) so_8 rfl fl_X0_21 dX0_become_26 ?_
  refine m_putI C (k := 3) cl_X0 (by decide) so_1 rfl rfl rfl fl_X0_21 dX0_become_29 ?_
  generalize eM4 : up M3 1 3 (M3 8 3) = M4
  have h := h M4 eM4.symm
  refine m_aload_n C 0 dX0_become_32 rfl rfl ?_
  refine m_aload_n C 1 dX0_become_33 rfl rfl ?_
  refine m_getI C (k := 8) cl_X0 (by decide) so_8 rfl fl_X0_37 dX0_become_34 ?_
  refine m_putI C (k := 8) cl_X0 (by decide) so_1 rfl rfl rfl fl_X0_37 dX0_become_37 ?_
  generalize eM5 : up M4 1 8 (M4 8 8) = M5
  have h := h M5 eM5.symm
  refine m_aload_n C 1 dX0_become_40 rfl rfl ?_
  refine m_getR C (k := 4) cl_X0 (by decide) so_8 rfl fl_X0_24 dX0_become_41 ?_
  refine m_iconst C dX0_become_44 (r32_of rfl) ?_
  refine m_aload_n C 0 dX0_become_45 rfl rfl ?_
  refine m_getR C (k := 4) cl_X0 (by decide) so_1 rfl fl_X0_24 dX0_become_46 ?_
  refine m_iconst C dX0_become_49 (r32_of rfl) ?_
  refine m_bipush C dX0_become_50 (r32_of rfl) (by decide) ?_
  refine m_copy C (N0 := 6) (N1 := 6) sa_9 sa_2 (by decide) mlc_X0_74 ac_nat ac_st ac_ini (Nat.le_of_ble_eq_true rfl) dX0_become_52 ?_
  generalize eM6 : cpM M5 9 2 0 0 6 = M6
  have h := h M6 eM6.symm
  refine m_aload_n C 1 dX0_become_55 rfl rfl ?_
  refine m_getR C (k := 5) cl_X0 (by decide) so_8 rfl fl_X0_28 dX0_become_56 ?_
  refine m_iconst C dX0_become_59 (r32_of rfl) ?_
  refine m_aload_n C 0 dX0_become_60 rfl rfl ?_
  refine m_getR C (k := 5) cl_X0 (by decide) so_1 rfl fl_X0_28 dX0_become_61 ?_
  refine m_iconst C dX0_become_64 (r32_of rfl) ?_
  refine m_bipush C dX0_become_65 (r32_of rfl) (by decide) ?_
  refine m_copy C (N0 := 6) (N1 := 6) sa_10 sa_3 (by decide) mlc_X0_74 ac_nat ac_st ac_ini (Nat.le_of_ble_eq_true rfl) dX0_become_67 ?_
  generalize eM7 : cpM M6 10 3 0 0 6 = M7
  have h := h M7 eM7.symm
  refine m_aload_n C 1 dX0_become_70 rfl rfl ?_
  refine m_getR C (k := 6) cl_X0 (by decide) so_8 rfl fl_X0_31 dX0_become_71 ?_
  refine m_iconst C dX0_become_74 (r32_of rfl) ?_
  refine m_aload_n C 0 dX0_become_75 rfl rfl ?_
  refine m_getR C (k := 6) cl_X0 (by decide) so_1 rfl fl_X0_31 dX0_become_76 ?_
  refine m_iconst C dX0_become_79 (r32_of rfl) ?_
  refine m_bipush C dX0_become_80 (r32_of rfl) (by decide) ?_
  refine m_copy C (N0 := 6) (N1 := 6) sa_11 sa_4 (by decide) mlc_X0_74 ac_nat ac_st ac_ini (Nat.le_of_ble_eq_true rfl) dX0_become_82 ?_
  generalize eM8 : cpM M7 11 4 0 0 6 = M8
  have h := h M8 eM8.symm
  refine m_aload_n C 1 dX0_become_85 rfl rfl ?_
  refine m_getR C (k := 7) cl_X0 (by decide) so_8 rfl fl_X0_34 dX0_become_86 ?_
  refine m_iconst C dX0_become_89 (r32_of rfl) ?_
  refine m_aload_n C 0 dX0_become_90 rfl rfl ?_
  refine m_getR C (k := 7) cl_X0 (by decide) so_1 rfl fl_X0_34 dX0_become_91 ?_
  refine m_iconst C dX0_become_94 (r32_of rfl) ?_
  refine m_bipush C dX0_become_95 (r32_of rfl) (by decide) ?_
  refine m_copy C (N0 := 6) (N1 := 6) sa_12 sa_5 (by decide) mlc_X0_74 ac_nat ac_st ac_ini (Nat.le_of_ble_eq_true rfl) dX0_become_97 ?_
  generalize eM9 : cpM M8 12 5 0 0 6 = M9
  have h := h M9 eM9.symm
  refine m_aload_n C 1 dX0_become_100 rfl rfl ?_
  refine m_getR C (k := 9) cl_X0 (by decide) so_8 rfl fl_X0_40 dX0_become_101 ?_
  refine m_iconst C dX0_become_104 (r32_of rfl) ?_
  refine m_aload_n C 0 dX0_become_105 rfl rfl ?_
  refine m_getR C (k := 9) cl_X0 (by decide) so_1 rfl fl_X0_40 dX0_become_106 ?_
  refine m_iconst C dX0_become_109 (r32_of rfl) ?_
  refine m_bipush C dX0_become_110 (r32_of rfl) (by decide) ?_
  refine m_copy C (N0 := 40) (N1 := 40) sa_13 sa_6 (by decide) mlc_X0_74 ac_nat ac_st ac_ini (Nat.le_of_ble_eq_true rfl) dX0_become_112 ?_
  generalize eM10 : cpM M9 13 6 0 0 40 = M10
  have h := h M10 eM10.symm
  refine m_aload_n C 1 dX0_become_115 rfl rfl ?_
  refine m_getR C (k := 10) cl_X0 (by decide) so_8 rfl fl_X0_43 dX0_become_116 ?_
  refine m_iconst C dX0_become_119 (r32_of rfl) ?_
  refine m_aload_n C 0 dX0_become_120 rfl rfl ?_
  refine m_getR C (k := 10) cl_X0 (by decide) so_1 rfl fl_X0_43 dX0_become_121 ?_
  refine m_iconst C dX0_become_124 (r32_of rfl) ?_
  refine m_bipush C dX0_become_125 (r32_of rfl) (by decide) ?_
  refine m_copy C (N0 := 40) (N1 := 40) sa_14 sa_7 (by decide) mlc_X0_74 ac_nat ac_st ac_ini (Nat.le_of_ble_eq_true rfl) dX0_become_127 ?_
  generalize eM11 : cpM M10 14 7 0 0 40 = M11
  have h := h M11 eM11.symm
  exact m_vret C E dX0_become_130 h
def B_X0_become_k (n : Nat)  (M : Mem) (Q : Int → Mem → Prop)  : Prop :=
  (∀ M1 : Mem, M1 = up M 8 0 (M 1 0) →
  (∀ M2 : Mem, M2 = up M1 8 1 (M1 1 1) →
  (∀ M3 : Mem, M3 = up M2 8 2 (M2 1 2) →
  (∀ M4 : Mem, M4 = up M3 8 3 (M3 1 3) →
  (∀ M5 : Mem, M5 = up M4 8 8 (M4 1 8) →
  (∀ M6 : Mem, M6 = cpM M5 2 9 0 0 6 →
  (∀ M7 : Mem, M7 = cpM M6 3 10 0 0 6 →
  (∀ M8 : Mem, M8 = cpM M7 4 11 0 0 6 →
  (∀ M9 : Mem, M9 = cpM M8 5 12 0 0 6 →
  (∀ M10 : Mem, M10 = cpM M9 6 13 0 0 40 →
  (∀ M11 : Mem, M11 = cpM M10 7 14 0 0 40 →
  Q 0 M11)))))))))))
set_option maxHeartbeats 4000000 in
set_option maxRecDepth 20000 in
theorem g_X0_become_k {n : Nat}  {M : Mem} {Q : Int → Mem → Prop}  (h : B_X0_become_k n  M Q) : Con (n + 1) md_X0_become [vR 8, vR 1] M Q := by
  refine Con.ofF (n := n + 1) (Nat.succ_pos n) pl_X0_become (Nat.le_of_ble_eq_true rfl) (fun X C E hnL => ?_)
  have C : Cx X cX0_become RX0 n := C
  show WM X 0 [(0, vR 8), (1, vR 1)] [] M
  unfold B_X0_become_k at h
  refine m_aload_n C 0 dX0_become_0 rfl rfl ?_
  refine m_aload_n C 1 dX0_become_1 rfl rfl ?_
  refine m_getI C (k := 0) cl_X0 (by decide) so_1 rfl fl_X0_9 dX0_become_2 ?_
  refine m_putI C (k := 0) cl_X0 (by decide) so_8 rfl rfl rfl fl_X0_9 dX0_become_5 ?_
  generalize eM1 : up M 8 0 (M 1 0) = M1
  have h := h M1 eM1.symm
  refine m_aload_n C 0 dX0_become_8 rfl rfl ?_
  refine m_aload_n C 1 dX0_become_9 rfl rfl ?_
  refine m_getI C (k := 1) cl_X0 (by decide) so_1 rfl fl_X0_15 dX0_become_10 ?_
  refine m_putI C (k := 1) cl_X0 (by decide) so_8 rfl rfl rfl fl_X0_15 dX0_become_13 ?_
  generalize eM2 : up M1 8 1 (M1 1 1) = M2
  have h := h M2 eM2.symm
  refine m_aload_n C 0 dX0_become_16 rfl rfl ?_
  refine m_aload_n C 1 dX0_become_17 rfl rfl ?_
  refine m_getI C (k := 2) cl_X0 (by decide) so_1 rfl fl_X0_18 dX0_become_18 ?_
  refine m_putI C (k := 2) cl_X0 (by decide) so_8 rfl rfl rfl fl_X0_18 dX0_become_21 ?_
  generalize eM3 : up M2 8 2 (M2 1 2) = M3
  have h := h M3 eM3.symm
  refine m_aload_n C 0 dX0_become_24 rfl rfl ?_
  refine m_aload_n C 1 dX0_become_25 rfl rfl ?_
  refine m_getI C (k := 3) cl_X0 (by decide) so_1 rfl fl_X0_21 dX0_become_26 ?_
  refine m_putI C (k := 3) cl_X0 (by decide) so_8 rfl rfl rfl fl_X0_21 dX0_become_29 ?_
  generalize eM4 : up M3 8 3 (M3 1 3) = M4
  have h := h M4 eM4.symm
  refine m_aload_n C 0 dX0_become_32 rfl rfl ?_
  refine m_aload_n C 1 dX0_become_33 rfl rfl ?_
  refine m_getI C (k := 8) cl_X0 (by decide) so_1 rfl fl_X0_37 dX0_become_34 ?_
  refine m_putI C (k := 8) cl_X0 (by decide) so_8 rfl rfl rfl fl_X0_37 dX0_become_37 ?_
  generalize eM5 : up M4 8 8 (M4 1 8) = M5
  have h := h M5 eM5.symm
  refine m_aload_n C 1 dX0_become_40 rfl rfl ?_
  refine m_getR C (k := 4) cl_X0 (by decide) so_1 rfl fl_X0_24 dX0_become_41 ?_
  refine m_iconst C dX0_become_44 (r32_of rfl) ?_
  refine m_aload_n C 0 dX0_become_45 rfl rfl ?_
  refine m_getR C (k := 4) cl_X0 (by decide) so_8 rfl fl_X0_24 dX0_become_46 ?_
  refine m_iconst C dX0_become_49 (r32_of rfl) ?_
  refine m_bipush C dX0_become_50 (r32_of rfl) (by decide) ?_
  refine m_copy C (N0 := 6) (N1 := 6) sa_2 sa_9 (by decide) mlc_X0_74 ac_nat ac_st ac_ini (Nat.le_of_ble_eq_true rfl) dX0_become_52 ?_
  generalize eM6 : cpM M5 2 9 0 0 6 = M6
  have h := h M6 eM6.symm
  refine m_aload_n C 1 dX0_become_55 rfl rfl ?_
  refine m_getR C (k := 5) cl_X0 (by decide) so_1 rfl fl_X0_28 dX0_become_56 ?_
  refine m_iconst C dX0_become_59 (r32_of rfl) ?_
  refine m_aload_n C 0 dX0_become_60 rfl rfl ?_
  refine m_getR C (k := 5) cl_X0 (by decide) so_8 rfl fl_X0_28 dX0_become_61 ?_
  refine m_iconst C dX0_become_64 (r32_of rfl) ?_
  refine m_bipush C dX0_become_65 (r32_of rfl) (by decide) ?_
  refine m_copy C (N0 := 6) (N1 := 6) sa_3 sa_10 (by decide) mlc_X0_74 ac_nat ac_st ac_ini (Nat.le_of_ble_eq_true rfl) dX0_become_67 ?_
  generalize eM7 : cpM M6 3 10 0 0 6 = M7
  have h := h M7 eM7.symm
  refine m_aload_n C 1 dX0_become_70 rfl rfl ?_
  refine m_getR C (k := 6) cl_X0 (by decide) so_1 rfl fl_X0_31 dX0_become_71 ?_
  refine m_iconst C dX0_become_74 (r32_of rfl) ?_
  refine m_aload_n C 0 dX0_become_75 rfl rfl ?_
  refine m_getR C (k := 6) cl_X0 (by decide) so_8 rfl fl_X0_31 dX0_become_76 ?_
  refine m_iconst C dX0_become_79 (r32_of rfl) ?_
  refine m_bipush C dX0_become_80 (r32_of rfl) (by decide) ?_
  refine m_copy C (N0 := 6) (N1 := 6) sa_4 sa_11 (by decide) mlc_X0_74 ac_nat ac_st ac_ini (Nat.le_of_ble_eq_true rfl) dX0_become_82 ?_
  generalize eM8 : cpM M7 4 11 0 0 6 = M8
  have h := h M8 eM8.symm
  refine m_aload_n C 1 dX0_become_85 rfl rfl ?_
  refine m_getR C (k := 7) cl_X0 (by decide) so_1 rfl fl_X0_34 dX0_become_86 ?_
  refine m_iconst C dX0_become_89 (r32_of rfl) ?_
  refine m_aload_n C 0 dX0_become_90 rfl rfl ?_
  refine m_getR C (k := 7) cl_X0 (by decide) so_8 rfl fl_X0_34 dX0_become_91 ?_
  refine m_iconst C dX0_become_94 (r32_of rfl) ?_
  refine m_bipush C dX0_become_95 (r32_of rfl) (by decide) ?_
  refine m_copy C (N0 := 6) (N1 := 6) sa_5 sa_12 (by decide) mlc_X0_74 ac_nat ac_st ac_ini (Nat.le_of_ble_eq_true rfl) dX0_become_97 ?_
  generalize eM9 : cpM M8 5 12 0 0 6 = M9
  have h := h M9 eM9.symm
  refine m_aload_n C 1 dX0_become_100 rfl rfl ?_
  refine m_getR C (k := 9) cl_X0 (by decide) so_1 rfl fl_X0_40 dX0_become_101 ?_
  refine m_iconst C dX0_become_104 (r32_of rfl) ?_
  refine m_aload_n C 0 dX0_become_105 rfl rfl ?_
  refine m_getR C (k := 9) cl_X0 (by decide) so_8 rfl fl_X0_40 dX0_become_106 ?_
  refine m_iconst C dX0_become_109 (r32_of rfl) ?_
  refine m_bipush C dX0_become_110 (r32_of rfl) (by decide) ?_
  refine m_copy C (N0 := 40) (N1 := 40) sa_6 sa_13 (by decide) mlc_X0_74 ac_nat ac_st ac_ini (Nat.le_of_ble_eq_true rfl) dX0_become_112 ?_
  generalize eM10 : cpM M9 6 13 0 0 40 = M10
  have h := h M10 eM10.symm
  refine m_aload_n C 1 dX0_become_115 rfl rfl ?_
  refine m_getR C (k := 10) cl_X0 (by decide) so_1 rfl fl_X0_43 dX0_become_116 ?_
  refine m_iconst C dX0_become_119 (r32_of rfl) ?_
  refine m_aload_n C 0 dX0_become_120 rfl rfl ?_
  refine m_getR C (k := 10) cl_X0 (by decide) so_8 rfl fl_X0_43 dX0_become_121 ?_
  refine m_iconst C dX0_become_124 (r32_of rfl) ?_
  refine m_bipush C dX0_become_125 (r32_of rfl) (by decide) ?_
  refine m_copy C (N0 := 40) (N1 := 40) sa_7 sa_14 (by decide) mlc_X0_74 ac_nat ac_st ac_ini (Nat.le_of_ble_eq_true rfl) dX0_become_127 ?_
  generalize eM11 : cpM M10 7 14 0 0 40 = M11
  have h := h M11 eM11.symm
  exact m_vret C E dX0_become_130 h
