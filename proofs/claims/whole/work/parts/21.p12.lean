/-! CHANCE; MONEY; THE IMAGE; COUNTS; THE TAPE -/
section XC
variable {n : Nat} {τ : Int → Int → (Nat → Int) → Int} {h x M : Mem} {Q : Int → Mem → Prop}
/-- the greatest by which both can be divided, from d down -/
def cdS (a b : Int) : Nat → Int
  | 0 => 1
  | d + 1 => if (d + 1 : Int) ≤ 1 then 1 else if Int.tmod a (d + 1) = 0 ∧ Int.tmod b (d + 1) = 0 then (d + 1 : Int) else cdS a b d
theorem cdS_gcd : ∀ a, a < 21 → ∀ b, b < 21 → 0 < b → cdS (a : Nat) (b : Nat) b = (Nat.gcd a b : Nat) := by decide +kernel
theorem c_commonDivisor {a b : Int} (hb : 1 ≤ b ∧ b ≤ 20) (hq : Q (cdS a b b.toNat) M) : Con (n + 1) md_X9_commonDivisor [vI a, vI b] M Q := g_X9_commonDivisor (by
  intro K hK
  unfold B_X9_commonDivisor
  obtain ⟨R, hR⟩ : ∃ R, R = cdS a b b.toNat := ⟨_, rfl⟩
  rw [← hR] at hq
  have key : ∀ d : Nat, d ≤ 20 → cdS a b d = R → K (d : Int) M := by
    intro d
    induction d with
    | zero =>
      intro _ he
      apply hK
      unfold B_X9_commonDivisor_2
      unfold cdS at he
      exact ⟨fun _ => by rw [he]; exact hq, fun e => absurd (by decide) e⟩
    | succ d ih =>
      intro hd he
      apply hK
      unfold B_X9_commonDivisor_2
      unfold cdS at he
      have ed : ((d + 1 : Nat) : Int) = (d : Int) + 1 := by omega
      rw [ed]
      have em : w32 ((d : Int) + 1 + (-1)) = (d : Int) := by rw [w32_id (by omega)]; omega
      rw [em]
      refine ⟨fun e => by rw [if_pos e] at he; rw [he]; exact hq, fun e => ⟨by omega, ?_⟩⟩
      rw [if_neg e] at he
      refine ⟨fun e1 => ⟨by omega, fun e2 => ?_, fun e2 => ?_⟩, fun e1 => ?_⟩
      · rw [if_pos ⟨e1, e2⟩] at he; rw [he]; exact hq
      · rw [if_neg (fun q => e2 q.2)] at he; exact ih (by omega) he
      · rw [if_neg (fun q => e1 q.1)] at he; exact ih (by omega) he
  have := key b.toNat (by omega) hR.symm
  rwa [show ((b.toNat : Nat) : Int) = b by omega] at this)
/-- of so many seeds those by which it is k or fewer -/
def fwS (τ : Int → Int → (Nat → Int) → Int) (h : Mem) (z k : Int) : Nat → Int
  | 0 => 0
  | i + 1 => fwS τ h z k i + (if tcH (dwS τ 20 (w32 (z + (i : Int))) h) ≤ k then 1 else 0)
theorem fwS_b (z k : Int) : ∀ i, 0 ≤ fwS τ h z k i ∧ fwS τ h z k i ≤ i
  | 0 => by unfold fwS; omega
  | i + 1 => by have := fwS_b z k i; unfold fwS; split <;> omega
abbrev okH (h : Mem) (m k p : Int) : Prop := (1 ≤ m ∧ m ≤ 20) ∧ (0 ≤ k ∧ k ≤ 999) ∧ (0 ≤ p ∧ p ≤ 1) ∧ h 0 3 ≠ 0
def chR (τ : Int → Int → (Nat → Int) → Int) (h : Mem) (z m k p : Int) : Int := if okH h m k p then (if p = 0 then fwS τ h z k m.toNat / (Nat.gcd (fwS τ h z k m.toNat).toNat m.toNat : Nat) else m / (Nat.gcd (fwS τ h z k m.toNat).toNat m.toNat : Nat)) else -4611686018427387904
theorem x_chance {z m k p : Int} (H : Hd h M) (W : Wf h) (TT : TC τ M) (hr : 0 ≤ h 0 2 ∧ h 0 2 < M 17 0) (hq : ∀ M', Fr sC M M' → Q (chR τ h z m k p) M') : Con (n + 7) md_X9_chance [vR 0, vI z, vI m, vI k, vI p] M Q := g_X9_chance (by
  intro K hK
  unfold B_X9_chance
  unfold chR at hq
  have h3 := W.2.2.1
  rw [H.2.2.2.1]
  refine ⟨fun e => by rw [if_neg (by unfold okH; omega)] at hq; exact hq M Fr.rf, fun e0 => ⟨fun e => by rw [if_neg (by unfold okH; omega)] at hq; exact hq M Fr.rf, fun e1 => ⟨fun e => by rw [if_neg (by unfold okH; omega)] at hq; exact hq M Fr.rf, fun e2 => ⟨fun e => by rw [if_neg (by unfold okH; omega)] at hq; exact hq M Fr.rf, fun e3 => ⟨fun e => by rw [if_neg (by unfold okH; omega)] at hq; exact hq M Fr.rf, fun e4 => ⟨fun e5 => ⟨fun e => by rw [if_neg (by unfold okH; omega)] at hq; exact hq M Fr.rf, fun e6 => ?_⟩, fun e => by rw [if_neg (by unfold okH; omega)] at hq; exact hq M Fr.rf⟩⟩⟩⟩⟩⟩
  rw [if_pos (by unfold okH; omega)] at hq
  refine loopUp (P := fun i => ∀ M' : Mem, Fr sC M M' → K (fwS τ h z k i) (i : Int) M') m.toNat ?_ ?_ 0 (Nat.zero_le _) M Fr.rf
  · intro M' hF
    apply hK
    unfold B_X9_chance_57
    have hb := fwS_b (τ := τ) (h := h) z k m.toNat
    refine ⟨fun _ => c_commonDivisor (by omega) ?_, fun e => absurd (show m ≤ ((m.toNat : Nat) : Int) by omega) e⟩
    have eg := cdS_gcd (fwS τ h z k m.toNat).toNat (by omega) m.toNat (by omega) (by omega)
    rw [show (((fwS τ h z k m.toNat).toNat : Nat) : Int) = fwS τ h z k m.toNat by omega, show ((m.toNat : Nat) : Int) = m by omega] at eg
    rw [eg]
    have gp : 0 < Nat.gcd (fwS τ h z k m.toNat).toNat m.toNat := Nat.gcd_pos_of_pos_right _ (by omega)
    have gle : Nat.gcd (fwS τ h z k m.toNat).toNat m.toNat ≤ m.toNat := Nat.gcd_le_right _ (by omega)
    have d1 : fwS τ h z k m.toNat / (Nat.gcd (fwS τ h z k m.toNat).toNat m.toNat : Nat) ≤ fwS τ h z k m.toNat := Int.ediv_le_self _ hb.1
    have d2 : 0 ≤ fwS τ h z k m.toNat / (Nat.gcd (fwS τ h z k m.toNat).toNat m.toNat : Nat) := Int.ediv_nonneg hb.1 (by omega)
    have d3 : m / (Nat.gcd (fwS τ h z k m.toNat).toNat m.toNat : Nat) ≤ m := Int.ediv_le_self _ (by omega)
    have d4 : 0 ≤ m / (Nat.gcd (fwS τ h z k m.toNat).toNat m.toNat : Nat) := Int.ediv_nonneg (by omega) (by omega)
    rw [Int.tdiv_eq_ediv_of_nonneg hb.1, Int.tdiv_eq_ediv_of_nonneg (a := m) (by omega), w32_id (by omega), w32_id (by omega)]
    refine ⟨fun e => by omega, fun _ => ⟨fun e => ⟨by omega, ?_⟩, fun e => ⟨by omega, ?_⟩⟩⟩
    · rw [if_pos e] at hq; exact hq M' hF
    · rw [if_neg e] at hq; exact hq M' hF
  · intro i hi ih M' hF
    apply hK
    unfold B_X9_chance_57
    have hb := fwS_b (τ := τ) (h := h) z k i
    refine ⟨fun e => by omega, fun _ => c_touchingDrawn (H.fr hF sC7) W (TT.fr hF sC31) (by rw [hF 17 0 (by decide)]; exact hr) (by omega) (by decide) (fun M4 hF4 => ?_)⟩
    rw [w32_id (x := (i : Int) + 1) (by omega), w32_id (x := fwS τ h z k i + 1) (by omega)]
    have := ih M4 (hF.tr hF4)
    unfold fwS at this
    show (k < tcH (dwS τ 20 _ h) → _) ∧ (¬ k < tcH (dwS τ 20 _ h) → _)
    refine ⟨fun e => ?_, fun e => ?_⟩
    · rw [if_neg (by omega), Int.add_zero] at this; exact this
    · rw [if_pos (by omega)] at this; exact this)
/-- not yet bought -/
abbrev ubF (u f : Int) : Prop := an_d (sh_r u f) 1 = 0
/-- the cheapest that isn't bought, and its price -/
def chS (τ : Int → Int → (Nat → Int) → Int) (h : Mem) (u : Int) : Nat → Int × Int
  | 0 => (-1, 0)
  | f + 1 => if ubF u (f : Int) ∧ ((chS τ h u f).1 = -1 ∨ coH τ h (f : Int) < (chS τ h u f).2) then ((f : Int), coH τ h (f : Int)) else chS τ h u f
theorem c_cheapestBut {u : Int} (H : Hd h M) (W : Wf h) (TT : TC τ M) (hr : 0 ≤ h 0 2 ∧ h 0 2 < M 17 0) (hq : ∀ M', Fr sC M M' → Q (chS τ h u (h 0 3).toNat).1 M') : Con (n + 5) md_X9_cheapestBut [vR 0, vI u] M Q := g_X9_cheapestBut (by
  intro K hK
  unfold B_X9_cheapestBut
  have h3 := W.2.2.1
  refine loopUp (P := fun f => ∀ M', Fr sC M M' → K (chS τ h u f).1 (chS τ h u f).2 (f : Int) M') (h 0 3).toNat ?_ ?_ 0 (Nat.zero_le _) M Fr.rf
  · intro M' hF
    apply hK
    unfold B_X9_cheapestBut_7
    rw [(H.fr hF sC7).2.2.2.1]
    exact ⟨fun _ => hq M' hF, fun e => absurd (show h 0 3 ≤ (((h 0 3).toNat : Nat) : Int) by omega) e⟩
  · intro f hf ih M' hF
    apply hK
    unfold B_X9_cheapestBut_7
    have H' := H.fr hF sC7
    have hw := W.2.2.2.2.1 f (by omega)
    have hff : 0 ≤ (f : Int) ∧ (f : Int) < h 0 3 := by omega
    rw [H'.2.2.2.1, w32_id (x := (f : Int) + 1) (by omega)]
    refine ⟨fun e => by omega, fun _ => c_asNow H' W hff (fun M2 hF2 hM2 => ?_)⟩
    have hF02 : Fr sC M M2 := hF.tr (hF2.mono (by decide))
    refine c_Mcosts (TT.fr hF02 sC31) hM2 (by rw [hF02 17 0 (by decide)]; exact hr) hw.1 hw.2.1 (fun M4 hF4 => ?_)
    have := ih M4 (hF02.tr (hF4.mono (by decide)))
    unfold chS at this
    show (ubF u (f : Int) → (_ → K (f : Int) (coH τ h (f : Int)) _ _) ∧ (_ → (_ ≤ coH τ h (f : Int) → _) ∧ (¬ _ ≤ coH τ h (f : Int) → K (f : Int) (coH τ h (f : Int)) _ _))) ∧ (¬ ubF u (f : Int) → _)
    refine ⟨fun e => ⟨fun e1 => ?_, fun e1 => ⟨fun e2 => ?_, fun e2 => ?_⟩⟩, fun e => ?_⟩
    · rw [if_pos ⟨e, Or.inl e1⟩] at this; exact this
    · rw [if_neg (by rintro ⟨-, q | q⟩ <;> omega)] at this; exact this
    · rw [if_pos ⟨e, Or.inr (by omega)⟩] at this; exact this
    · rw [if_neg (fun q => e q.1)] at this; exact this)
theorem ub0 : ∀ f, f < 6 → ubF 0 ((f : Nat) : Int) := by decide +kernel
theorem ubs : ∀ u, u < 64 → ∀ g, g < 6 → (0 ≤ o_r ((u : Nat) : Int) (sh_l 1 ((g : Nat) : Int)) ∧ o_r ((u : Nat) : Int) (sh_l 1 ((g : Nat) : Int)) < 64) ∧ ∀ f, f < 6 → (ubF (o_r ((u : Nat) : Int) (sh_l 1 ((g : Nat) : Int))) ((f : Nat) : Int) ↔ (ubF ((u : Nat) : Int) ((f : Nat) : Int) ∧ f ≠ g)) := by decide +kernel
/-- how many aren't bought -/
def ucS (u : Int) (m : Nat) : Int := sm (fun f => if ubF u (f : Int) then 1 else 0) m
theorem ucS_0 {m : Nat} (hm : m ≤ 6) : ucS 0 m = m := by
  unfold ucS
  have : ∀ k : Nat, k ≤ 6 → sm (fun f => if ubF 0 (f : Int) then (1 : Int) else 0) k = k := by
    intro k
    induction k with
    | zero => intro _; rfl
    | succ k ih => intro hk; unfold sm; rw [ih (by omega), if_pos (ub0 k (by omega))]; omega
  exact this m hm
theorem ucS_s {u g : Nat} (hu : u < 64) (hg : g < 6) (hub : ubF (u : Int) (g : Int)) : ∀ m, m ≤ 6 → ucS (o_r (u : Int) (sh_l 1 (g : Int))) m = ucS (u : Int) m - (if g < m then 1 else 0) := by
  intro m
  induction m with
  | zero => intro _; rfl
  | succ m ih =>
    intro hm
    have hi := (ubs u hu g hg).2 m (by omega)
    have e1 : ucS (o_r (u : Int) (sh_l 1 (g : Int))) (m + 1) = ucS (o_r (u : Int) (sh_l 1 (g : Int))) m + (if ubF (o_r (u : Int) (sh_l 1 (g : Int))) (m : Int) then 1 else 0) := rfl
    have e2 : ucS (u : Int) (m + 1) = ucS (u : Int) m + (if ubF (u : Int) (m : Int) then 1 else 0) := rfl
    rw [e1, e2, ih (by omega)]
    by_cases hgm : m = g
    · subst hgm
      rw [if_pos hub, if_neg (fun c => (hi.mp c).2 rfl), if_neg (by omega), if_pos (by omega)]; omega
    · by_cases hc : ubF (u : Int) (m : Int)
      · rw [if_pos hc, if_pos (hi.mpr ⟨hc, hgm⟩)]
        by_cases hl : g < m
        · rw [if_pos hl, if_pos (by omega)]; omega
        · rw [if_neg hl, if_neg (by omega)]; omega
      · rw [if_neg hc, if_neg (fun c => hc (hi.mp c).1)]
        by_cases hl : g < m
        · rw [if_pos hl, if_pos (by omega)]; omega
        · rw [if_neg hl, if_neg (by omega)]; omega
/-- while some aren't bought one is found, and it is such -/
theorem chS_ok (u : Int) : ∀ m : Nat, ((chS τ h u m).1 = -1 ∧ ucS u m = 0) ∨ (∃ g : Nat, g < m ∧ (chS τ h u m).1 = (g : Int) ∧ (chS τ h u m).2 = coH τ h (g : Int) ∧ ubF u (g : Int) ∧ 0 < ucS u m)
  | 0 => Or.inl ⟨rfl, rfl⟩
  | m + 1 => by
    have e2 : ucS u (m + 1) = ucS u m + (if ubF u (m : Int) then 1 else 0) := rfl
    have hb : 0 ≤ ucS u m := (sm01 (fun f => ubF u (f : Int)) inferInstance m).1
    rcases chS_ok u m with ⟨q1, q2⟩ | ⟨g, q1, q2, q3, q4, q5⟩
    · by_cases hc : ubF u (m : Int)
      · refine Or.inr ⟨m, by omega, ?_⟩
        unfold chS
        rw [if_pos ⟨hc, Or.inl q1⟩, e2, if_pos hc]
        exact ⟨rfl, rfl, hc, by omega⟩
      · refine Or.inl ?_
        unfold chS
        rw [if_neg (fun q => hc q.1), e2, if_neg hc]
        exact ⟨q1, by omega⟩
    · refine Or.inr ?_
      unfold chS
      by_cases hc : ubF u (m : Int) ∧ ((chS τ h u m).1 = -1 ∨ coH τ h (m : Int) < (chS τ h u m).2)
      · rw [if_pos hc, e2, if_pos hc.1]
        exact ⟨m, by omega, rfl, rfl, hc.1, by omega⟩
      · rw [if_neg hc, e2]
        refine ⟨g, by omega, q2, q3, q4, ?_⟩
        split <;> omega
/-- buying, flower by flower: money left, stems -/
def fyS (τ : Int → Int → (Nat → Int) → Int) (h : Mem) : Nat → Int → Int → Int → Int
  | 0, _, c, _ => c
  | j + 1, u, c, k => fyS τ h j (o_r u (sh_l 1 (chS τ h u (h 0 3).toNat).1)) (c + (if coH τ h (chS τ h u (h 0 3).toNat).1 ≤ 0 then h 4 (chS τ h u (h 0 3).toNat).1.toNat else min (h 4 (chS τ h u (h 0 3).toNat).1.toNat) (k / coH τ h (chS τ h u (h 0 3).toNat).1)))
      (k - (if coH τ h (chS τ h u (h 0 3).toNat).1 ≤ 0 then h 4 (chS τ h u (h 0 3).toNat).1.toNat else min (h 4 (chS τ h u (h 0 3).toNat).1.toNat) (k / coH τ h (chS τ h u (h 0 3).toNat).1)) * coH τ h (chS τ h u (h 0 3).toNat).1)
def fyR (τ : Int → Int → (Nat → Int) → Int) (h : Mem) (k : Int) : Int := if 0 ≤ k ∧ k ≤ 9999 then fyS τ h (h 0 3).toNat 0 0 k else -2
/-- so many are paid -/
theorem pay_b {b c k : Int} (hb : 0 ≤ b ∧ b ≤ 40) (hc : 0 ≤ c ∧ c ≤ 1998) (hk : 0 ≤ k ∧ k ≤ 9999) (hz : ¬ c ≤ 0) : (0 ≤ min b (k / c) ∧ min b (k / c) ≤ 40) ∧ 0 ≤ min b (k / c) * c ∧ min b (k / c) * c ≤ k := by
  have d1 : 0 ≤ k / c := Int.ediv_nonneg hk.1 hc.1
  have d2 : k / c * c ≤ k := Int.ediv_mul_le k (by omega)
  have d3 : min b (k / c) * c ≤ k / c * c := Int.mul_le_mul_of_nonneg_right (by omega) hc.1
  have d4 : 0 ≤ min b (k / c) * c := Int.mul_nonneg (by omega) hc.1
  omega
theorem x_forMoney {k : Int} (H : Hd h M) (W : Wf h) (TT : TC τ M) (hr : 0 ≤ h 0 2 ∧ h 0 2 < M 17 0) (hq : ∀ M', Fr sC M M' → Q (fyR τ h k) M') : Con (n + 6) md_X9_forMoney [vR 0, vI k] M Q := g_X9_forMoney (by
  intro K hK
  unfold B_X9_forMoney
  unfold fyR at hq
  have h3 := W.2.2.1
  refine ⟨fun e => by rw [if_neg (by omega)] at hq; exact hq M Fr.rf, fun e => ⟨fun e1 => ?_, fun e1 => by rw [if_neg (by omega)] at hq; exact hq M Fr.rf⟩⟩
  rw [if_pos (by omega)] at hq
  obtain ⟨R, hR⟩ : ∃ R, R = fyS τ h (h 0 3).toNat 0 0 k := ⟨_, rfl⟩
  rw [← hR] at hq
  have key : ∀ (j i u : Nat) (c k' : Int) (M' : Mem), (i : Int) + j = h 0 3 → u < 64 → ucS (u : Int) (h 0 3).toNat = j → (0 ≤ c ∧ c ≤ 40 * i) → (0 ≤ k' ∧ k' ≤ 9999) → Fr sC M M' → fyS τ h j (u : Int) c k' = R → K k' c (u : Int) (i : Int) M' := by
    intro j
    induction j with
    | zero =>
      intro i u c k' M' hi hu huc hc hk' hF he
      apply hK
      unfold B_X9_forMoney_24
      rw [(H.fr hF sC7).2.2.2.1]
      unfold fyS at he
      exact ⟨fun _ => by rw [he]; exact hq M' hF, fun e => by omega⟩
    | succ j ih =>
      intro i u c k' M' hi hu huc hc hk' hF he
      apply hK
      unfold B_X9_forMoney_24
      rw [(H.fr hF sC7).2.2.2.1]
      refine ⟨fun e => by omega, fun _ => c_cheapestBut (H.fr hF sC7) W (TT.fr hF sC31) (by rw [hF 17 0 (by decide)]; exact hr) (fun M2 hF2 => ?_)⟩
      rcases chS_ok (τ := τ) (h := h) (u : Int) (h 0 3).toNat with ⟨-, q2⟩ | ⟨g, q1, q2, q3, q4, q5⟩
      · omega
      unfold fyS at he
      rw [q2] at he ⊢
      have hgf : 0 ≤ (g : Int) ∧ (g : Int) < h 0 3 := by omega
      have hw := W.2.2.2.2.1 g (by omega)
      have hF02 : Fr sC M M2 := hF.tr hF2
      refine ⟨fun e => by omega, fun _ => c_asNow (H.fr hF02 sC7) W hgf (fun M4 hF4 hM4 => ?_)⟩
      have hF04 : Fr sC M M4 := hF02.tr (hF4.mono (by decide))
      refine c_Mcosts (TT.fr hF04 sC31) hM4 (by rw [hF04 17 0 (by decide)]; exact hr) hw.1 hw.2.1 (fun M6 hF6 => ?_)
      have hF06 : Fr sC M M6 := hF04.tr (hF6.mono (by decide))
      have H6 := H.fr hF06 sC7
      show (coH τ h (g : Int) ≤ 0 → _) ∧ (¬ coH τ h (g : Int) ≤ 0 → _ ∧ coH τ h (g : Int) ≠ 0 ∧ Con _ _ [_, vI (w32 (Int.tdiv k' (coH τ h (g : Int))))] _ _)
      have hb := coH_b (τ := τ) W hgf
      rw [show (g : Int).toNat = g from rfl] at he ⊢
      rw [(H6.2.2.2.2.2.1 g (by omega)).2.2.2, w32_id (x := (i : Int) + 1) (by omega)]
      have hub := ubs u hu g (by omega)
      obtain ⟨u', hu'⟩ : ∃ u' : Nat, (u' : Int) = o_r (u : Int) (sh_l 1 (g : Int)) := ⟨(o_r (u : Int) (sh_l 1 (g : Int))).toNat, by omega⟩
      have hus := ucS_s hu (show g < 6 by omega) q4 (h 0 3).toNat (by omega)
      rw [if_pos (by omega)] at hus
      rw [← hu'] at he hus ⊢
      refine ⟨fun e => ⟨by omega, ?_⟩, fun e => ⟨by omega, by omega, ?_⟩⟩
      · have e0 : coH τ h (g : Int) = 0 := by omega
        rw [if_pos e] at he
        show K (w32 (k' - w32 (h 4 g * coH τ h (g : Int)))) _ _ _ _
        rw [e0, Int.mul_zero] at he ⊢
        rw [w32_id (x := 0) (by decide), w32_id (x := k' - 0) (by omega), w32_id (x := c + h 4 g) (by omega), Int.sub_zero]
        rw [Int.sub_zero] at he
        exact ih (i + 1) u' _ k' M6 (by omega) (by omega) (by omega) (by omega) hk' hF06 he
      · rw [if_neg e] at he
        have pb := pay_b hw.2.2.2 hb hk' e
        have ed : Int.tdiv k' (coH τ h (g : Int)) = k' / coH τ h (g : Int) := Int.tdiv_eq_ediv_of_nonneg hk'.1
        have dle : k' / coH τ h (g : Int) ≤ k' := Int.ediv_le_self _ hk'.1
        have dge : 0 ≤ k' / coH τ h (g : Int) := Int.ediv_nonneg hk'.1 hb.1
        rw [ed, w32_id (x := k' / coH τ h (g : Int)) (by omega)]
        refine c_min ?_
        show K (w32 (k' - w32 (min (h 4 g) (k' / coH τ h (g : Int)) * coH τ h (g : Int)))) _ _ _ _
        rw [w32_id (x := min (h 4 g) (k' / coH τ h (g : Int)) * coH τ h (g : Int)) (by omega), w32_id (x := k' - min (h 4 g) (k' / coH τ h (g : Int)) * coH τ h (g : Int)) (by omega), w32_id (x := c + min (h 4 g) (k' / coH τ h (g : Int))) (by omega)]
        exact ih (i + 1) u' _ _ M6 (by omega) (by omega) (by omega) (by omega) (by omega) hF06 he
  exact key (h 0 3).toNat 0 0 0 k M (by omega) (by decide) (by rw [show ((0 : Nat) : Int) = 0 from rfl, ucS_0 (by omega)]) (by omega) (by omega) Fr.rf hR.symm)
/-- the kept hand lies seven rows behind the other -/
def Hk (h M : Mem) : Prop := Hd h (fun o k => M (o + 7) k)
theorem Hk.fr {M' : Mem} {S : List Nat} (H : Hk h M) (hf : Fr S M M') (hs : ∀ o, 8 ≤ o → o ≤ 14 → o ∉ S) : Hk h M' := by
  have e : ∀ r k, r ≤ 6 → M' (1 + r + 7) k = M (1 + r + 7) k := fun r k hr => hf _ k (hs _ (by omega) (by omega))
  refine Hd.of (fun r k hi => ?_)
  show M' (1 + r + 7) k = h r k
  rw [e r k hi.1]
  exact H.at hi
theorem x_image (H : Hd h M) (W : Wf h) (hq : ∀ M', Fr [0, 8, 9, 10, 11, 12, 13, 14] M M' → M' 0 2 = 1 → Hk h M' → Q (h 0 3) M') : Con (n + 2) md_X9_image [vR 0] M Q := g_X9_image (by
  unfold B_X9_image
  refine g_X0_become_k ?_
  unfold B_X0_become_k
  intro M1 h1 M2 h2 M3 h3 M4 h4 M5 h5 M6 h6 M7 h7 M8 h8 M9 h9 M10 h10 M11 h11 M12 h12
  have w3 := W.2.2.1
  have w8 := W.2.2.2.1
  have hcp : ∀ (A : Mem) (s d : Nat) (m : Int) (o k : Nat), cpM A s d 0 0 m o k = if o = d then (if k < m.toNat then A s k else A d k) else A o k := fun A s d m o k => by
    unfold cpM upr
    by_cases e : o = d
    · rw [if_pos e, if_pos e]
      show (if _ then _ else _) = _
      simp
    · rw [if_neg e, if_neg e]
  have f : ∀ o k, 1 ≤ o → o ≤ 7 → M12 o k = M o k := fun o k q1 q2 => by
    rw [h12, up_ne (by omega), h11, hcp, if_neg (by omega), h10, hcp, if_neg (by omega), h9, hcp, if_neg (by omega), h8, hcp, if_neg (by omega), h7, hcp, if_neg (by omega), h6, hcp, if_neg (by omega), h5, up_ne (by omega), h4, up_ne (by omega), h3, up_ne (by omega), h2, up_ne (by omega), h1, up_ne (by omega)]
  have e3 : M12 1 3 = h 0 3 := (f 1 3 (by omega) (by omega)).trans H.2.2.2.1
  rw [e3]
  refine hq M12 (fun o k ho => ?_) (by rw [h12]; exact up_same) (Hd.of (fun r k hi => ?_))
  · simp at ho
    rw [h12, up_ne (by omega), h11, hcp, if_neg (by omega), h10, hcp, if_neg (by omega), h9, hcp, if_neg (by omega), h8, hcp, if_neg (by omega), h7, hcp, if_neg (by omega), h6, hcp, if_neg (by omega), h5, up_ne (by omega), h4, up_ne (by omega), h3, up_ne (by omega), h2, up_ne (by omega), h1, up_ne (by omega)]
  · show M12 (1 + r + 7) k = h r k
    rw [← H.at hi]
    obtain ⟨i1, i2, i3, i4⟩ := hi
    match r, i1 with
    | 0, _ =>
      rw [h12, up_ne (by omega), h11, hcp, if_neg (by omega), h10, hcp, if_neg (by omega), h9, hcp, if_neg (by omega), h8, hcp, if_neg (by omega), h7, hcp, if_neg (by omega), h6, hcp, if_neg (by omega)]
      rcases i2 rfl with e | e | e | e | e <;> subst e <;> simp [h5, h4, h3, h2, h1, up]
    | 1, _ =>
      have hk := i3 (by omega) (by omega)
      rw [h12, up_ne (by omega), h11, hcp, if_neg (by omega), h10, hcp, if_neg (by omega), h9, hcp, if_neg (by omega), h8, hcp, if_neg (by omega), h7, hcp, if_neg (by omega), h6, hcp, if_pos rfl, if_pos (by show k < 6; omega), h5, up_ne (by omega), h4, up_ne (by omega), h3, up_ne (by omega), h2, up_ne (by omega), h1, up_ne (by omega)]
    | 2, _ =>
      have hk := i3 (by omega) (by omega)
      rw [h12, up_ne (by omega), h11, hcp, if_neg (by omega), h10, hcp, if_neg (by omega), h9, hcp, if_neg (by omega), h8, hcp, if_neg (by omega), h7, hcp, if_pos rfl, if_pos (by show k < 6; omega), h6, hcp, if_neg (by omega), h5, up_ne (by omega), h4, up_ne (by omega), h3, up_ne (by omega), h2, up_ne (by omega), h1, up_ne (by omega)]
    | 3, _ =>
      have hk := i3 (by omega) (by omega)
      rw [h12, up_ne (by omega), h11, hcp, if_neg (by omega), h10, hcp, if_neg (by omega), h9, hcp, if_neg (by omega), h8, hcp, if_pos rfl, if_pos (by show k < 6; omega), h7, hcp, if_neg (by omega), h6, hcp, if_neg (by omega), h5, up_ne (by omega), h4, up_ne (by omega), h3, up_ne (by omega), h2, up_ne (by omega), h1, up_ne (by omega)]
    | 4, _ =>
      have hk := i3 (by omega) (by omega)
      rw [h12, up_ne (by omega), h11, hcp, if_neg (by omega), h10, hcp, if_neg (by omega), h9, hcp, if_pos rfl, if_pos (by show k < 6; omega), h8, hcp, if_neg (by omega), h7, hcp, if_neg (by omega), h6, hcp, if_neg (by omega), h5, up_ne (by omega), h4, up_ne (by omega), h3, up_ne (by omega), h2, up_ne (by omega), h1, up_ne (by omega)]
    | 5, _ =>
      have hk := i4 (by omega)
      rw [h12, up_ne (by omega), h11, hcp, if_neg (by omega), h10, hcp, if_pos rfl, if_pos (by show k < 40; omega), h9, hcp, if_neg (by omega), h8, hcp, if_neg (by omega), h7, hcp, if_neg (by omega), h6, hcp, if_neg (by omega), h5, up_ne (by omega), h4, up_ne (by omega), h3, up_ne (by omega), h2, up_ne (by omega), h1, up_ne (by omega)]
    | 6, _ =>
      have hk := i4 (by omega)
      rw [h12, up_ne (by omega), h11, hcp, if_pos rfl, if_pos (by show k < 40; omega), h10, hcp, if_neg (by omega), h9, hcp, if_neg (by omega), h8, hcp, if_neg (by omega), h7, hcp, if_neg (by omega), h6, hcp, if_neg (by omega), h5, up_ne (by omega), h4, up_ne (by omega), h3, up_ne (by omega), h2, up_ne (by omega), h1, up_ne (by omega)])
theorem x_back {hk : Mem} (h0 : M 0 2 = 0 → Q (-3) M) (H : M 0 2 ≠ 0 → Hk hk M ∧ Wf hk) (hq : M 0 2 ≠ 0 → ∀ M', Fr [1, 2, 3, 4, 5, 6, 7] M M' → Hd hk M' → Q (hk 0 3) M') : Con (n + 2) md_X9_back [vR 0] M Q := g_X9_back (by
  unfold B_X9_back
  refine ⟨h0, fun e0 => g_X0_become_n ?_⟩
  obtain ⟨H, W⟩ := H e0
  unfold B_X0_become_n
  intro M1 h1 M2 h2 M3 h3 M4 h4 M5 h5 M6 h6 M7 h7 M8 h8 M9 h9 M10 h10 M11 h11
  have w3 := W.2.2.1
  have w8 := W.2.2.2.1
  have hcp : ∀ (A : Mem) (s d : Nat) (m : Int) (o k : Nat), cpM A s d 0 0 m o k = if o = d then (if k < m.toNat then A s k else A d k) else A o k := fun A s d m o k => by
    unfold cpM upr
    by_cases e : o = d
    · rw [if_pos e, if_pos e]
      show (if _ then _ else _) = _
      simp
    · rw [if_neg e, if_neg e]
  have hH : Hd hk M11 := Hd.of (fun r k hi => by
    rw [← H.at hi]
    show M11 (1 + r) k = M (1 + r + 7) k
    obtain ⟨i1, i2, i3, i4⟩ := hi
    match r, i1 with
    | 0, _ =>
      rw [h11, hcp, if_neg (by omega), h10, hcp, if_neg (by omega), h9, hcp, if_neg (by omega), h8, hcp, if_neg (by omega), h7, hcp, if_neg (by omega), h6, hcp, if_neg (by omega)]
      rcases i2 rfl with e | e | e | e | e <;> subst e <;> simp [h5, h4, h3, h2, h1, up]
    | 1, _ =>
      have hk := i3 (by omega) (by omega)
      rw [h11, hcp, if_neg (by omega), h10, hcp, if_neg (by omega), h9, hcp, if_neg (by omega), h8, hcp, if_neg (by omega), h7, hcp, if_neg (by omega), h6, hcp, if_pos rfl, if_pos (by show k < 6; omega), h5, up_ne (by omega), h4, up_ne (by omega), h3, up_ne (by omega), h2, up_ne (by omega), h1, up_ne (by omega)]
    | 2, _ =>
      have hk := i3 (by omega) (by omega)
      rw [h11, hcp, if_neg (by omega), h10, hcp, if_neg (by omega), h9, hcp, if_neg (by omega), h8, hcp, if_neg (by omega), h7, hcp, if_pos rfl, if_pos (by show k < 6; omega), h6, hcp, if_neg (by omega), h5, up_ne (by omega), h4, up_ne (by omega), h3, up_ne (by omega), h2, up_ne (by omega), h1, up_ne (by omega)]
    | 3, _ =>
      have hk := i3 (by omega) (by omega)
      rw [h11, hcp, if_neg (by omega), h10, hcp, if_neg (by omega), h9, hcp, if_neg (by omega), h8, hcp, if_pos rfl, if_pos (by show k < 6; omega), h7, hcp, if_neg (by omega), h6, hcp, if_neg (by omega), h5, up_ne (by omega), h4, up_ne (by omega), h3, up_ne (by omega), h2, up_ne (by omega), h1, up_ne (by omega)]
    | 4, _ =>
      have hk := i3 (by omega) (by omega)
      rw [h11, hcp, if_neg (by omega), h10, hcp, if_neg (by omega), h9, hcp, if_pos rfl, if_pos (by show k < 6; omega), h8, hcp, if_neg (by omega), h7, hcp, if_neg (by omega), h6, hcp, if_neg (by omega), h5, up_ne (by omega), h4, up_ne (by omega), h3, up_ne (by omega), h2, up_ne (by omega), h1, up_ne (by omega)]
    | 5, _ =>
      have hk := i4 (by omega)
      rw [h11, hcp, if_neg (by omega), h10, hcp, if_pos rfl, if_pos (by show k < 40; omega), h9, hcp, if_neg (by omega), h8, hcp, if_neg (by omega), h7, hcp, if_neg (by omega), h6, hcp, if_neg (by omega), h5, up_ne (by omega), h4, up_ne (by omega), h3, up_ne (by omega), h2, up_ne (by omega), h1, up_ne (by omega)]
    | 6, _ =>
      have hk := i4 (by omega)
      rw [h11, hcp, if_pos rfl, if_pos (by show k < 40; omega), h10, hcp, if_neg (by omega), h9, hcp, if_neg (by omega), h8, hcp, if_neg (by omega), h7, hcp, if_neg (by omega), h6, hcp, if_neg (by omega), h5, up_ne (by omega), h4, up_ne (by omega), h3, up_ne (by omega), h2, up_ne (by omega), h1, up_ne (by omega)])
  rw [hH.2.2.2.1]
  refine hq e0 M11 (fun o k ho => ?_) hH
  simp at ho
  rw [h11, hcp, if_neg (by omega), h10, hcp, if_neg (by omega), h9, hcp, if_neg (by omega), h8, hcp, if_neg (by omega), h7, hcp, if_neg (by omega), h6, hcp, if_neg (by omega), h5, up_ne (by omega), h4, up_ne (by omega), h3, up_ne (by omega), h2, up_ne (by omega), h1, up_ne (by omega)])
/-- the tape: x 1 0 so many, x 2 the bytes -/
def Tpc (x M : Mem) : Prop := M 15 1 = x 1 0 ∧ ∀ i : Nat, (i : Int) < x 1 0 → M 16 i = x 2 i
def ctR (h x : Mem) (z w : Int) : Int := if w = 0 then h 0 3 else if w = 1 then h 0 8 else if w = 2 then sm (h 4) (h 0 3).toNat else if w = 3 then z else if w = 4 then x 1 0 else if w = 5 then h 0 2 else -2
theorem x_count {w : Int} (H : Hd h M) (W : Wf h) (Ht : Tpc x M) (hq : Q (ctR h x (M 17 0) w) M) : Con (n + 2) md_X9_count [vR 0, vI w] M Q := g_X9_count (by
  unfold B_X9_count
  unfold ctR at hq
  rw [H.2.2.2.1, H.2.2.2.2.1, Ht.1, H.2.2.1]
  refine ⟨fun e => ?_, fun e => ?_, fun e => ?_, fun e => c_inAllBuckets H W ?_, fun e => ?_, fun e => ?_, fun e => ?_⟩
  · rw [if_neg (by omega), if_neg (by omega), if_neg (by omega), if_neg (by omega), if_neg (by omega), if_neg (by omega)] at hq; exact hq
  · rw [if_pos e] at hq; exact hq
  · rw [if_neg (by omega), if_pos e] at hq; exact hq
  · rw [if_neg (by omega), if_neg (by omega), if_pos e] at hq; exact hq
  · rw [if_neg (by omega), if_neg (by omega), if_neg (by omega), if_pos e] at hq; exact hq
  · rw [if_neg (by omega), if_neg (by omega), if_neg (by omega), if_neg (by omega), if_pos e] at hq; exact hq
  · rw [if_neg (by omega), if_neg (by omega), if_neg (by omega), if_neg (by omega), if_neg (by omega), if_pos e] at hq; exact hq)
theorem x_feed {b : Int} (Ht : Tpc x M) (h16 : 0 ≤ x 1 0 ∧ x 1 0 ≤ 160) (h0 : ¬ (0 ≤ b ∧ b ≤ 255) → Q (-2) M) (h1 : (0 ≤ b ∧ b ≤ 255) → ¬ x 1 0 < 160 → Q (-4) M) (h2 : (0 ≤ b ∧ b ≤ 255) → x 1 0 < 160 → ∀ M', Fr [15, 16] M M' → Tpc (up (up x 2 (x 1 0).toNat b) 1 0 (x 1 0 + 1)) M' → Q (x 1 0 + 1) M') : Con (n + 2) md_X9_feed [vR 0, vI b] M Q := g_X9_feed (by
  unfold B_X9_feed
  refine ⟨fun e => h0 (by omega), fun e => ⟨fun e1 => g_X6_add ?_, fun e1 => h0 (by omega)⟩⟩
  unfold B_X6_add
  rw [Ht.1]
  refine ⟨fun e2 => ⟨by omega, fun M1 q1 M2 q2 => ⟨fun e => by omega, fun _ => ?_⟩⟩, fun e2 => ⟨fun _ => h1 (by omega) e2, fun e => absurd rfl e⟩⟩
  rw [show M1 15 1 = x 1 0 by rw [q1, up_ne (by omega)]; exact Ht.1, w32_id (by omega)] at q2
  rw [show M2 15 1 = x 1 0 + 1 by rw [q2, up_same]]
  refine h2 (by omega) e2 M2 (by rw [q2, q1]; exact (Fr.rf.up (by decide)).up (by decide)) ⟨by rw [q2, up_same, up_same], fun i hi => ?_⟩
  rw [up_same] at hi
  rw [q2, up_ne (by omega), q1, up_ne (o := 1) (by omega)]
  by_cases c : i = (x 1 0).toNat
  · subst c; rw [up_same, up_same]
  · rw [up_ne (by omega), up_ne (by omega)]; exact Ht.2 i (by omega))
/-- a kind, or one under it -/
abbrev uK (a k : Int) : Prop := a = k ∨ (a ≠ 0 ∧ k = 0) ∨ (a = 3 ∧ k = 1) ∨ (a = 4 ∧ k = 2)
theorem un_ds : un_d 0 = -1 ∧ un_d 1 = 0 ∧ un_d 2 = 0 ∧ un_d 3 = 1 ∧ un_d 4 = 2 ∧ un_d 5 = 0 := by decide
theorem c_isUnder {a k : Int} (ha : 0 ≤ a ∧ a ≤ 5) (hk : 0 ≤ k ∧ k ≤ 5) (hq : Q (if uK a k then 1 else 0) M) : Con (n + 2) md_X1_isUnder [vI a, vI k] M Q := g_X1_isUnder (by
  intro K hK
  unfold B_X1_isUnder
  obtain ⟨u0, u1, u2, u3, u4, u5⟩ := un_ds
  have stp : ∀ (b : Int) (i : Nat), i < 5 → (0 ≤ b ∧ b ≤ 5) → (b = k → Q 1 M) → (b ≠ k → K (un_d b) ((i : Int) + 1) M) → K b (i : Int) M := fun b i hi hb q1 q2 => hK _ _ _ (by
    unfold B_X1_isUnder_4
    refine ⟨fun e => by omega, fun _ => c_isKind ?_⟩
    rw [if_pos hb]
    refine ⟨fun e => by omega, fun _ => ⟨q1, fun e => ⟨by omega, ?_⟩⟩⟩
    rw [w32_id (by omega)]; exact q2 e)
  have fin : ∀ (i : Nat), i < 5 → Q 0 M → K (-1) (i : Int) M := fun i hi q => hK _ _ _ (by
    unfold B_X1_isUnder_4
    refine ⟨fun e => by omega, fun _ => c_isKind ?_⟩
    rw [if_neg (by decide)]
    exact ⟨fun _ => q, fun e => absurd rfl e⟩)
  have ac : a = 0 ∨ a = 1 ∨ a = 2 ∨ a = 3 ∨ a = 4 ∨ a = 5 := by omega
  have y : ∀ c : Prop, (uK a k) → Q 1 M := fun _ c => by rw [if_pos c] at hq; exact hq
  have no : ¬ uK a k → Q 0 M := fun c => by rw [if_neg c] at hq; exact hq
  rcases ac with e | e | e | e | e | e <;> subst e
  · exact stp 0 0 (by omega) (by decide) (fun e => y True (Or.inl e)) (fun e => by rw [u0]; exact fin 1 (by omega) (no (by unfold uK; omega)))
  · exact stp 1 0 (by omega) (by decide) (fun e => y True (Or.inl e)) (fun e => by rw [u1]; exact stp 0 1 (by omega) (by decide) (fun e => y True (by unfold uK; omega)) (fun e => by rw [u0]; exact fin 2 (by omega) (no (by unfold uK; omega))))
  · exact stp 2 0 (by omega) (by decide) (fun e => y True (Or.inl e)) (fun e => by rw [u2]; exact stp 0 1 (by omega) (by decide) (fun e => y True (by unfold uK; omega)) (fun e => by rw [u0]; exact fin 2 (by omega) (no (by unfold uK; omega))))
  · exact stp 3 0 (by omega) (by decide) (fun e => y True (Or.inl e)) (fun e => by rw [u3]; exact stp 1 1 (by omega) (by decide) (fun e => y True (by unfold uK; omega)) (fun e => by rw [u1]; exact stp 0 2 (by omega) (by decide) (fun e => y True (by unfold uK; omega)) (fun e => by rw [u0]; exact fin 3 (by omega) (no (by unfold uK; omega)))))
  · exact stp 4 0 (by omega) (by decide) (fun e => y True (Or.inl e)) (fun e => by rw [u4]; exact stp 2 1 (by omega) (by decide) (fun e => y True (by unfold uK; omega)) (fun e => by rw [u2]; exact stp 0 2 (by omega) (by decide) (fun e => y True (by unfold uK; omega)) (fun e => by rw [u0]; exact fin 3 (by omega) (no (by unfold uK; omega)))))
  · exact stp 5 0 (by omega) (by decide) (fun e => y True (Or.inl e)) (fun e => by rw [u5]; exact stp 0 1 (by omega) (by decide) (fun e => y True (by unfold uK; omega)) (fun e => by rw [u0]; exact fin 2 (by omega) (no (by unfold uK; omega)))))
def tkR (h : Mem) (f k : Int) : Int := if 0 ≤ k ∧ k ≤ 5 then (if 0 ≤ f ∧ f < h 0 3 then (if uK (h 1 f.toNat) k then h 2 f.toNat else -13) else -11) else -2
theorem x_taken {f k : Int} (H : Hd h M) (W : Wf h) (hq : Q (tkR h f k) M) : Con (n + 3) md_X9_taken [vR 0, vI f, vI k] M Q := g_X9_taken (by
  unfold B_X9_taken
  unfold tkR at hq
  have h3 := W.2.2.1
  refine c_isKind ?_
  by_cases hk : 0 ≤ k ∧ k ≤ 5
  · rw [if_pos hk] at hq ⊢
    refine ⟨fun e => by omega, fun _ => c_hasFlower ?_⟩
    rw [H.2.2.2.1]
    by_cases hf : 0 ≤ f ∧ f < h 0 3
    · rw [if_pos hf] at hq ⊢
      have hw := W.2.2.2.2.1 _ (toN hf)
      have hv := H.2.2.2.2.2.1 _ (toN hf)
      refine ⟨fun e => by omega, fun _ => ⟨by omega, ?_⟩⟩
      rw [hv.1]
      refine c_isUnder hw.1 hk ?_
      by_cases hu : uK (h 1 f.toNat) k
      · rw [if_pos hu] at hq ⊢; exact ⟨fun e => by omega, fun _ => ⟨by omega, by rw [hv.2.1]; exact hq⟩⟩
      · rw [if_neg hu] at hq ⊢; exact ⟨fun _ => hq, fun e => absurd rfl e⟩
    · rw [if_neg hf] at hq ⊢; exact ⟨fun _ => hq, fun e => absurd rfl e⟩
  · rw [if_neg hk] at hq ⊢; exact ⟨fun _ => hq, fun e => absurd rfl e⟩)
end XC
