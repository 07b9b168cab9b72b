/-! THE MODEL: MONEY, THE IMAGE, COUNTS, THE TAPE -/
/-- what the image of the model is -/
def Km (h M : Mem) : Prop := M 51 37 = h 0 3 ∧ M 51 38 = h 0 0 ∧ M 51 39 = h 0 1 ∧ M 51 40 = h 0 8 ∧ M 51 41 = h 0 2 ∧ (∀ i : Nat, (i : Int) < h 0 3 → M 61 (3 * i) = h 2 i ∧ M 61 (3 * i + 1) = h 3 i ∧ M 61 (3 * i + 2) = h 4 i) ∧ (∀ s : Nat, (s : Int) < h 0 8 → M 62 s = h 5 s ∧ M 63 s = h 6 s)
abbrev sK (o k : Nat) : Prop := (o = 51 ∧ 37 ≤ k ∧ k ≤ 41) ∨ (61 ≤ o ∧ o ≤ 63)
theorem Km.fr {h M M' : Mem} {P : Nat → Nat → Prop} (H : Km h M) (hf : Fp P M M') (hs : ∀ o k, sK o k → ¬ P o k) : Km h M' := by
  have e : ∀ k, 37 ≤ k → k ≤ 41 → M' 51 k = M 51 k := fun k h1 h2 => hf 51 k (hs 51 k (by unfold sK; omega))
  have e2 : ∀ o k, 61 ≤ o → o ≤ 63 → M' o k = M o k := fun o k q1 q2 => hf o k (hs o k (by unfold sK; omega))
  obtain ⟨h1, h2, h3, h4, h5, h6, h7⟩ := H
  refine ⟨by rw [e 37 (by omega) (by omega)]; exact h1, by rw [e 38 (by omega) (by omega)]; exact h2, by rw [e 39 (by omega) (by omega)]; exact h3, by rw [e 40 (by omega) (by omega)]; exact h4, by rw [e 41 (by omega) (by omega)]; exact h5, fun i hi => ?_, fun s hs => ?_⟩
  · rw [e2 61 _ (by omega) (by omega), e2 61 _ (by omega) (by omega), e2 61 _ (by omega) (by omega)]; exact h6 i hi
  · rw [e2 62 _ (by omega) (by omega), e2 63 _ (by omega) (by omega)]; exact h7 s hs
def Tpm (x M : Mem) : Prop := M 51 6 = x 1 0 ∧ ∀ i : Nat, (i : Int) < x 1 0 → M 54 i = x 2 i
section MY
variable {n : Nat} {τ : Int → Int → (Nat → Int) → Int} {h x M : Mem} {Q : Int → Mem → Prop}
theorem mm_forMoney {k : Int} (H : Hm h M) (W : Wf h) (R : RD τ M) (hr : 0 ≤ h 0 2 ∧ h 0 2 < M 51 3) (hq : ∀ M', Fp sH M M' → Hm h M' → Q (fyR τ h k) M') : Con (n + 82) md_X10_forMoney [vR 51, vI k] M Q := g_X10_forMoney (by
  intro K17 K57 K72 h17 h57 h72
  unfold B_X10_forMoney
  unfold fyR at hq
  have h3 := W.2.2.1
  refine c_in ?_
  by_cases ck : 0 ≤ k ∧ k ≤ 9999
  · rw [if_pos ck] at hq ⊢
    refine ⟨fun e => by omega, fun _ => ?_⟩
    obtain ⟨T, hT⟩ : ∃ T, T = fyS τ h (h 0 3).toNat 0 0 k := ⟨_, rfl⟩
    rw [← hT] at hq
    have key : ∀ M', Fp (fun o k => sL o k ∨ o = 59) M M' → (∀ f : Nat, (f : Int) < h 0 3 → M' 59 f = coH τ h (f : Int)) → ∀ (j i u : Nat) (c k' : Int), (i : Int) + j = h 0 3 → u < 64 → ucS (u : Int) (h 0 3).toNat = j → (0 ≤ c ∧ c ≤ 40 * i) → (0 ≤ k' ∧ k' ≤ 9999) → fyS τ h j (u : Int) c k' = T → K57 k' c (u : Int) (i : Int) M' := by
      intro M' F hp j
      have H' : Hm h M' := H.fr F (fun k q => q.elim (fun q => q.2.1) (fun q => by omega)) (fun o k q1 q2 q => by unfold sL at q; omega)
      have FH : Fp sH M M' := F.mono (fun o k q => q.elim (sL_sH o k) (fun q => by unfold sH; omega))
      induction j with
      | zero =>
        intro i u c k' hi hu huc hc hk' he
        apply h57
        unfold B_X10_forMoney_57
        rw [H'.2.2.2.1]
        unfold fyS at he
        exact ⟨fun _ => by rw [he]; exact hq M' FH H', fun e => by omega⟩
      | succ j ih =>
        intro i u c k' hi hu huc hc hk' he
        apply h57
        unfold B_X10_forMoney_57
        rw [H'.2.2.2.1]
        refine ⟨fun e => by omega, fun _ => ?_⟩
        refine loopUp (P := fun f => K72 k' c (u : Int) (i : Int) (chS τ h (u : Int) f).1 (f : Int) M') (h 0 3).toNat (h72 _ _ _ _ _ _ _ ?_) (fun f hf ihf => h72 _ _ _ _ _ _ _ ?_) 0 (Nat.zero_le _)
        · unfold B_X10_forMoney_72
          rw [H'.2.2.2.1]
          refine ⟨fun _ => ?_, fun e => absurd (show h 0 3 ≤ (((h 0 3).toNat : Nat) : Int) by omega) e⟩
          rcases chS_ok (τ := τ) (h := h) (u : Int) (h 0 3).toNat with ⟨-, q2⟩ | ⟨g, q1, q2, q3, q4, q5⟩
          · omega
          unfold fyS at he
          rw [q2] at he ⊢
          have hgf : 0 ≤ (g : Int) ∧ (g : Int) < h 0 3 := by omega
          have hw := W.2.2.2.2.1 g (by omega)
          have hb := coH_b (τ := τ) W hgf
          rw [show (g : Int).toNat = g from rfl] at he ⊢
          rw [w32_id (x := 3 * (g : Int)) (by omega), w32_id (x := 3 * (g : Int) + 2) (by omega), (H'.fl hgf).2.2.2, hp g hgf.2, w32_id (x := (i : Int) + 1) (by omega)]
          rw [show (g : Int).toNat = g from rfl]
          have hub := ubs u hu g (by omega)
          obtain ⟨u', hu'⟩ : ∃ u' : Nat, (u' : Int) = o_r (u : Int) (sh_l 1 (g : Int)) := ⟨(o_r (u : Int) (sh_l 1 (g : Int))).toNat, by omega⟩
          have hus := ucS_s hu (show g < 6 by omega) q4 (h 0 3).toNat (by omega)
          rw [if_pos (by omega)] at hus
          rw [← hu'] at he hus ⊢
          refine ⟨by omega, by omega, fun e => ⟨fun _ => ⟨by omega, ?_⟩, fun e => absurd (Int.le_refl _) e⟩, fun e => ?_⟩
          · rw [if_pos (by omega)] at he
            rw [e, Int.mul_zero] at he ⊢
            rw [w32_id (x := 0) (by decide), w32_id (x := k' - 0) (by omega), w32_id (x := c + h 4 g) (by omega), Int.sub_zero]
            rw [Int.sub_zero] at he
            exact ih (i + 1) u' _ k' (by omega) (by omega) (by omega) (by omega) hk' he
          · rw [if_neg (by omega)] at he
            have pb := pay_b hw.2.2.2 hb hk' (by omega)
            have ed : Int.tdiv k' (coH τ h (g : Int)) = k' / coH τ h (g : Int) := Int.tdiv_eq_ediv_of_nonneg hk'.1
            have dle : k' / coH τ h (g : Int) ≤ k' := Int.ediv_le_self _ hk'.1
            have dge : 0 ≤ k' / coH τ h (g : Int) := Int.ediv_nonneg hk'.1 hb.1
            rw [ed, w32_id (x := k' / coH τ h (g : Int)) (by omega)]
            refine ⟨by omega, e, fun el => ⟨by omega, ?_⟩, fun el => ⟨by omega, ?_⟩⟩
            · rw [show min (h 4 g) (k' / coH τ h (g : Int)) = h 4 g by omega] at he pb
              rw [w32_id (x := h 4 g * coH τ h (g : Int)) (by omega), w32_id (x := k' - h 4 g * coH τ h (g : Int)) (by omega), w32_id (x := c + h 4 g) (by omega)]
              exact ih (i + 1) u' _ _ (by omega) (by omega) (by omega) (by omega) (by omega) he
            · rw [show min (h 4 g) (k' / coH τ h (g : Int)) = k' / coH τ h (g : Int) by omega] at he pb
              rw [w32_id (x := k' / coH τ h (g : Int) * coH τ h (g : Int)) (by omega), w32_id (x := k' - k' / coH τ h (g : Int) * coH τ h (g : Int)) (by omega), w32_id (x := c + k' / coH τ h (g : Int)) (by omega)]
              exact ih (i + 1) u' _ _ (by omega) (by omega) (by omega) (by omega) (by omega) he
        · unfold B_X10_forMoney_72
          rw [H'.2.2.2.1, w32_id (x := (f : Int) + 1) (by omega)]
          refine ⟨fun e => by omega, fun _ => ?_⟩
          have ex : chS τ h (u : Int) (f + 1) = if ubF (u : Int) (f : Int) ∧ ((chS τ h (u : Int) f).1 = -1 ∨ coH τ h (f : Int) < (chS τ h (u : Int) f).2) then ((f : Int), coH τ h (f : Int)) else chS τ h (u : Int) f := rfl
          rw [ex] at ihf
          show (ubF (u : Int) (f : Int) → _) ∧ (¬ ubF (u : Int) (f : Int) → _)
          refine ⟨fun e => ⟨fun e1 => ?_, fun e1 => ?_⟩, fun e => ?_⟩
          · rw [if_pos ⟨e, Or.inl e1⟩] at ihf; exact ihf
          · rcases chS_ok (τ := τ) (h := h) (u : Int) f with ⟨q1, q2⟩ | ⟨g, q1, q2, q3, q4, q5⟩
            · exact absurd q1 e1
            rw [q2, q3] at ihf
            rw [q2, show (g : Int).toNat = g from rfl, show (f : Int).toNat = f from rfl, hp g (by omega), hp f (by omega)]
            refine ⟨by omega, by omega, fun e2 => ?_, fun e2 => ?_⟩
            · rw [if_neg (by rintro ⟨-, q | q⟩ <;> omega), q2] at ihf; exact ihf
            · rw [if_pos ⟨e, Or.inr (by omega)⟩] at ihf; exact ihf
          · rw [if_neg (fun q => e q.1)] at ihf; exact ihf
    refine loopUp (P := fun f => ∀ M', Fp (fun o k => sL o k ∨ o = 59) M M' → (∀ g : Nat, g < f → M' 59 g = coH τ h (g : Int)) → K17 (f : Int) M') (h 0 3).toNat (fun M' F hp => h17 _ _ ?_) (fun f hf ihf M' F hp => h17 _ _ ?_) 0 (Nat.zero_le _) M Fp.rf (fun g hg => by omega)
    · unfold B_X10_forMoney_17
      have H' : Hm h M' := H.fr F (fun k q => q.elim (fun q => q.2.1) (fun q => by omega)) (fun o k q1 q2 q => by unfold sL at q; omega)
      rw [H'.2.2.2.1]
      refine ⟨fun _ => ?_, fun e => absurd (show h 0 3 ≤ (((h 0 3).toNat : Nat) : Int) by omega) e⟩
      exact key M' F (fun f hf => hp f (by omega)) (h 0 3).toNat 0 0 0 k (by omega) (by decide) (by rw [show ((0 : Nat) : Int) = 0 from rfl, ucS_0 (by omega)]) (by omega) (by omega) hT.symm
    · unfold B_X10_forMoney_17
      have H' : Hm h M' := H.fr F (fun k q => q.elim (fun q => q.2.1) (fun q => by omega)) (fun o k q1 q2 q => by unfold sL at q; omega)
      have R' : RD τ M' := R.fr F (fun o k q1 q => by unfold sL at q; omega)
      have hff : 0 ≤ (f : Int) ∧ (f : Int) < h 0 3 := by omega
      rw [H'.2.2.2.1, w32_id (x := (f : Int) + 1) (by omega)]
      refine ⟨fun e => by omega, fun _ => mm_looks H' W hff (fun M2 F2 E2 => mm_costsOf (H'.L F2) W (R'.fr F2 sL3) (by rw [F2 51 3 (by unfold sL; omega), F 51 3 (by unfold sL; omega)]; exact hr) hff E2 rfl (fun M4 F4 => ⟨by omega, fun M5 e5 => ?_⟩))⟩
      have F4' : Fp (fun o k => sL o k ∨ o = 59) M M4 := F.tr ((F2.tr (F4.mono sR_sL)).mono (fun o k q => Or.inl q))
      have c59 : ∀ k, M4 59 k = M' 59 k := fun k => (F2.tr (F4.mono sR_sL)) 59 k (by unfold sL; omega)
      refine ihf M5 (by rw [e5]; exact F4'.up (Or.inr rfl)) (fun g hg => ?_)
      rw [e5, show (f : Int).toNat = f from rfl]
      by_cases c : g = f
      · subst c; rw [up_same]; rfl
      · rw [up_ne (by omega), c59]; exact hp g (by omega)
  · rw [if_neg ck] at hq ⊢
    exact ⟨fun _ => hq M Fp.rf H, fun e => absurd rfl e⟩)
theorem mm_image (H : Hm h M) (W : Wf h) (hq : ∀ M', Fp sK M M' → Km h M' → Q (h 0 3) M') : Con (n + 1) md_X10_image [vR 51] M Q := g_X10_image (by
  intro K2 K28 h2 h28
  unfold B_X10_image
  have w3 := W.2.2.1
  have w8 := W.2.2.2.1
  have st2 : ∀ i, i ≤ 40 → ∀ M', Fp sK M M' → (∀ k, k < 18 → M' 61 k = M 56 k) → (∀ k, k < i → M' 62 k = M 57 k ∧ M' 63 k = M 58 k) → K28 (i : Int) M' := loopUp (P := fun i => ∀ M', Fp sK M M' → (∀ k, k < 18 → M' 61 k = M 56 k) → (∀ k, k < i → M' 62 k = M 57 k ∧ M' 63 k = M 58 k) → K28 (i : Int) M') 40 (fun M' F q1 q2 => h28 _ _ (by
      unfold B_X10_image_28
      refine ⟨fun _ M2 e2 M3 e3 M4 e4 M5 e5 M6 e6 => ?_, fun e => absurd (by decide) e⟩
      have g : ∀ k, k < 37 → M' 51 k = M 51 k := fun k hk => F 51 k (by unfold sK; omega)
      have s2 : M2 51 7 = M' 51 7 := by rw [e2, up_ne (by omega)]
      have s3 : M3 51 8 = M' 51 8 := by rw [e3, up_ne (by omega), e2, up_ne (by omega)]
      have s4 : M4 51 14 = M' 51 14 := by rw [e4, up_ne (by omega), e3, up_ne (by omega), e2, up_ne (by omega)]
      have s5 : M5 51 4 = M' 51 4 := by rw [e5, up_ne (by omega), e4, up_ne (by omega), e3, up_ne (by omega), e2, up_ne (by omega)]
      rw [g 11 (by omega), H.2.2.2.1] at e2
      rw [s2, g 7 (by omega), H.1] at e3
      rw [s3, g 8 (by omega), H.2.1] at e4
      rw [s4, g 14 (by omega), H.2.2.2.2.1] at e5
      rw [s5, g 4 (by omega), H.2.2.1] at e6
      have o6 : ∀ o k, ¬ (o = 51 ∧ 37 ≤ k ∧ k ≤ 41) → M6 o k = M' o k := fun o k q => by
        rw [e6, up_ne (by omega), e5, up_ne (by omega), e4, up_ne (by omega), e3, up_ne (by omega), e2, up_ne (by omega)]
      rw [o6 51 11 (by omega), g 11 (by omega), H.2.2.2.1]
      refine hq M6 (fun o k q => by rw [o6 o k (fun q' => q (Or.inl q'))]; exact F o k q) ⟨?_, ?_, ?_, ?_, ?_, fun i hi => ?_, fun s hs => ?_⟩
      · rw [e6, up_ne (by omega), e5, up_ne (by omega), e4, up_ne (by omega), e3, up_ne (by omega), e2, up_same]
      · rw [e6, up_ne (by omega), e5, up_ne (by omega), e4, up_ne (by omega), e3, up_same]
      · rw [e6, up_ne (by omega), e5, up_ne (by omega), e4, up_same]
      · rw [e6, up_ne (by omega), e5, up_same]
      · rw [e6, up_same]
      · rw [o6 61 _ (by omega), o6 61 _ (by omega), o6 61 _ (by omega), q1 _ (by omega), q1 _ (by omega), q1 _ (by omega)]
        exact (H.2.2.2.2.2.1 i hi).2
      · rw [o6 62 _ (by omega), o6 63 _ (by omega), (q2 s (by omega)).1, (q2 s (by omega)).2]
        exact H.2.2.2.2.2.2 s hs))
    (fun i hi ih M' F q1 q2 => h28 _ _ (by
      unfold B_X10_image_28
      rw [w32_id (by omega), show (i : Int).toNat = i from rfl]
      refine ⟨fun e => by omega, fun _ => ⟨by omega, by omega, fun M7 e7 => ⟨by omega, by omega, fun M8 e8 => ?_⟩⟩⟩
      have a : M7 58 i = M 58 i := by rw [e7, up_ne (by omega)]; exact F 58 i (by unfold sK; omega)
      rw [F 57 i (by unfold sK; omega)] at e7
      rw [a] at e8
      refine ih M8 (by rw [e8, e7]; exact (F.up (by unfold sK; omega)).up (by unfold sK; omega)) (fun k hk => by rw [e8, up_ne (by omega), e7, up_ne (by omega)]; exact q1 k hk) (fun k hk => ?_)
      by_cases c : k = i
      · subst c
        rw [e8, up_ne (by omega), up_same, e7, up_same]; exact ⟨rfl, rfl⟩
      · rw [e8, up_ne (by omega), up_ne (by omega), e7, up_ne (by omega), up_ne (by omega)]; exact q2 k (by omega)))
  refine loopUp (P := fun i => ∀ M', Fp sK M M' → (∀ k, k < i → M' 61 k = M 56 k) → K2 (i : Int) M') 18 (fun M' F q1 => h2 _ _ ?_) (fun i hi ih M' F q1 => h2 _ _ ?_) 0 (Nat.zero_le _) M Fp.rf (fun k hk => by omega)
  · unfold B_X10_image_2
    exact ⟨fun _ => st2 0 (by omega) M' F q1 (fun k hk => by omega), fun e => absurd (by decide) e⟩
  · unfold B_X10_image_2
    rw [w32_id (by omega), show (i : Int).toNat = i from rfl]
    refine ⟨fun e => by omega, fun _ => ⟨by omega, by omega, fun M1 e1 => ?_⟩⟩
    rw [F 56 i (by unfold sK; omega)] at e1
    refine ih M1 (by rw [e1]; exact F.up (by unfold sK; omega)) (fun k hk => ?_)
    by_cases c : k = i
    · subst c; rw [e1, up_same]
    · rw [e1, up_ne (by omega)]; exact q1 k (by omega))
theorem mm_back {hk : Mem} (H : Hm h M) (h0 : M 51 37 = -1 → Q (-3) M) (HK : M 51 37 ≠ -1 → Km hk M ∧ Wf hk ∧ hk 0 3 ≤ h 0 3 ∧ ∀ i : Nat, (i : Int) < hk 0 3 → hk 1 i = h 1 i) (hq : M 51 37 ≠ -1 → ∀ M', Fp sH M M' → Hm hk M' → Q (hk 0 3) M') : Con (n + 1) md_X10_back [vR 51] M Q := g_X10_back (by
  intro K13 K39 h13 h39
  unfold B_X10_back
  refine ⟨h0, fun e0 => ?_⟩
  obtain ⟨K, W, hle, hkd⟩ := HK e0
  have hq := hq e0
  have w3 := W.2.2.1
  have w8 := W.2.2.2.1
  have st2 : ∀ i, i ≤ 40 → ∀ M', Fp (fun o _ => 56 ≤ o ∧ o ≤ 58) M M' → (∀ k, k < 18 → M' 56 k = M 61 k) → (∀ k, k < i → M' 57 k = M 62 k ∧ M' 58 k = M 63 k) → K39 (i : Int) M' := loopUp (P := fun i => ∀ M', Fp (fun o _ => 56 ≤ o ∧ o ≤ 58) M M' → (∀ k, k < 18 → M' 56 k = M 61 k) → (∀ k, k < i → M' 57 k = M 62 k ∧ M' 58 k = M 63 k) → K39 (i : Int) M') 40 (fun M' F q1 q2 => h39 _ _ (by
      unfold B_X10_back_39
      refine ⟨fun _ M2 e2 M3 e3 M4 e4 M5 e5 M6 e6 => ?_, fun e => absurd (by decide) e⟩
      have g : ∀ k, M' 51 k = M 51 k := fun k => F 51 k (by omega)
      have s2 : M2 51 38 = M' 51 38 := by rw [e2, up_ne (by omega)]
      have s3 : M3 51 39 = M' 51 39 := by rw [e3, up_ne (by omega), e2, up_ne (by omega)]
      have s4 : M4 51 40 = M' 51 40 := by rw [e4, up_ne (by omega), e3, up_ne (by omega), e2, up_ne (by omega)]
      have s5 : M5 51 41 = M' 51 41 := by rw [e5, up_ne (by omega), e4, up_ne (by omega), e3, up_ne (by omega), e2, up_ne (by omega)]
      rw [g 37, K.1] at e2
      rw [s2, g 38, K.2.1] at e3
      rw [s3, g 39, K.2.2.1] at e4
      rw [s4, g 40, K.2.2.2.1] at e5
      rw [s5, g 41, K.2.2.2.2.1] at e6
      have o6 : ∀ o k, o ≠ 51 → M6 o k = M' o k := fun o k q => by
        rw [e6, up_ne (by omega), e5, up_ne (by omega), e4, up_ne (by omega), e3, up_ne (by omega), e2, up_ne (by omega)]
      have a11 : M6 51 11 = hk 0 3 := by rw [e6, up_ne (by omega), e5, up_ne (by omega), e4, up_ne (by omega), e3, up_ne (by omega), e2, up_same]
      rw [a11]
      refine hq M6 ?_ (Hm.of ?_ ?_ ?_ a11 ?_ (fun i hi => ?_) (fun s hs => ?_))
      · rw [e6, e5, e4, e3, e2]
        exact (((((F.mono (P' := sH) (fun o k q => by unfold sH; omega)).up (by unfold sH; omega)).up (by unfold sH; omega)).up (by unfold sH; omega)).up (by unfold sH; omega)).up (by unfold sH; omega)
      · rw [e6, up_ne (by omega), e5, up_ne (by omega), e4, up_ne (by omega), e3, up_same]
      · rw [e6, up_ne (by omega), e5, up_ne (by omega), e4, up_same]
      · rw [e6, up_same]
      · rw [e6, up_ne (by omega), e5, up_same]
      · rw [o6 55 _ (by omega), o6 56 _ (by omega), o6 56 _ (by omega), o6 56 _ (by omega), F 55 _ (by omega), q1 _ (by omega), q1 _ (by omega), q1 _ (by omega)]
        refine ⟨?_, K.2.2.2.2.2.1 i hi⟩
        rw [(H.2.2.2.2.2.1 i (by omega)).1]; exact (hkd i hi).symm
      · rw [o6 57 _ (by omega), o6 58 _ (by omega), (q2 s (by omega)).1, (q2 s (by omega)).2]
        exact K.2.2.2.2.2.2 s hs))
    (fun i hi ih M' F q1 q2 => h39 _ _ (by
      unfold B_X10_back_39
      rw [w32_id (by omega), show (i : Int).toNat = i from rfl]
      refine ⟨fun e => by omega, fun _ => ⟨by omega, by omega, fun M7 e7 => ⟨by omega, by omega, fun M8 e8 => ?_⟩⟩⟩
      have a : M7 63 i = M 63 i := by rw [e7, up_ne (by omega)]; exact F 63 i (by omega)
      rw [F 62 i (by omega)] at e7
      rw [a] at e8
      refine ih M8 (by rw [e8, e7]; exact (F.up (by omega)).up (by omega)) (fun k hk => by rw [e8, up_ne (by omega), e7, up_ne (by omega)]; exact q1 k hk) (fun k hk => ?_)
      by_cases c : k = i
      · subst c
        rw [e8, up_ne (by omega), up_same, e7, up_same]; exact ⟨rfl, rfl⟩
      · rw [e8, up_ne (by omega), up_ne (by omega), e7, up_ne (by omega), up_ne (by omega)]; exact q2 k (by omega)))
  refine loopUp (P := fun i => ∀ M', Fp (fun o _ => 56 ≤ o ∧ o ≤ 58) M M' → (∀ k, k < i → M' 56 k = M 61 k) → K13 (i : Int) M') 18 (fun M' F q1 => h13 _ _ ?_) (fun i hi ih M' F q1 => h13 _ _ ?_) 0 (Nat.zero_le _) M Fp.rf (fun k hk => by omega)
  · unfold B_X10_back_13
    exact ⟨fun _ => st2 0 (by omega) M' F q1 (fun k hk => by omega), fun e => absurd (by decide) e⟩
  · unfold B_X10_back_13
    rw [w32_id (by omega), show (i : Int).toNat = i from rfl]
    refine ⟨fun e => by omega, fun _ => ⟨by omega, by omega, fun M1 e1 => ?_⟩⟩
    rw [F 61 i (by omega)] at e1
    refine ih M1 (by rw [e1]; exact F.up (by omega)) (fun k hk => ?_)
    by_cases c : k = i
    · subst c; rw [e1, up_same]
    · rw [e1, up_ne (by omega)]; exact q1 k (by omega))
theorem mm_count {w : Int} (H : Hm h M) (W : Wf h) (Ht : Tpm x M) (hq : Q (ctR h x (M 51 3) w) M) : Con (n + 2) md_X10_count [vR 51, vI w] M Q := g_X10_count (by
  intro K hK
  unfold B_X10_count
  have h3 := W.2.2.1
  unfold ctR at hq
  refine c_in ?_
  by_cases c : 0 ≤ w ∧ w ≤ 5
  · rw [if_pos c, H.2.2.2.1, H.2.2.2.2.1, Ht.1, H.2.2.1]
    refine ⟨fun e => by omega, fun _ => ⟨fun e => ?_, fun e2 => ⟨fun e => ?_, fun e0 => ⟨fun e => ?_, fun e1 => ⟨fun e => ?_, fun e3 => ⟨fun e => ?_, fun e4 => ?_⟩⟩⟩⟩⟩⟩
    · rw [if_neg (by omega), if_neg (by omega), if_pos e] at hq
      refine loopUp (P := fun i => K (sm (h 4) i) (i : Int) M) (h 0 3).toNat (hK _ _ _ ?_) (fun i hi ih => hK _ _ _ ?_) 0 (Nat.zero_le _)
      · unfold B_X10_count_76
        rw [H.2.2.2.1]
        exact ⟨fun _ => hq, fun e => absurd (show h 0 3 ≤ (((h 0 3).toNat : Nat) : Int) by omega) e⟩
      · unfold B_X10_count_76
        have b := bkS_b W (i + 1) (by omega)
        have hf : 0 ≤ (i : Int) ∧ (i : Int) < h 0 3 := by omega
        rw [H.2.2.2.1, w32_id (x := (i : Int) + 1) (by omega), w32_id (x := 3 * (i : Int)) (by omega), w32_id (x := 3 * (i : Int) + 2) (by omega), (H.fl hf).2.2.2]
        unfold sm at ih b
        refine ⟨fun e => by omega, fun _ => ⟨by omega, ?_⟩⟩
        rw [show (i : Int).toNat = i from rfl, w32_id (by omega)]
        exact ih
    · rw [if_pos e] at hq; exact hq
    · rw [if_neg e0, if_pos e] at hq; exact hq
    · rw [if_neg e0, if_neg e1, if_neg e2, if_pos e] at hq; exact hq
    · rw [if_neg e0, if_neg e1, if_neg e2, if_neg e3, if_pos e] at hq; exact hq
    · rw [if_neg e0, if_neg e1, if_neg e2, if_neg e3, if_neg e4, if_pos (by omega)] at hq; exact hq
  · rw [if_neg c]
    rw [if_neg (by omega), if_neg (by omega), if_neg (by omega), if_neg (by omega), if_neg (by omega), if_neg (by omega)] at hq
    exact ⟨fun _ => hq, fun e => absurd rfl e⟩)
abbrev sT (o k : Nat) : Prop := (o = 51 ∧ k = 6) ∨ o = 54
theorem mm_feed {b : Int} (Ht : Tpm x M) (h16 : 0 ≤ x 1 0 ∧ x 1 0 ≤ 160) (h0 : ¬ (0 ≤ b ∧ b ≤ 255) → Q (-2) M) (h1 : (0 ≤ b ∧ b ≤ 255) → ¬ x 1 0 < 160 → Q (-4) M) (h2 : (0 ≤ b ∧ b ≤ 255) → x 1 0 < 160 → ∀ M', Fp sT M M' → Tpm (up (up x 2 (x 1 0).toNat b) 1 0 (x 1 0 + 1)) M' → Q (x 1 0 + 1) M') : Con (n + 2) md_X10_feed [vR 51, vI b] M Q := g_X10_feed (by
  unfold B_X10_feed
  refine c_in ?_
  by_cases c : 0 ≤ b ∧ b ≤ 255
  · rw [if_pos c, Ht.1]
    refine ⟨fun e => by omega, fun _ => ⟨fun e => h1 c (by omega), fun e => ⟨by omega, fun M1 q1 M2 q2 => ?_⟩⟩⟩
    rw [show M1 51 6 = x 1 0 by rw [q1, up_ne (by omega)]; exact Ht.1, w32_id (by omega)] at q2
    rw [show M2 51 6 = x 1 0 + 1 by rw [q2, up_same]]
    refine h2 c (by omega) M2 (by rw [q2, q1]; exact (Fp.rf.up (by unfold sT; omega)).up (by unfold sT; omega)) ⟨by rw [q2, up_same, up_same], fun i hi => ?_⟩
    rw [up_same] at hi
    rw [q2, up_ne (by omega), q1, up_ne (o := 1) (by omega)]
    by_cases c : i = (x 1 0).toNat
    · subst c; rw [up_same, up_same]
    · rw [up_ne (by omega), up_ne (by omega)]; exact Ht.2 i (by omega)
  · rw [if_neg c]
    exact ⟨fun _ => h0 c, fun e => absurd rfl e⟩)
theorem mm_over {a : Int} (hq : Q (if a = 0 then -1 else if a = 3 then 1 else if a = 4 then 2 else 0) M) : Con (n + 1) md_X10_over [vI a] M Q := g_X10_over (by unfold B_X10_over; grind)
theorem mm_taken {f k : Int} (H : Hm h M) (W : Wf h) (hq : Q (tkR h f k) M) : Con (n + 3) md_X10_taken [vR 51, vI f, vI k] M Q := g_X10_taken (by
  intro K hK
  unfold B_X10_taken
  have h3 := W.2.2.1
  unfold tkR at hq
  refine c_in ?_
  by_cases ck : 0 ≤ k ∧ k ≤ 5
  · rw [if_pos ck] at hq ⊢
    refine ⟨fun e => by omega, fun _ => mm_isFlower H W ?_⟩
    by_cases hf : 0 ≤ f ∧ f < h 0 3
    · rw [if_pos hf] at hq ⊢
      refine ⟨fun e => by omega, fun _ => ⟨by omega, ?_⟩⟩
      have hw := (W.2.2.2.2.1 _ (toN hf)).1
      rw [(H.fl hf).1]
      generalize h 1 f.toNat = a at hw hq ⊢
      have stp : ∀ b : Int, b ≠ -1 → (b = k → Q (h 2 f.toNat) M) → (b ≠ k → K (if b = 0 then -1 else if b = 3 then 1 else if b = 4 then 2 else 0) M) → K b M := fun b hb q1 q2 => hK _ _ (by
        unfold B_X10_taken_33
        rw [w32_id (by omega), (H.fl hf).2.1]
        exact ⟨fun e => absurd e hb, fun _ => ⟨fun e => ⟨fun _ => ⟨by omega, q1 e⟩, fun e' => absurd e e'⟩, fun e => mm_over (q2 e)⟩⟩)
      have fin : Q (-13) M → K (-1) M := fun q => hK _ _ (by
        unfold B_X10_taken_33
        exact ⟨fun _ => ⟨fun e => by omega, fun _ => q⟩, fun e => absurd rfl e⟩)
      have y : uK a k → Q (h 2 f.toNat) M := fun c => by rw [if_pos c] at hq; exact hq
      have no : ¬ uK a k → Q (-13) M := fun c => by rw [if_neg c] at hq; exact hq
      have b0 : (0 = k → Q (h 2 f.toNat) M) → ((0 : Int) ≠ k → Q (-13) M) → K 0 M := fun q1 q2 => stp 0 (by decide) q1 (fun e => by rw [if_pos rfl]; exact fin (q2 e))
      have ac : a = 0 ∨ a = 1 ∨ a = 2 ∨ a = 3 ∨ a = 4 ∨ a = 5 := by omega
      rcases ac with e | e | e | e | e | e <;> subst e
      · exact b0 (fun e => y (Or.inl e)) (fun e => no (by unfold uK; omega))
      · exact stp 1 (by decide) (fun e => y (Or.inl e)) (fun e => b0 (fun e => y (by unfold uK; omega)) (fun e => no (by unfold uK; omega)))
      · exact stp 2 (by decide) (fun e => y (Or.inl e)) (fun e => b0 (fun e => y (by unfold uK; omega)) (fun e => no (by unfold uK; omega)))
      · exact stp 3 (by decide) (fun e => y (Or.inl e)) (fun e => stp 1 (by decide) (fun e => y (by unfold uK; omega)) (fun e => b0 (fun e => y (by unfold uK; omega)) (fun e => no (by unfold uK; omega))))
      · exact stp 4 (by decide) (fun e => y (Or.inl e)) (fun e => stp 2 (by decide) (fun e => y (by unfold uK; omega)) (fun e => b0 (fun e => y (by unfold uK; omega)) (fun e => no (by unfold uK; omega))))
      · exact stp 5 (by decide) (fun e => y (Or.inl e)) (fun e => b0 (fun e => y (by unfold uK; omega)) (fun e => no (by unfold uK; omega)))
    · rw [if_neg hf] at hq ⊢
      exact ⟨fun _ => hq, fun e => absurd rfl e⟩
  · rw [if_neg ck] at hq ⊢
    exact ⟨fun _ => hq, fun e => absurd rfl e⟩)
end MY
