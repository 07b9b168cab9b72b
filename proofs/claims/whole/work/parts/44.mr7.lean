/-! THE MODEL'S TEXTS -/
def RX (τ : Int → Int → (Nat → Int) → Int) (M : Mem) : Prop := ∀ t : Nat, (t : Int) < M 51 3 → ∃ (B : Nat → Int) (N : Nat), N ≤ 160 ∧ M 53 t = N ∧ (∀ i, i < N → M 52 (160 * t + i) = B i ∧ 0 ≤ B i) ∧ (∃ q, rE B N = .inr q) ∧ ∀ p e, 0 ≤ p → p ≤ 2 → τ (t : Int) p e = valP B N p e
theorem RX.rd {τ : Int → Int → (Nat → Int) → Int} {M : Mem} (R : RX τ M) (hz : M 51 3 ≤ 6) : RD τ M := fun n t p e M' Q h1 h2 h3 h4 h5 => by
  obtain ⟨t', rfl⟩ : ∃ t' : Nat, t = (t' : Int) := ⟨t.toNat, by omega⟩
  obtain ⟨B, N, b1, b2, b3, ⟨q, b4⟩, b5⟩ := R t' h2.2
  rw [show n + 80 = (n + 37) + 43 by omega]
  refine mm_read (B := B) (N := N) (e := e) (by omega) b1 (by rw [h1 53 t' (by omega)]; exact b2) (fun i hi => by rw [h1 52 _ (by omega)]; exact b3 i hi) h3 h4 (fun v M'' F R' => ?_)
  rw [(R'.2 q b4).2, ← b5 p e h3.1 h3.2]
  exact h5 M'' F
theorem RX.fr {τ : Int → Int → (Nat → Int) → Int} {M M' : Mem} {P : Nat → Nat → Prop} (R : RX τ M) (hf : Fp P M M') (hs : ∀ o k, (o = 52 ∨ o = 53 ∨ (o = 51 ∧ k = 3)) → ¬ P o k) : RX τ M' := fun t ht => by
  rw [hf 51 3 (hs 51 3 (by omega))] at ht
  obtain ⟨B, N, b1, b2, b3, b4⟩ := R t ht
  exact ⟨B, N, b1, by rw [hf 53 t (hs 53 t (by omega))]; exact b2, fun i hi => by rw [hf 52 _ (hs 52 _ (by omega))]; exact b3 i hi, b4⟩
abbrev sTX (o k : Nat) : Prop := (o = 51 ∧ (k = 3 ∨ k = 6 ∨ (21 ≤ k ∧ k ≤ 29))) ∨ o = 52 ∨ o = 53
theorem mm_text {n : Nat} {M x : Mem} {Q : Int → Mem → Prop} {τ : Int → Int → (Nat → Int) → Int} (Ht : Tpm x M) (h16 : 0 ≤ x 1 0 ∧ x 1 0 ≤ 160) (hby : ∀ i : Nat, (i : Int) < x 1 0 → 0 ≤ x 2 i) (hz : 1 ≤ M 51 3 ∧ M 51 3 ≤ 6) (R : RX τ M) (h0 : ¬ M 51 3 < 6 → Q (-4) M) (h1 : M 51 3 < 6 → ∀ f, rE (x 2) (x 1 0).toNat = .inl f → ∀ M', Fp sTX M M' → M' 51 6 = 0 → M' 51 3 = M 51 3 → RX τ M' → Q (w32 (-100 - f)) M')
    (h2 : M 51 3 < 6 → ∀ q, rE (x 2) (x 1 0).toNat = .inr q → ∀ M', Fp sTX M M' → M' 51 6 = 0 → M' 51 3 = M 51 3 + 1 → RX (tau1 τ (x 2) (x 1 0).toNat (M 51 3)) M' → Q (M 51 3) M') : Con (n + 44) md_X10_text [vR 51] M Q := g_X10_text (fun K hK => by
  unfold B_X10_text
  refine ⟨fun e => h0 (by omega), fun e6 => ?_⟩
  have l6 : M 51 3 < 6 := by omega
  obtain ⟨B, hB⟩ : ∃ B, B = x 2 := ⟨_, rfl⟩
  obtain ⟨N, hN⟩ : ∃ N, N = (x 1 0).toNat := ⟨_, rfl⟩
  obtain ⟨z, hzz⟩ : ∃ z : Nat, (z : Int) = M 51 3 := ⟨(M 51 3).toNat, by omega⟩
  rw [← hB, ← hN] at h1 h2
  refine loopUp (P := fun i => ∀ M', Fp (fun o k => o = 52 ∧ 160 * z ≤ k ∧ k < 160 * z + 160) M M' → (∀ j, j < i → M' 52 (160 * z + j) = B j) → K (i : Int) M') N (fun M' F q => hK _ _ ?_) (fun i hi ih M' F q => hK _ _ ?_) 0 (Nat.zero_le _) M Fp.rf (fun j hj => by omega)
  · unfold B_X10_text_14
    have g3 : M' 51 3 = z := (F 51 3 (by omega)).trans hzz.symm
    have g6 : M' 51 6 = N := by rw [F 51 6 (by omega), Ht.1]; omega
    rw [g6, g3]
    refine ⟨fun _ => ⟨by omega, fun M1 e1 M2 e2 => ?_⟩, fun e => absurd (Int.le_refl _) e⟩
    rw [show (z : Int).toNat = z from rfl] at e1
    have a3 : M2 51 3 = z := by rw [e2, up_ne (by omega), e1, up_ne (by omega)]; exact g3
    rw [a3]
    have F2 : Fp sTX M M2 := by
      rw [e2, e1]
      exact ((F.mono (P' := sTX) (fun o k q => by unfold sTX; omega)).up (by unfold sTX; omega)).up (by unfold sTX; omega)
    have m52 : ∀ i, i < N → M2 52 (160 * z + i) = B i ∧ 0 ≤ B i := fun i hi => ⟨by rw [e2, up_ne (by omega), e1, up_ne (by omega)]; exact q i hi, by rw [hB]; exact hby i (by omega)⟩
    have old : ∀ t : Nat, (t : Int) < M 51 3 → M2 53 t = M 53 t ∧ ∀ i, i < 160 → M2 52 (160 * t + i) = M 52 (160 * t + i) := fun t ht => by
      refine ⟨by rw [e2, up_ne (by omega), e1, up_ne (by omega), F 53 t (by omega)], fun i hi => ?_⟩
      rw [e2, up_ne (by omega), e1, up_ne (by omega), F 52 _ (by omega)]
    refine mm_read (B := B) (N := N) (e := fun k => M2 51 (15 + k)) (by omega) (by omega) (by rw [e2, up_ne (by omega), e1, up_same]) m52 (by decide) (fun k _ => rfl) (fun v M4 F4 R4 => ?_)
    have F04 : Fp sTX M M4 := F2.tr (F4.mono (fun o k q => by unfold sR at q; unfold sTX; omega))
    have b3 : M4 51 3 = z := (F4 51 3 (by unfold sR; omega)).trans a3
    have b6 : M4 51 6 = 0 := by rw [F4 51 6 (by unfold sR; omega), e2, up_same]
    have R4' : RX τ M4 := fun t ht => by
      rw [b3] at ht
      obtain ⟨B', N', k1, k2, k3, k4⟩ := R t (by omega)
      obtain ⟨o1, o2⟩ := old t (by omega)
      exact ⟨B', N', k1, by rw [F4 53 t (by unfold sR; omega), o1]; exact k2, fun i hi => by rw [F4 52 _ (by unfold sR; omega), o2 i (by omega)]; exact k3 i hi, k4⟩
    match hr : rE B N with
    | .inl f =>
      obtain ⟨r1, r2⟩ := R4.1 f hr
      rw [r2]
      exact ⟨fun e => absurd e r1, fun _ => h1 l6 f hr M4 F04 b6 (by rw [b3]; exact hzz) R4'⟩
    | .inr q' =>
      obtain ⟨r1, -⟩ := R4.2 q' hr
      rw [b3, w32_id (x := (z : Int) + 1) (by omega)]
      refine ⟨fun _ M5 e5 => ?_, fun e => absurd r1 e⟩
      have c3 : M5 51 3 = z + 1 := by rw [e5, up_same]
      rw [c3, w32_id (by omega), show (z : Int) + 1 - 1 = M 51 3 by omega]
      have g5 : ∀ o k, ¬ (o = 51 ∧ k = 3) → M5 o k = M4 o k := fun o k hk => by rw [e5, up_ne (by omega)]
      refine h2 l6 q' hr M5 (by rw [e5]; exact F04.up (by unfold sTX; omega)) (by rw [g5 51 6 (by omega)]; exact b6) (by rw [c3]; omega) (fun t ht => ?_)
      rw [c3] at ht
      by_cases c : (t : Int) = M 51 3
      · have ez : t = z := by omega
        subst ez
        refine ⟨B, N, by omega, by rw [g5 53 t (by omega), F4 53 t (by unfold sR; omega), e2, up_ne (by omega), e1, up_same], fun i hi => by rw [g5 52 _ (by omega), F4 52 _ (by unfold sR; omega)]; exact m52 i hi, ⟨q', hr⟩, fun p e _ _ => if_pos c⟩
      · obtain ⟨B', N', k1, k2, k3, k4, k5⟩ := R4' t (by rw [b3]; omega)
        exact ⟨B', N', k1, by rw [g5 53 t (by omega)]; exact k2, fun i hi => by rw [g5 52 _ (by omega)]; exact k3 i hi, k4, fun p e p0 p2 => (if_neg c).trans (k5 p e p0 p2)⟩
  · unfold B_X10_text_14
    have g3 : M' 51 3 = z := (F 51 3 (by omega)).trans hzz.symm
    have g6 : M' 51 6 = N := by rw [F 51 6 (by omega), Ht.1]; omega
    rw [g6, g3, w32_id (x := (i : Int) + 1) (by omega), w32_id (x := 160 * (z : Int)) (by omega), w32_id (x := 160 * (z : Int) + i) (by omega)]
    refine ⟨fun e => by omega, fun _ => ⟨by omega, by omega, fun M6 e6' => ?_⟩⟩
    rw [show (160 * (z : Int) + i).toNat = 160 * z + i by omega, show (i : Int).toNat = i from rfl, F 54 i (by omega), Ht.2 i (by omega), ← hB] at e6'
    refine ih M6 (by rw [e6']; exact F.up (by omega)) (fun j hj => ?_)
    by_cases c : j = i
    · subst c; rw [e6', up_same]
    · rw [e6', up_ne (by omega)]; exact q j (by omega))
