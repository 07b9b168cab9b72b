/-! THE MODEL'S HAND -/
def Fp (P : Nat → Nat → Prop) (M M' : Mem) : Prop := ∀ o k, ¬ P o k → M' o k = M o k
theorem Fp.rf {P : Nat → Nat → Prop} {M : Mem} : Fp P M M := fun _ _ _ => rfl
theorem Fp.tr {P : Nat → Nat → Prop} {M M' M'' : Mem} (h : Fp P M M') (h' : Fp P M' M'') : Fp P M M'' := fun o k hk => (h' o k hk).trans (h o k hk)
theorem Fp.mono {P P' : Nat → Nat → Prop} {M M' : Mem} (h : Fp P M M') (hs : ∀ o k, P o k → P' o k) : Fp P' M M' := fun o k hk => h o k (fun q => hk (hs o k q))
theorem Fp.up {P : Nat → Nat → Prop} {M M' : Mem} (h : Fp P M M') {o k : Nat} {v : Int} (ho : P o k) : Fp P M (up M' o k v) := fun o' k' hk => by
  rw [up_ne (by
    by_cases e1 : o' = o
    · by_cases e2 : k' = k
      · exact absurd (by rw [e1, e2]; exact ho) hk
      · exact Or.inr e2
    · exact Or.inl e1)]
  exact h o' k' hk
/-- the model's scratch: names, reading, the best, prices, angles -/
abbrev sM (o k : Nat) : Prop := (o = 51 ∧ 15 ≤ k ∧ k ≤ 31) ∨ o = 59 ∨ o = 60
/-- and of it what a look leaves: names and reading -/
abbrev sL (o k : Nat) : Prop := o = 51 ∧ 15 ≤ k ∧ k ≤ 29
abbrev sR (o k : Nat) : Prop := o = 51 ∧ 21 ≤ k ∧ k ≤ 29
def Hm (h M : Mem) : Prop := M 51 7 = h 0 0 ∧ M 51 8 = h 0 1 ∧ M 51 4 = h 0 2 ∧ M 51 11 = h 0 3 ∧ M 51 14 = h 0 8 ∧ (∀ i : Nat, (i : Int) < h 0 3 → M 55 i = h 1 i ∧ M 56 (3 * i) = h 2 i ∧ M 56 (3 * i + 1) = h 3 i ∧ M 56 (3 * i + 2) = h 4 i) ∧ (∀ s : Nat, (s : Int) < h 0 8 → M 57 s = h 5 s ∧ M 58 s = h 6 s)
theorem Hm.fr {h M M' : Mem} {P : Nat → Nat → Prop} (H : Hm h M) (hf : Fp P M M') (h51 : ∀ k, P 51 k → 15 ≤ k) (ho : ∀ o k, 55 ≤ o → o ≤ 58 → ¬ P o k) : Hm h M' := by
  have e : ∀ k, k < 15 → M' 51 k = M 51 k := fun k hk => hf 51 k (fun q => by have := h51 k q; omega)
  have e2 : ∀ o k, 55 ≤ o → o ≤ 58 → M' o k = M o k := fun o k q1 q2 => hf o k (ho o k q1 q2)
  obtain ⟨h1, h2, h3, h4, h5, h6, h7⟩ := H
  refine ⟨by rw [e 7 (by omega)]; exact h1, by rw [e 8 (by omega)]; exact h2, by rw [e 4 (by omega)]; exact h3, by rw [e 11 (by omega)]; exact h4, by rw [e 14 (by omega)]; exact h5, fun i hi => ?_, fun s hs => ?_⟩
  · rw [e2 55 _ (by omega) (by omega), e2 56 _ (by omega) (by omega), e2 56 _ (by omega) (by omega), e2 56 _ (by omega) (by omega)]; exact h6 i hi
  · rw [e2 57 _ (by omega) (by omega), e2 58 _ (by omega) (by omega)]; exact h7 s hs
theorem sM51 : ∀ k, sM 51 k → 15 ≤ k := fun k h => by unfold sM at h; omega
theorem sM58 : ∀ o k, 55 ≤ o → o ≤ 58 → ¬ sM o k := fun o k h1 h2 h => by unfold sM at h; omega
theorem sL51 : ∀ k, sL 51 k → 15 ≤ k := fun k h => h.2.1
theorem sL58 : ∀ o k, 55 ≤ o → o ≤ 58 → ¬ sL o k := fun o k h1 h2 h => by unfold sL at h; omega
/-- what the model's texts say: read's contract wherever the texts stand as here -/
def RD (τ : Int → Int → (Nat → Int) → Int) (M : Mem) : Prop := ∀ (n : Nat) (t p : Int) (e : Nat → Int) (M' : Mem) (Q : Int → Mem → Prop), (∀ o k, (o = 52 ∨ o = 53 ∨ (o = 51 ∧ k = 3)) → M' o k = M o k) → (0 ≤ t ∧ t < M 51 3) → (0 ≤ p ∧ p ≤ 2) → (∀ k, k < 6 → M' 51 (15 + k) = e k) → (∀ M'', Fp sR M' M'' → Q (τ t p e) M'') → Con (n + 80) md_X10_read [vR 51, vI t, vI p] M' Q
theorem RD.fr {τ : Int → Int → (Nat → Int) → Int} {M M' : Mem} {P : Nat → Nat → Prop} (R : RD τ M) (hf : Fp P M M') (hs : ∀ o k, (o = 52 ∨ o = 53 ∨ (o = 51 ∧ k = 3)) → ¬ P o k) : RD τ M' := fun n t p e M2 Q h1 h2 h3 h4 h5 =>
  R n t p e M2 Q (fun o k q => (h1 o k q).trans (hf o k (hs o k q))) (by rw [← hf 51 3 (hs 51 3 (by omega))]; exact h2) h3 h4 h5
theorem sM3 : ∀ o k, (o = 52 ∨ o = 53 ∨ (o = 51 ∧ k = 3)) → ¬ sM o k := fun o k h q => by unfold sM at q; omega
theorem sL3 : ∀ o k, (o = 52 ∨ o = 53 ∨ (o = 51 ∧ k = 3)) → ¬ sL o k := fun o k h q => by unfold sL at q; omega
section MB
variable {n : Nat} {τ : Int → Int → (Nat → Int) → Int} {h M : Mem} {Q : Int → Mem → Prop} {f : Int}
theorem Hm.fl (H : Hm h M) (hf : 0 ≤ f ∧ f < h 0 3) : M 55 f.toNat = h 1 f.toNat ∧ M 56 (3 * f).toNat = h 2 f.toNat ∧ M 56 (3 * f + 1).toNat = h 3 f.toNat ∧ M 56 (3 * f + 2).toNat = h 4 f.toNat := by
  have := H.2.2.2.2.2.1 f.toNat (toN hf)
  rw [show (3 * f).toNat = 3 * f.toNat by omega, show (3 * f + 1).toNat = 3 * f.toNat + 1 by omega, show (3 * f + 2).toNat = 3 * f.toNat + 2 by omega]
  exact this
theorem mm_isFlower (H : Hm h M) (W : Wf h) (hq : Q (if 0 ≤ f ∧ f < h 0 3 then 1 else 0) M) : Con (n + 2) md_X10_isFlower [vR 51, vI f] M Q := c_isFlower (by rw [H.2.2.2.1]; exact W.2.2.1) (by rw [H.2.2.2.1]; exact hq)
theorem mm_thickOf (H : Hm h M) (W : Wf h) (hf : 0 ≤ f ∧ f < h 0 3) (hq : Q (thH h f) M) : Con (n + 1) md_X10_thickOf [vR 51, vI f] M Q := g_X10_thickOf (by
  unfold B_X10_thickOf
  have h3 := W.2.2.1
  have hw := W.2.2.2.2.1 _ (toN hf)
  have hv := H.fl hf
  rw [w32_id (x := 3 * f) (by omega), hv.1, hv.2.1]
  unfold thH thk at hq
  generalize h 2 f.toNat = v at hw hq ⊢
  generalize h 1 f.toNat = k at hw hq ⊢
  have e2 : Int.tdiv (3 + v) 2 = (3 + v) / 2 := Int.tdiv_eq_ediv_of_nonneg (by omega)
  have e3 : Int.tdiv v 2 = v / 2 := Int.tdiv_eq_ediv_of_nonneg (by omega)
  rw [w32_id (x := 3 + v) (by omega), e2, w32_id (x := (3 + v) / 2) (by omega), e3, w32_id (x := v / 2) (by omega), w32_id (x := 2 + v / 2) (by omega)]
  refine ⟨by omega, by omega, ?_⟩
  grind)
theorem mm_roomNow (H : Hm h M) (W : Wf h) (hq : Q (rmH h) M) : Con (n + 2) md_X10_roomNow [vR 51] M Q := g_X10_roomNow (by
  intro K hK
  unfold B_X10_roomNow
  have h8 := W.2.2.2.1
  have key := loopUp (P := fun s => K (rmS h s) (s : Int) M) (h 0 8).toNat
    (hK _ _ _ (by
      unfold B_X10_roomNow_7
      rw [H.2.2.2.2.1]
      exact ⟨fun _ => hq, fun e => absurd (show h 0 8 ≤ (((h 0 8).toNat : Nat) : Int) by omega) e⟩))
    (fun s hs ih => hK _ _ _ (by
      unfold B_X10_roomNow_7
      have hs' : (s : Int) < h 0 8 := by omega
      have hst := W.2.2.2.2.2 s hs'
      have hb := rmS_b W s (by omega)
      have ht := thH_b W hst.1
      rw [H.2.2.2.2.1]
      refine ⟨fun e => by omega, fun _ => ⟨by omega, ?_⟩⟩
      rw [show (s : Int).toNat = s from rfl, (H.2.2.2.2.2.2 s hs').1]
      refine mm_thickOf H W hst.1 ?_
      rw [w32_id (x := (s : Int) + 1) (by omega), w32_id (x := rmS h s - thH h (h 5 s)) (by omega)]
      exact ih)) 0 (Nat.zero_le _)
  rw [H.1]
  exact key)
theorem mm_lastAngle (H : Hm h M) (W : Wf h) (hq : Q (laH h) M) : Con (n + 1) md_X10_lastAngle [vR 51] M Q := g_X10_lastAngle (by
  unfold B_X10_lastAngle
  have h8 := W.2.2.2.1
  rw [H.2.2.2.2.1, H.2.1]
  unfold laH at hq
  refine ⟨fun e => by rw [if_neg (by omega)] at hq; exact hq, fun e => ?_⟩
  rw [if_pos (by omega)] at hq
  rw [w32_id (by omega)]
  refine ⟨by omega, ?_⟩
  rw [(H.2.2.2.2.2.2 (h 0 8 - 1).toNat (by omega)).2]
  exact hq)
/-- the names are told -/
def Ev (M : Mem) (e : Nat → Int) : Prop := ∀ k, k < 6 → M 51 (15 + k) = e k
theorem mm_looks (H : Hm h M) (W : Wf h) (hf : 0 ≤ f ∧ f < h 0 3) (hq : ∀ M', Fp sL M M' → Ev M' (evH h f) → Q 0 M') : Con (n + 3) md_X10_looks [vR 51, vI f] M Q := g_X10_looks (by
  unfold B_X10_looks
  have h3 := W.2.2.1
  intro M1 e1
  rw [w32_id (x := 3 * f) (by omega), w32_id (x := 3 * f + 1) (by omega), w32_id (x := 3 * f + 2) (by omega)]
  refine ⟨by omega, fun M2 e2 => ⟨by omega, fun M3 e3 => ?_⟩⟩
  have F1 : Fp sL M M1 := by rw [e1]; exact Fp.rf.up (by unfold sL; omega)
  have F2 : Fp sL M M2 := by rw [e2]; exact F1.up (by unfold sL; omega)
  have F3 : Fp sL M M3 := by rw [e3]; exact F2.up (by unfold sL; omega)
  refine mm_lastAngle (H.fr F3 sL51 sL58) W (fun M6 e6 => ⟨by omega, fun M7 e7 => ?_⟩)
  have F6 : Fp sL M M6 := by rw [e6]; exact F3.up (by unfold sL; omega)
  have F7 : Fp sL M M7 := by rw [e7]; exact F6.up (by unfold sL; omega)
  refine mm_roomNow (H.fr F7 sL51 sL58) W (fun M10 e10 => hq M10 (by rw [e10]; exact F7.up (by unfold sL; omega)) ?_)
  have v1 := (H.fr F1 sL51 sL58).fl hf
  have v2 := (H.fr F2 sL51 sL58).fl hf
  have v6 := (H.fr F6 sL51 sL58).fl hf
  rw [H.2.2.2.2.1] at e1
  rw [v1.2.2.1] at e2
  rw [v2.2.1] at e3
  rw [v6.2.2.2] at e7
  refine six ?_ ?_ ?_ ?_ ?_ ?_
  · rw [e10, up_ne (by omega), e7, up_ne (by omega), e6, up_ne (by omega), e3, up_ne (by omega), e2, up_ne (by omega), e1]; exact up_same
  · rw [e10, up_ne (by omega), e7, up_ne (by omega), e6, up_ne (by omega), e3, up_ne (by omega), e2]; exact up_same
  · rw [e10, up_ne (by omega), e7, up_ne (by omega), e6, up_ne (by omega), e3]; exact up_same
  · rw [e10, up_ne (by omega), e7, up_ne (by omega), e6]; exact up_same
  · rw [e10, up_ne (by omega), e7]; exact up_same
  · rw [e10]; exact up_same)
theorem mm_turnsOf {e : Nat → Int} (H : Hm h M) (W : Wf h) (R : RD τ M) (hr : 0 ≤ h 0 2 ∧ h 0 2 < M 51 3) (hf : 0 ≤ f ∧ f < h 0 3) (he : Ev M e) (hq : ∀ M', Fp sR M M' → Q (tuV τ (h 0 2) (h 1 f.toNat) e) M') : Con (n + 81) md_X10_turnsOf [vR 51, vI f] M Q := g_X10_turnsOf (by
  unfold B_X10_turnsOf
  have h3 := W.2.2.1
  have hw := W.2.2.2.2.1 _ (toN hf)
  refine ⟨by omega, ?_⟩
  rw [H.2.2.1, (H.fl hf).1]
  refine R n _ _ e M _ (fun _ _ _ => rfl) hr (by decide) he (fun M' hF => c_within ?_)
  have hq := hq M' hF
  unfold tuV kTu at hq
  generalize τ (h 0 2) 0 e = v at hq ⊢
  have ev : (if v < -16 then (-16 : Int) else if 16 < v then 16 else v) = max (-16) (min 16 v) := by split <;> (try split) <;> omega
  rw [ev]
  generalize hv : max (-16) (min 16 v) = u at hq ⊢
  have hu : -16 ≤ u ∧ u ≤ 16 := by omega
  rw [w32_id (x := u + 1) (by omega), w32_id (x := 2 * u) (by omega), w32_id (x := -u) (by omega)]
  grind)
theorem mm_costsOf {e : Nat → Int} (H : Hm h M) (W : Wf h) (R : RD τ M) (hr : 0 ≤ h 0 2 ∧ h 0 2 < M 51 3) (hf : 0 ≤ f ∧ f < h 0 3) (he : Ev M e) (h2 : e 2 = h 2 f.toNat) (hq : ∀ M', Fp sR M M' → Q (coV τ (h 0 2) (h 1 f.toNat) e) M') : Con (n + 81) md_X10_costsOf [vR 51, vI f] M Q := g_X10_costsOf (by
  unfold B_X10_costsOf
  have h3 := W.2.2.1
  have hw := W.2.2.2.2.1 _ (toN hf)
  refine ⟨by omega, ?_⟩
  rw [H.2.2.1, (H.fl hf).1]
  refine R n _ _ e M _ (fun _ _ _ => rfl) hr (by decide) he (fun M' hF => c_within ?_)
  have hq := hq M' hF
  unfold coV kCo at hq
  rw [h2] at hq
  generalize τ (h 0 2) 1 e = v at hq ⊢
  have ev : (if v < 0 then (0 : Int) else if 999 < v then 999 else v) = max 0 (min 999 v) := by split <;> (try split) <;> omega
  rw [ev]
  generalize hv : max 0 (min 999 v) = u at hq ⊢
  have hu : 0 ≤ u ∧ u ≤ 999 := by omega
  have e2 : Int.tdiv u 2 = u / 2 := Int.tdiv_eq_ediv_of_nonneg (by omega)
  have hm : M' 56 (3 * f).toNat = h 2 f.toNat := (hF 56 _ (by unfold sR; omega)).trans (H.fl hf).2.1
  rw [w32_id (x := 3 * f) (by omega), hm, e2, w32_id (x := 2 * u) (by omega), w32_id (x := u / 2) (by omega), w32_id (x := 2 * u - h 2 f.toNat) (by omega)]
  refine ⟨fun c => ⟨fun _ => ?_, fun c2 => by omega⟩, fun c0 => ⟨fun c => ⟨by omega, fun c2 => ?_, fun c2 => ?_⟩, fun c1 => ⟨fun c => ⟨fun _ => ?_, fun c2 => by omega⟩, fun c2 => ⟨fun c => ⟨fun _ => ?_, fun c3 => by omega⟩, fun c3 => ⟨fun _ => ?_, fun c4 => by omega⟩⟩⟩⟩⟩
  · rw [if_pos c] at hq; exact hq
  · rw [if_neg c0, if_neg (by omega), if_pos c, show max 0 (2 * u - h 2 f.toNat) = 2 * u - h 2 f.toNat by omega] at hq; exact hq
  · rw [if_neg c0, if_neg (by omega), if_pos c, show max 0 (2 * u - h 2 f.toNat) = 0 by omega] at hq; exact hq
  · rw [if_neg c0, if_pos (by omega)] at hq; exact hq
  · rw [if_neg c0, if_pos (by omega)] at hq; exact hq
  · rw [if_neg c0, if_neg (by omega), if_neg c1] at hq; exact hq)
theorem mm_lastsOf {e : Nat → Int} (H : Hm h M) (W : Wf h) (R : RD τ M) (hr : 0 ≤ h 0 2 ∧ h 0 2 < M 51 3) (hf : 0 ≤ f ∧ f < h 0 3) (he : Ev M e) (h2 : e 2 = h 2 f.toNat) (hq : ∀ M', Fp sR M M' → Q (laV τ (h 0 2) (h 1 f.toNat) e) M') : Con (n + 81) md_X10_lastsOf [vR 51, vI f] M Q := g_X10_lastsOf (by
  unfold B_X10_lastsOf
  have h3 := W.2.2.1
  have hw := W.2.2.2.2.1 _ (toN hf)
  refine ⟨by omega, ?_⟩
  rw [H.2.2.1, (H.fl hf).1]
  refine R n _ _ e M _ (fun _ _ _ => rfl) hr (by decide) he (fun M' hF => c_within ?_)
  have hq := hq M' hF
  unfold laV kLa at hq
  rw [h2] at hq
  generalize τ (h 0 2) 2 e = v at hq ⊢
  have ev : (if v < 0 then (0 : Int) else if 30 < v then 30 else v) = max 0 (min 30 v) := by split <;> (try split) <;> omega
  rw [ev]
  generalize hv : max 0 (min 30 v) = u at hq ⊢
  have hu : 0 ≤ u ∧ u ≤ 30 := by omega
  have hm : M' 56 (3 * f).toNat = h 2 f.toNat := (hF 56 _ (by unfold sR; omega)).trans (H.fl hf).2.1
  rw [w32_id (x := 3 * f) (by omega), hm, w32_id (x := 2 * u) (by omega), w32_id (x := u + 1) (by omega), w32_id (x := 2 * u + h 2 f.toNat) (by omega)]
  refine ⟨fun c => ?_, fun c0 => ⟨fun c => ⟨by omega, ?_⟩, fun c1 => ⟨fun c => ?_, fun c2 => ⟨fun c => ?_, fun c3 => ?_⟩⟩⟩⟩
  · rw [if_pos c] at hq; exact hq
  · rw [if_neg c0, if_neg (by omega), if_pos c] at hq; exact hq
  · rw [if_neg c0, if_pos c] at hq; exact hq
  · rw [if_neg c0, if_neg c2, if_neg c1, if_pos c] at hq; exact hq
  · rw [if_neg c0, if_neg c2, if_neg c1, if_neg c3] at hq; exact hq)
theorem mm_round {a : Int} (ha : -1000000 ≤ a ∧ a ≤ 1000000) (hq : Q (a % 16) M) : Con (n + 1) md_X10_round [vI a] M Q := g_X10_round (by
  unfold B_X10_round
  have hb : -16 < a.tmod 16 ∧ a.tmod 16 < 16 := ⟨Int.lt_tmod_of_pos a (by decide), Int.tmod_lt_of_pos a (by decide)⟩
  have e : a % 16 = if 0 ≤ a.tmod 16 then a.tmod 16 else a.tmod 16 + 16 := by
    have hd := Int.tmod_eq_emod (a := a) (b := 16)
    have h1 : 0 ≤ a % 16 ∧ a % 16 < 16 := by omega
    by_cases c : 0 ≤ a ∨ (16 : Int) ∣ a
    · rw [if_pos c] at hd
      split <;> omega
    · rw [if_neg c] at hd
      have : Int.natAbs 16 = 16 := rfl
      split <;> omega
  rw [e] at hq
  refine ⟨fun c => by rw [if_pos c] at hq; exact hq, fun c => ?_⟩
  rw [if_neg c] at hq
  rw [w32_id (by omega)]; exact hq)
theorem mm_isRoom (H : Hm h M) (W : Wf h) (hf : 0 ≤ f ∧ f < h 0 3) (hq : Q (if h 0 8 < 40 ∧ thH h f ≤ rmH h then 1 else 0) M) : Con (n + 3) md_X10_isRoom [vR 51, vI f] M Q := g_X10_isRoom (by
  unfold B_X10_isRoom
  rw [H.2.2.2.2.1]
  refine ⟨fun e => by rw [if_neg (by omega)] at hq; exact hq, fun e => mm_thickOf H W hf (mm_roomNow H W ⟨fun e1 => ?_, fun e1 => ?_⟩)⟩
  · rw [if_neg (by omega)] at hq; exact hq
  · rw [if_pos (by omega)] at hq; exact hq)
theorem mm_canLay (H : Hm h M) (W : Wf h) (hf : 0 ≤ f ∧ f < h 0 3) (hq : Q (if caH h f then 1 else 0) M) : Con (n + 4) md_X10_canLay [vR 51, vI f] M Q := g_X10_canLay (by
  unfold B_X10_canLay
  have h3 := W.2.2.1
  rw [w32_id (x := 3 * f) (by omega), w32_id (x := 3 * f + 2) (by omega), (H.fl hf).2.2.2]
  refine ⟨by omega, fun e => ?_, fun e => mm_isRoom H W hf ?_⟩
  · rw [if_neg (by unfold caH; omega)] at hq; exact hq
  · by_cases c : h 0 8 < 40 ∧ thH h f ≤ rmH h
    · rw [if_pos c]; rw [if_pos ⟨by omega, c.1, c.2⟩] at hq; exact ⟨fun e => by omega, fun _ => hq⟩
    · rw [if_neg c]; rw [if_neg (fun q => c ⟨q.2.1, q.2.2⟩)] at hq; exact ⟨fun _ => hq, fun e => absurd rfl e⟩)
/-- the model's frame when stems come and go -/
abbrev sP (o k : Nat) : Prop := sL o k ∨ (o = 51 ∧ k = 14) ∨ o = 56 ∨ o = 57 ∨ o = 58
theorem Hm.of (h1 : M 51 7 = h 0 0) (h2 : M 51 8 = h 0 1) (h3 : M 51 4 = h 0 2) (h4 : M 51 11 = h 0 3) (h5 : M 51 14 = h 0 8) (h6 : ∀ i : Nat, (i : Int) < h 0 3 → M 55 i = h 1 i ∧ M 56 (3 * i) = h 2 i ∧ M 56 (3 * i + 1) = h 3 i ∧ M 56 (3 * i + 2) = h 4 i) (h7 : ∀ s : Nat, (s : Int) < h 0 8 → M 57 s = h 5 s ∧ M 58 s = h 6 s) : Hm h M := ⟨h1, h2, h3, h4, h5, h6, h7⟩
theorem mm_puts (H : Hm h M) (W : Wf h) (R : RD τ M) (hr : 0 ≤ h 0 2 ∧ h 0 2 < M 51 3) (hf : 0 ≤ f ∧ f < h 0 3) (hc : caH h f) (hq : ∀ M', Fp sP M M' → Hm (puH τ h f) M' → Q 0 M') : Con (n + 82) md_X10_puts [vR 51, vI f] M Q := g_X10_puts (by
  unfold B_X10_puts
  have h3 := W.2.2.1
  have h8 := W.2.2.2.1
  have hw := W.2.2.2.2.1 _ (toN hf)
  refine mm_looks H W hf (fun M2 F2 E2 => ?_)
  have H2 := H.fr F2 sL51 sL58
  refine mm_lastAngle H2 W ?_
  refine mm_turnsOf H2 W (R.fr F2 sL3) (by rw [F2 51 3 (by unfold sL; omega)]; exact hr) hf E2 (fun M6 F6 => ?_)
  have hla := laH_b W
  have htu := tuV_b τ (h 0 2) (h 1 f.toNat) (evH h f)
  rw [w32_id (x := laH h + tuV τ (h 0 2) (h 1 f.toNat) (evH h f)) (by omega)]
  have F06 : Fp sL M M6 := F2.tr (F6.mono (fun o k q => by unfold sR at q; unfold sL; omega))
  have H6 := H.fr F06 sL51 sL58
  refine mm_round (by omega) ?_
  show _ ∧ ∀ M9, M9 = up M6 57 _ f → _
  rw [H6.2.2.2.2.1]
  refine ⟨by omega, fun M9 e9 => ?_⟩
  have a9 : M9 51 14 = h 0 8 := by rw [e9, up_ne (by omega)]; exact H6.2.2.2.2.1
  rw [a9]
  refine ⟨by omega, fun M10 e10 M11 e11 => ?_⟩
  have a10 : M10 51 14 = h 0 8 := by rw [e10, up_ne (by omega)]; exact a9
  rw [a10, w32_id (x := h 0 8 + 1) (by omega)] at e11
  rw [w32_id (x := 3 * f) (by omega), w32_id (x := 3 * f + 2) (by omega)]
  refine ⟨by omega, by omega, fun M12 e12 => ?_⟩
  have a11 : M11 56 (3 * f + 2).toNat = h 4 f.toNat := by rw [e11, up_ne (by omega), e10, up_ne (by omega), e9, up_ne (by omega)]; exact (H6.fl hf).2.2.2
  rw [a11, w32_id (x := h 4 f.toNat - 1) (by omega)] at e12
  have ea : (laH h + tuV τ (h 0 2) (h 1 f.toNat) (evH h f)) % 16 = anH τ h f := rfl
  rw [ea] at e10
  have g51 : ∀ k, k ≠ 14 → M12 51 k = M6 51 k := fun k hk => by rw [e12, up_ne (by omega), e11, up_ne (by omega), e10, up_ne (by omega), e9, up_ne (by omega)]
  have g55 : ∀ k, M12 55 k = M6 55 k := fun k => by rw [e12, up_ne (by omega), e11, up_ne (by omega), e10, up_ne (by omega), e9, up_ne (by omega)]
  have g56 : ∀ k, k ≠ (3 * f + 2).toNat → M12 56 k = M6 56 k := fun k hk => by rw [e12, up_ne (by omega), e11, up_ne (by omega), e10, up_ne (by omega), e9, up_ne (by omega)]
  refine hq M12 ?_ (Hm.of ?_ ?_ ?_ ?_ ?_ (fun i hi => ?_) (fun s hs => ?_))
  · rw [e12, e11, e10, e9]
    exact ((((F06.mono (P' := sP) (fun o k q => Or.inl q)).up (by omega)).up (by omega)).up (by omega)).up (by omega)
  · rw [g51 7 (by decide), H6.1]; exact (adH_0 (by decide)).symm
  · rw [g51 8 (by decide), H6.2.1]; exact (adH_0 (by decide)).symm
  · rw [g51 4 (by decide), H6.2.2.1]; exact (adH_0 (by decide)).symm
  · rw [g51 11 (by decide), H6.2.2.2.1]; exact (adH_0 (by decide)).symm
  · rw [e12, up_ne (by omega), e11, up_same]; exact adH_n.symm
  · have hi' : (i : Int) < h 0 3 := by have : puH τ h f 0 3 = h 0 3 := adH_0 (by decide); rw [this] at hi; exact hi
    have v := H6.2.2.2.2.2.1 i hi'
    rw [g55, g56 (3 * i) (by omega), g56 (3 * i + 1) (by omega)]
    refine ⟨by rw [v.1]; exact (congrFun adH_1 i).symm, by rw [v.2.1]; exact (congrFun adH_2 i).symm, by rw [v.2.2.1]; exact (congrFun adH_3 i).symm, ?_⟩
    by_cases c : i = f.toNat
    · subst c
      rw [show 3 * f.toNat + 2 = (3 * f + 2).toNat by omega, e12, up_same]; exact adH_4s.symm
    · rw [g56 (3 * i + 2) (by omega), v.2.2.2]; exact (adH_4n c).symm
  · have hs' : (s : Int) < h 0 8 + 1 := by have : puH τ h f 0 8 = h 0 8 + 1 := adH_n; rw [this] at hs; exact hs
    rw [e12, up_ne (by omega), up_ne (by omega), e11, up_ne (by omega), up_ne (by omega), e10]
    by_cases c : s = (h 0 8).toNat
    · subst c
      rw [up_ne (by omega), up_same, e9, up_same]
      exact ⟨adH_5s.symm, adH_6s.symm⟩
    · have v := H6.2.2.2.2.2.2 s (by omega)
      rw [up_ne (by omega), up_ne (by omega), e9, up_ne (by omega), up_ne (by omega), v.1, v.2]
      exact ⟨(adH_5n c).symm, (adH_6n c).symm⟩)
theorem mm_takesOff {a : Int} (H : Hm (adH h f a) M) (W : Wf h) (hf : 0 ≤ f ∧ f < h 0 3) (hc : caH h f) (hq : ∀ M', Fp sP M M' → Hm h M' → Q 0 M') : Con (n + 1) md_X10_takesOff [vR 51] M Q := g_X10_takesOff (by
  unfold B_X10_takesOff
  have h3 := W.2.2.1
  have h8 := W.2.2.2.1
  have hw := W.2.2.2.2.1 _ (toN hf)
  intro M1 e1
  rw [H.2.2.2.2.1, adH_n, w32_id (by omega), show h 0 8 + 1 - 1 = h 0 8 by omega] at e1
  have a14 : M1 51 14 = h 0 8 := by rw [e1, up_same]
  have a57 : M1 57 (h 0 8).toNat = f := by rw [e1, up_ne (by omega), (H.2.2.2.2.2.2 (h 0 8).toNat (by rw [adH_n]; omega)).1]; exact adH_5s
  rw [a14, a57, w32_id (x := 3 * f) (by omega), w32_id (x := 3 * f + 2) (by omega)]
  refine ⟨by omega, by omega, by omega, fun M2 e2 => ?_⟩
  have a56 : M1 56 (3 * f + 2).toNat = h 4 f.toNat - 1 := by
    rw [e1, up_ne (by omega)]
    have := (H.fl (f := f) (by rw [adH_0 (by decide)]; exact hf)).2.2.2
    rw [this]; exact adH_4s
  rw [a56, w32_id (by omega), show h 4 f.toNat - 1 + 1 = h 4 f.toNat by omega] at e2
  refine hq M2 (by rw [e2, e1]; exact (Fp.rf.up (by unfold sP; omega)).up (by unfold sP; omega)) (Hm.of ?_ ?_ ?_ ?_ ?_ (fun i hi => ?_) (fun s hs => ?_))
  · rw [e2, up_ne (by omega), e1, up_ne (by omega), H.1]; exact adH_0 (by decide)
  · rw [e2, up_ne (by omega), e1, up_ne (by omega), H.2.1]; exact adH_0 (by decide)
  · rw [e2, up_ne (by omega), e1, up_ne (by omega), H.2.2.1]; exact adH_0 (by decide)
  · rw [e2, up_ne (by omega), e1, up_ne (by omega), H.2.2.2.1]; exact adH_0 (by decide)
  · rw [e2, up_ne (by omega), e1, up_same]
  · have v := H.2.2.2.2.2.1 i (by rw [adH_0 (by decide)]; exact hi)
    rw [e2, up_ne (o' := 55) (by omega), up_ne (k' := 3 * i) (by omega), up_ne (k' := 3 * i + 1) (by omega), e1, up_ne (o' := 55) (by omega), up_ne (k' := 3 * i) (by omega), up_ne (k' := 3 * i + 1) (by omega)]
    refine ⟨by rw [v.1, adH_1], by rw [v.2.1, adH_2], by rw [v.2.2.1, adH_3], ?_⟩
    by_cases c : i = f.toNat
    · subst c
      rw [show 3 * f.toNat + 2 = (3 * f + 2).toNat by omega, up_same]
    · rw [up_ne (by omega), up_ne (by omega), v.2.2.2, adH_4n c]
  · have v := H.2.2.2.2.2.2 s (by rw [adH_n]; omega)
    rw [e2, up_ne (by omega), up_ne (by omega), e1, up_ne (by omega), up_ne (by omega), v.1, v.2, adH_5n (by omega), adH_6n (by omega)]
    exact ⟨rfl, rfl⟩)
end MB
