/-! THE START: both hold the document's first state -/
def txL : List Int := [116, 117, 114, 110, 115, 32, 51, 32, 59, 32, 99, 111, 115, 116, 115, 32, 49, 48, 32, 59, 32, 108, 97, 115, 116, 115, 32, 53, 32, 59, 32, 32]
def txB (i : Nat) : Int := txL.getD i 0
theorem tx_rE : (rE txB 32).isRight = true := by decide +kernel
theorem tx_s0 : seg txB 32 0 = [3] := by decide +kernel
theorem tx_s1 : seg txB 32 1 = [10] := by decide +kernel
theorem tx_s2 : seg txB 32 2 = [5] := by decide +kernel
def tau0 : Tau := fun _ p _ => if p = 0 then 3 else if p = 1 then 10 else 5
def h00 : Mem := fun r k => if r = 0 ∧ k = 0 then 200 else 0
def x00 : Mem := fun r _ => if r = 3 then -1 else 0
theorem MF_52 : ∀ i, i < 32 → MF 52 (160 * 0 + i) = txB i ∧ 0 ≤ txB i := by decide +kernel
theorem MF_44 : ∀ s, s < 4 → MF 44 s = -1 := by decide +kernel
theorem MF_64 : ∀ s, s < 4 → MF 64 s = 0 := by decide +kernel
theorem MF_19 (k : Nat) : MF 19 k = MI 19 k := by
  unfold MF
  rw [up_ne (by omega), up_ne (by omega)]
  unfold spl
  rw [if_neg (by omega), if_neg (by omega), if_neg (by omega), if_neg (by omega)]
theorem TC_ini : TC tau0 MF := by
  have e0 : MF 17 0 = 1 := by decide +kernel
  refine ⟨by rw [e0]; omega, fun t p h1 h2 h3 h4 => ?_⟩
  rw [e0] at h2
  have ht : t = 0 := by omega
  subst ht
  have e26 : MF (26 + (0 : Int).toNat) 0 = 1 ∧ MF (26 + (0 : Int).toNat) 1 = 2 ∧ MF (26 + (0 : Int).toNat) 2 = 3 := by decide +kernel
  have r : MF (19 + (0 : Int).toNat) = MI 19 := funext MF_19
  rw [r]
  rcases (show p = 0 ∨ p = 1 ∨ p = 2 by omega) with rfl | rfl | rfl
  · exact ⟨0, 1, by omega, by omega, fun _ => rfl, fun e => absurd rfl e, e26.1, fun e => rfl⟩
  · exact ⟨1, 2, by omega, by omega, fun e => by omega, fun _ => e26.1, e26.2.1, fun e => rfl⟩
  · exact ⟨2, 3, by omega, by omega, fun e => by omega, fun _ => e26.2.1, e26.2.2, fun e => rfl⟩
theorem RX_ini : RX tau0 MF := by
  have e0 : MF 51 3 = 1 := by decide +kernel
  intro t ht
  rw [e0] at ht
  have ht0 : t = 0 := by omega
  subst ht0
  have hr : ∃ q, rE txB 32 = .inr q := by
    have h := tx_rE
    match hq : rE txB 32 with
    | .inl f => rw [hq] at h; cases h
    | .inr q => exact ⟨q, rfl⟩
  refine ⟨txB, 32, by omega, by decide +kernel, MF_52, hr, fun p e p0 p2 => ?_⟩
  unfold valP tau0
  rcases (show p = 0 ∨ p = 1 ∨ p = 2 by omega) with rfl | rfl | rfl
  · rw [tx_s0]; rfl
  · rw [tx_s1]; rfl
  · rw [tx_s2]; rfl
theorem h00_03 : h00 0 3 = 0 := by decide
theorem h00_08 : h00 0 8 = 0 := by decide
theorem Inv_ini : Inv MF := by
  refine ⟨h00, h00, fun _ _ => 0, x00, tau0, 1, false, ⟨?_, TC_ini, by decide +kernel, fun s hs => ⟨MF_44 s hs, fun e => absurd rfl e⟩, ⟨by decide +kernel, fun i hi => by have : (i : Int) < 0 := hi; omega⟩, fun _ => by decide +kernel, fun e => by cases e⟩, ⟨?_, RX_ini, by decide +kernel, fun s hs => ⟨fun _ => MF_64 s hs, fun e => absurd rfl e⟩, ⟨by decide +kernel, fun i hi => by have : (i : Int) < 0 := hi; omega⟩, fun _ => by decide +kernel, fun e => by cases e⟩, ?_⟩
  · refine ⟨by decide +kernel, by decide +kernel, by decide +kernel, by decide +kernel, by decide +kernel, fun i hi => ?_, fun s hs => ?_⟩
    · rw [h00_03] at hi; omega
    · rw [h00_08] at hs; omega
  · refine ⟨by decide +kernel, by decide +kernel, by decide +kernel, by decide +kernel, by decide +kernel, fun i hi => ?_, fun s hs => ?_⟩
    · rw [h00_03] at hi; omega
    · rw [h00_08] at hs; omega
  · refine ⟨⟨by decide, by decide, by decide, by decide, fun i hi => ?_, fun s hs => ?_⟩, by decide, by decide, fun s hs => ⟨by show (-1 : Int) ≤ -1 ∧ (-1 : Int) ≤ 2; omega, fun e => absurd rfl e⟩, by decide, fun i hi => by have : (i : Int) < 0 := hi; omega, fun e => by cases e⟩
    · rw [h00_03] at hi; omega
    · rw [h00_08] at hs; omega
