/-! COUNTS OF STEMS; WHAT IS ASKED OF THE HAND -/
abbrev sC : List Nat := [32, 33, 34, 35, 36, 37, 38, 39, 40, 41, 42]
theorem sC7 : ∀ o : Nat, 1 ≤ o → o ≤ 7 → o ∉ sC := by simp [sC]; omega
theorem sC31 : ∀ o : Nat, 17 ≤ o → o ≤ 31 → o ∉ sC := by simp [sC]; omega
section HANDQ
variable {n : Nat} {τ : Int → Int → (Nat → Int) → Int} {h M : Mem} {Q : Int → Mem → Prop}
theorem sm01 (p : Nat → Prop) (d : (s : Nat) → Decidable (p s)) (m : Nat) : 0 ≤ sm (fun s => @ite Int (p s) (d s) 1 0) m ∧ sm (fun s => @ite Int (p s) (d s) 1 0) m ≤ m := sm_b (fun s _ => by split <;> omega)
theorem c_stemsOf {f : Int} (H : Hd h M) (W : Wf h) (hq : Q (sm (fun s => if h 5 s = f then 1 else 0) (h 0 8).toNat) M) : Con (n + 1) md_X0_stemsOf [vR 1, vI f] M Q := g_X0_stemsOf (by
  intro K hK
  unfold B_X0_stemsOf
  have h8 := W.2.2.2.1
  refine loopUp (P := fun s => K (sm (fun s => if h 5 s = f then 1 else 0) s) (s : Int) M) (h 0 8).toNat ?_ ?_ 0 (Nat.zero_le _)
  · apply hK
    unfold B_X0_stemsOf_4
    rw [H.2.2.2.2.1]
    exact ⟨fun _ => hq, fun e => absurd (show h 0 8 ≤ (((h 0 8).toNat : Nat) : Int) by omega) e⟩
  · intro s hs ih
    apply hK
    unfold B_X0_stemsOf_4
    have hb := sm01 (fun s => h 5 s = f) inferInstance s
    rw [H.2.2.2.2.1, w32_id (x := (s : Int) + 1) (by omega), show (s : Int).toNat = s from rfl, (H.2.2.2.2.2.2 s (by omega)).1]
    unfold sm at ih
    refine ⟨fun e => by omega, fun _ => ⟨by omega, fun e => ?_, fun e => ?_⟩⟩
    · rw [if_pos e] at ih; rw [w32_id (by omega)]; exact ih
    · rw [if_neg e, Int.add_zero] at ih; exact ih)
theorem c_stemsOfColour {c : Int} (H : Hd h M) (W : Wf h) (hq : Q (sm (fun s => if coS h s = c then 1 else 0) (h 0 8).toNat) M) : Con (n + 3) md_X0_stemsOfColour [vR 1, vI c] M Q := g_X0_stemsOfColour (by
  intro K hK
  unfold B_X0_stemsOfColour
  have h8 := W.2.2.2.1
  refine loopUp (P := fun s => K (sm (fun s => if coS h s = c then 1 else 0) s) (s : Int) M) (h 0 8).toNat ?_ ?_ 0 (Nat.zero_le _)
  · apply hK
    unfold B_X0_stemsOfColour_4
    rw [H.2.2.2.2.1]
    exact ⟨fun _ => hq, fun e => absurd (show h 0 8 ≤ (((h 0 8).toNat : Nat) : Int) by omega) e⟩
  · intro s hs ih
    apply hK
    unfold B_X0_stemsOfColour_4
    have hb := sm01 (fun s => coS h s = c) inferInstance s
    have hst := W.2.2.2.2.2 s (by omega)
    rw [H.2.2.2.2.1, w32_id (x := (s : Int) + 1) (by omega), show (s : Int).toNat = s from rfl, (H.2.2.2.2.2.2 s (by omega)).1]
    unfold sm at ih
    refine ⟨fun e => by omega, fun _ => ⟨by omega, c_colourOf H W hst.1 ⟨fun e => ?_, fun e => ?_⟩⟩⟩
    · rw [if_pos (show coS h s = c from e)] at ih; rw [w32_id (by omega)]; exact ih
    · rw [if_neg (show ¬ coS h s = c from e), Int.add_zero] at ih; exact ih)
theorem c_stemsInQuarter {q : Int} (H : Hd h M) (W : Wf h) (hq : Q (sm (fun s => if h 6 s / 4 = q then 1 else 0) (h 0 8).toNat) M) : Con (n + 1) md_X0_stemsInQuarter [vR 1, vI q] M Q := g_X0_stemsInQuarter (by
  intro K hK
  unfold B_X0_stemsInQuarter
  have h8 := W.2.2.2.1
  refine loopUp (P := fun s => K (sm (fun s => if h 6 s / 4 = q then 1 else 0) s) (s : Int) M) (h 0 8).toNat ?_ ?_ 0 (Nat.zero_le _)
  · apply hK
    unfold B_X0_stemsInQuarter_4
    rw [H.2.2.2.2.1]
    exact ⟨fun _ => hq, fun e => absurd (show h 0 8 ≤ (((h 0 8).toNat : Nat) : Int) by omega) e⟩
  · intro s hs ih
    apply hK
    unfold B_X0_stemsInQuarter_4
    have hb := sm01 (fun s => h 6 s / 4 = q) inferInstance s
    have hst := W.2.2.2.2.2 s (by omega)
    rw [H.2.2.2.2.1, w32_id (x := (s : Int) + 1) (by omega), show (s : Int).toNat = s from rfl, (H.2.2.2.2.2.2 s (by omega)).2, Int.tdiv_eq_ediv_of_nonneg hst.2.1, w32_id (x := h 6 s / 4) (by omega)]
    unfold sm at ih
    refine ⟨fun e => by omega, fun _ => ⟨by omega, fun e => ?_, fun e => ?_⟩⟩
    · rw [if_pos e] at ih; rw [w32_id (by omega)]; exact ih
    · rw [if_neg e, Int.add_zero] at ih; exact ih)
theorem bkS_b (W : Wf h) : ∀ m : Nat, (m : Int) ≤ h 0 3 → 0 ≤ sm (h 4) m ∧ sm (h 4) m ≤ 40 * m
  | 0, _ => by unfold sm; omega
  | m + 1, hm => by
    have h1 := bkS_b W m (by omega)
    have h2 := (W.2.2.2.2.1 m (by omega)).2.2.2
    unfold sm; omega
theorem c_inAllBuckets (H : Hd h M) (W : Wf h) (hq : Q (sm (h 4) (h 0 3).toNat) M) : Con (n + 1) md_X0_inAllBuckets [vR 1] M Q := g_X0_inAllBuckets (by
  intro K hK
  unfold B_X0_inAllBuckets
  have h3 := W.2.2.1
  refine loopUp (P := fun s => K (sm (h 4) s) (s : Int) M) (h 0 3).toNat ?_ ?_ 0 (Nat.zero_le _)
  · apply hK
    unfold B_X0_inAllBuckets_4
    rw [H.2.2.2.1]
    exact ⟨fun _ => hq, fun e => absurd (show h 0 3 ≤ (((h 0 3).toNat : Nat) : Int) by omega) e⟩
  · intro s hs ih
    apply hK
    unfold B_X0_inAllBuckets_4
    have hb := bkS_b W s (by omega)
    have h2 := (W.2.2.2.2.1 s (by omega)).2.2.2
    rw [H.2.2.2.1, w32_id (x := (s : Int) + 1) (by omega), show (s : Int).toNat = s from rfl, (H.2.2.2.2.2.1 s (by omega)).2.2.2, w32_id (by omega)]
    exact ⟨fun e => by omega, fun _ => ⟨by omega, ih⟩⟩)
def geH (h : Mem) (what f : Int) : Int := if what = 0 then h 0 0 else if what = 1 then h 0 1 else h what.toNat f.toNat
theorem c_settingOf {w f : Int} (H : Hd h M) (W : Wf h) (hw : 0 ≤ w ∧ w ≤ 4) (hf : 2 ≤ w → 0 ≤ f ∧ f < h 0 3) (hq : Q (geH h w f) M) : Con (n + 2) md_X0_settingOf [vR 1, vI w, vI f] M Q := g_X0_settingOf (by
  unfold B_X0_settingOf
  have h3 := W.2.2.1
  unfold geH at hq
  refine ⟨fun e => by rw [if_pos e] at hq; rw [H.1]; exact hq, fun e0 => ⟨fun e => by rw [if_neg e0, if_pos e] at hq; rw [H.2.1]; exact hq, fun e1 => ?_⟩⟩
  rw [if_neg e0, if_neg e1] at hq
  have hf := hf (by omega)
  have hv := H.2.2.2.2.2.1 _ (toN hf)
  refine c_hasFlower ?_
  rw [H.2.2.2.1, if_pos hf]
  refine ⟨fun e => by omega, fun _ => ⟨fun e => by omega, fun e => ⟨by omega, ?_⟩, fun e => ⟨by omega, ?_⟩, fun e => ⟨by omega, ?_⟩⟩⟩
  · subst e; rw [hv.2.1]; exact hq
  · subst e; rw [hv.2.2.1]; exact hq
  · subst e; rw [hv.2.2.2]; exact hq)
def seH (h : Mem) (what f v : Int) : Mem := if what = 0 then up h 0 0 v else if what = 1 then up h 0 1 v else up h what.toNat f.toNat v
def moS (w : Int) : Int := if w = 0 then 400 else if w = 1 then 15 else if w = 2 then 9 else if w = 3 then 4 else if w = 4 then 40 else -1
theorem up_row {o r k : Nat} {v : Int} {m : Mem} (hr : r ≠ o) : up m o k v r = m r := funext fun _ => up_ne (Or.inl hr)
/-- which places of a hand are told -/
def inR (h : Mem) (r k : Nat) : Prop := r ≤ 6 ∧ (r = 0 → k = 0 ∨ k = 1 ∨ k = 2 ∨ k = 3 ∨ k = 8) ∧ (1 ≤ r → r ≤ 4 → (k : Int) < h 0 3) ∧ (5 ≤ r → (k : Int) < h 0 8)
theorem Hd.of (hh : ∀ r k, inR h r k → M (1 + r) k = h r k) : Hd h M :=
  ⟨hh 0 0 ⟨by omega, by omega, by omega, by omega⟩, hh 0 1 ⟨by omega, by omega, by omega, by omega⟩, hh 0 2 ⟨by omega, by omega, by omega, by omega⟩, hh 0 3 ⟨by omega, by omega, by omega, by omega⟩, hh 0 8 ⟨by omega, by omega, by omega, by omega⟩,
   fun i hi => ⟨hh 1 i ⟨by omega, by omega, fun _ _ => hi, by omega⟩, hh 2 i ⟨by omega, by omega, fun _ _ => hi, by omega⟩, hh 3 i ⟨by omega, by omega, fun _ _ => hi, by omega⟩, hh 4 i ⟨by omega, by omega, fun _ _ => hi, by omega⟩⟩,
   fun s hs => ⟨hh 5 s ⟨by omega, by omega, by omega, fun _ => hs⟩, hh 6 s ⟨by omega, by omega, by omega, fun _ => hs⟩⟩⟩
theorem Hd.at (H : Hd h M) {r k : Nat} (hi : inR h r k) : M (1 + r) k = h r k := by
  obtain ⟨q1, q2, q3, q4, q5, q6, q7⟩ := H
  obtain ⟨i1, i2, i3, i4⟩ := hi
  match r, i1 with
  | 0, _ => rcases i2 rfl with e | e | e | e | e <;> subst e <;> assumption
  | 1, _ => exact (q6 k (i3 (by omega) (by omega))).1
  | 2, _ => exact (q6 k (i3 (by omega) (by omega))).2.1
  | 3, _ => exact (q6 k (i3 (by omega) (by omega))).2.2.1
  | 4, _ => exact (q6 k (i3 (by omega) (by omega))).2.2.2
  | 5, _ => exact (q7 k (i4 (by omega))).1
  | 6, _ => exact (q7 k (i4 (by omega))).2
/-- one place anew, on both sides -/
theorem Hd.up1 {r k : Nat} {v : Int} (H : Hd h M) (h1 : ¬ (r = 0 ∧ k = 3)) (h2 : ¬ (r = 0 ∧ k = 8)) : Hd (up h r k v) (up M (1 + r) k v) := by
  refine Hd.of (fun r' k' hi => ?_)
  have e3 : up h r k v 0 3 = h 0 3 := up_ne (by omega)
  have e8 : up h r k v 0 8 = h 0 8 := up_ne (by omega)
  unfold inR at hi
  rw [e3, e8] at hi
  by_cases hh : r' = r ∧ k' = k
  · obtain ⟨rfl, rfl⟩ := hh; rw [up_same, up_same]
  · rw [up_ne (by omega), up_ne (by omega)]; exact H.at hi
theorem Hd.set {w f v : Int} (H : Hd h M) (hw : 0 ≤ w ∧ w ≤ 4) : Hd (seH h w f v) (if w = 0 then up M 1 0 v else if w = 1 then up M 1 1 v else up M (1 + w.toNat) f.toNat v) := by
  unfold seH
  split
  · exact H.up1 (by decide) (by decide)
  · split
    · exact H.up1 (by decide) (by decide)
    · exact H.up1 (by omega) (by omega)
theorem seH_wf {w f v : Int} (W : Wf h) (hw : 0 ≤ w ∧ w ≤ 4) (hv : 0 ≤ v ∧ v ≤ moS w) : Wf (seH h w f v) := by
  obtain ⟨w1, w2, w3, w4, w5, w6⟩ := W
  have hcase : w = 0 ∨ w = 1 ∨ w = 2 ∨ w = 3 ∨ w = 4 := by omega
  rcases hcase with e | e | e | e | e <;> subst e
  · have hv : 0 ≤ v ∧ v ≤ 400 := hv
    show Wf (up h 0 0 v)
    unfold Wf
    rw [up_row (r := 1) (by decide), up_row (r := 2) (by decide), up_row (r := 3) (by decide), up_row (r := 4) (by decide), up_row (r := 5) (by decide), up_row (r := 6) (by decide), up_same, up_ne (k' := 1) (Or.inr (by decide)), up_ne (k' := 3) (Or.inr (by decide)), up_ne (k' := 8) (Or.inr (by decide))]
    exact ⟨hv, w2, w3, w4, w5, w6⟩
  · have hv : 0 ≤ v ∧ v ≤ 15 := hv
    show Wf (up h 0 1 v)
    unfold Wf
    rw [up_row (r := 1) (by decide), up_row (r := 2) (by decide), up_row (r := 3) (by decide), up_row (r := 4) (by decide), up_row (r := 5) (by decide), up_row (r := 6) (by decide), up_same, up_ne (k' := 0) (Or.inr (by decide)), up_ne (k' := 3) (Or.inr (by decide)), up_ne (k' := 8) (Or.inr (by decide))]
    exact ⟨w1, hv, w3, w4, w5, w6⟩
  · have hv : 0 ≤ v ∧ v ≤ 9 := hv
    show Wf (up h 2 f.toNat v)
    unfold Wf
    rw [up_row (r := 0) (by decide), up_row (r := 1) (by decide), up_row (r := 3) (by decide), up_row (r := 4) (by decide), up_row (r := 5) (by decide), up_row (r := 6) (by decide)]
    refine ⟨w1, w2, w3, w4, fun i hi => ?_, w6⟩
    have := w5 i hi
    unfold up; split <;> omega
  · have hv : 0 ≤ v ∧ v ≤ 4 := hv
    show Wf (up h 3 f.toNat v)
    unfold Wf
    rw [up_row (r := 0) (by decide), up_row (r := 1) (by decide), up_row (r := 2) (by decide), up_row (r := 4) (by decide), up_row (r := 5) (by decide), up_row (r := 6) (by decide)]
    refine ⟨w1, w2, w3, w4, fun i hi => ?_, w6⟩
    have := w5 i hi
    unfold up; split <;> omega
  · have hv : 0 ≤ v ∧ v ≤ 40 := hv
    show Wf (up h 4 f.toNat v)
    unfold Wf
    rw [up_row (r := 0) (by decide), up_row (r := 1) (by decide), up_row (r := 2) (by decide), up_row (r := 3) (by decide), up_row (r := 5) (by decide), up_row (r := 6) (by decide)]
    refine ⟨w1, w2, w3, w4, fun i hi => ?_, w6⟩
    have := w5 i hi
    unfold up; split <;> omega
end HANDQ
