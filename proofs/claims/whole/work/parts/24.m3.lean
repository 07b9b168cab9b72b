/-! THE MODEL'S CALLS ON THE HAND -/
/-- all that a call on the hand may change -/
abbrev sH (o k : Nat) : Prop := (o = 51 ∧ (k = 4 ∨ k = 7 ∨ k = 8 ∨ k = 11 ∨ k = 14 ∨ (15 ≤ k ∧ k ≤ 31))) ∨ (55 ≤ o ∧ o ≤ 60)
theorem sL_sH : ∀ o k, sL o k → sH o k := fun o k q => by unfold sL at q; unfold sH; omega
theorem sP_sH : ∀ o k, sP o k → sH o k := fun o k q => by unfold sP sL at q; unfold sH; omega
theorem sR_sL : ∀ o k, sR o k → sL o k := fun o k q => by unfold sR at q; unfold sL; omega
theorem sH3 : ∀ o k, (o = 52 ∨ o = 53 ∨ (o = 51 ∧ k = 3)) → ¬ sH o k := fun o k h q => by unfold sH at q; omega
section MX
variable {n : Nat} {τ : Int → Int → (Nat → Int) → Int} {h M : Mem} {Q : Int → Mem → Prop}
theorem Fp.L {M' : Mem} (F : Fp sL M M') : Fp sH M M' := F.mono sL_sH
theorem Fp.P {M' : Mem} (F : Fp sP M M') : Fp sH M M' := F.mono sP_sH
theorem Hm.L {M' : Mem} (H : Hm h M) (F : Fp sL M M') : Hm h M' := H.fr F sL51 sL58
theorem mm_mostOf {w : Int} (hw : 0 ≤ w ∧ w ≤ 4) (hq : Q (moS w) M) : Con (n + 1) md_X10_mostOf [vI w] M Q := g_X10_mostOf (by unfold B_X10_mostOf; unfold moS at hq; grind)
theorem Hm.get {f w : Int} (H : Hm h M) (hw : 2 ≤ w ∧ w ≤ 4) (hf : 0 ≤ f ∧ f < h 0 3) : M 56 (3 * f + w - 2).toNat = h w.toNat f.toNat := by
  have v := H.fl hf
  rcases (show w = 2 ∨ w = 3 ∨ w = 4 by omega) with rfl | rfl | rfl
  · rw [show 3 * f + 2 - 2 = 3 * f by omega]; exact v.2.1
  · rw [show 3 * f + 3 - 2 = 3 * f + 1 by omega]; exact v.2.2.1
  · rw [show 3 * f + 4 - 2 = 3 * f + 2 by omega]; exact v.2.2.2
theorem mm_told {f w : Int} (H : Hm h M) (W : Wf h) (R : RD τ M) (hr : 0 ≤ h 0 2 ∧ h 0 2 < M 51 3) (hq : ∀ M', Fp sL M M' → Q (tlR τ h f w) M') : Con (n + 82) md_X10_told [vR 51, vI f, vI w] M Q := g_X10_told (by
  unfold B_X10_told
  have h3 := W.2.2.1
  refine c_in ?_
  by_cases hw : 0 ≤ w ∧ w ≤ 9
  · rw [if_pos hw]
    refine ⟨fun e => by omega, fun _ => ⟨fun hw1 => ?_, fun hw1 => mm_isFlower H W ?_⟩⟩
    · have hq := hq M Fp.rf
      unfold tlR geH at hq
      rw [if_pos (by omega)] at hq
      refine ⟨fun e => by omega, fun _ => ⟨fun e => ?_, fun e0 => ⟨fun e => ?_, fun e1 => by omega⟩⟩⟩
      · rw [if_pos e] at hq; rw [H.1]; exact hq
      · rw [if_neg e0, if_pos e] at hq; rw [H.2.1]; exact hq
    · by_cases hf : 0 ≤ f ∧ f < h 0 3
      · rw [if_pos hf]
        have et : tlR τ h f w = if w < 5 then h w.toNat f.toNat else if w = 5 then h 1 f.toNat else if w = 6 then thH h f else if w = 7 then tuH τ h f else if w = 8 then coH τ h f else lsH τ h f := by
          unfold tlR geH; rw [if_neg (by omega), if_neg (by omega)]
          by_cases c : w < 5
          · rw [if_pos c, if_pos c, if_neg (by omega), if_neg (by omega)]
          · rw [if_neg c, if_neg c]
        rw [et] at hq
        refine ⟨fun e => by omega, fun _ => ⟨fun h5 => ⟨fun h7 => mm_looks H W hf (fun M2 F2 E2 => ?_), fun h7 => ⟨fun e => ⟨by omega, ?_⟩, fun e => mm_thickOf H W hf ?_⟩⟩, fun h5 => ⟨fun e => by omega, fun _ => ⟨fun e => by omega, fun _ => ?_⟩⟩⟩⟩
        · have H2 := H.L F2
          have hr2 : 0 ≤ h 0 2 ∧ h 0 2 < M2 51 3 := by rw [F2 51 3 (by unfold sL; omega)]; exact hr
          rw [if_neg (by omega), if_neg (by omega), if_neg (by omega)] at hq
          refine ⟨fun e => mm_turnsOf H2 W (R.fr F2 sL3) hr2 hf E2 (fun M3 F3 => ?_), fun e7 => ⟨fun e => mm_costsOf H2 W (R.fr F2 sL3) hr2 hf E2 rfl (fun M3 F3 => ?_), fun e8 => mm_lastsOf H2 W (R.fr F2 sL3) hr2 hf E2 rfl (fun M3 F3 => ?_)⟩⟩
          · have := hq M3 (F2.tr (F3.mono sR_sL)); rw [if_pos e] at this; exact this
          · have := hq M3 (F2.tr (F3.mono sR_sL)); rw [if_neg e7, if_pos e] at this; exact this
          · have := hq M3 (F2.tr (F3.mono sR_sL)); rw [if_neg e7, if_neg e8] at this; exact this
        · have := hq M Fp.rf; rw [if_neg (by omega), if_pos e] at this; rw [(H.fl hf).1]; exact this
        · have := hq M Fp.rf; rw [if_neg (by omega), if_neg e, if_pos (by omega)] at this; exact this
        · have := hq M Fp.rf; rw [if_pos (by omega)] at this
          rw [w32_id (x := 3 * f) (by omega), w32_id (x := 3 * f + w) (by omega), w32_id (x := 3 * f + w - 2) (by omega), H.get (by omega) hf]
          exact ⟨by omega, this⟩
      · rw [if_neg hf]
        have := hq M Fp.rf
        unfold tlR at this
        rw [if_neg (by omega), if_pos (Or.inr hf)] at this
        exact ⟨fun _ => this, fun e => absurd rfl e⟩
  · rw [if_neg hw]
    have := hq M Fp.rf
    unfold tlR at this
    rw [if_neg (by omega), if_pos (Or.inl hw)] at this
    exact ⟨fun _ => this, fun e => absurd rfl e⟩)
theorem Hm.row {r i0 : Nat} {v : Int} (H : Hm h M) (hr : 2 ≤ r ∧ r ≤ 4) : Hm (up h r i0 v) (up M 56 (3 * i0 + (r - 2)) v) := by
  obtain ⟨h1, h2, h3, h4, h5, h6, h7⟩ := H
  have e0 : ∀ k, up h r i0 v 0 k = h 0 k := fun k => up_ne (by omega)
  refine ⟨by rw [up_ne (by omega), e0]; exact h1, by rw [up_ne (by omega), e0]; exact h2, by rw [up_ne (by omega), e0]; exact h3, by rw [up_ne (by omega), e0]; exact h4, by rw [up_ne (by omega), e0]; exact h5, fun i hi => ?_, fun s hs => ?_⟩
  · rw [e0] at hi
    obtain ⟨a, b, c, d⟩ := h6 i hi
    have key : ∀ q, q ≤ 2 → M 56 (3 * i + q) = h (2 + q) i → up M 56 (3 * i0 + (r - 2)) v 56 (3 * i + q) = up h r i0 v (2 + q) i := fun q hq e => by
      by_cases c : i = i0 ∧ 2 + q = r
      · obtain ⟨rfl, rfl⟩ := c
        rw [show 2 + q - 2 = q by omega, up_same, up_same]
      · rw [up_ne (by omega), up_ne (by omega)]; exact e
    exact ⟨by rw [up_ne (by omega), up_ne (by omega)]; exact a, key 0 (by omega) b, key 1 (by omega) c, key 2 (by omega) d⟩
  · rw [e0] at hs
    rw [up_ne (by omega), up_ne (by omega), up_ne (by omega), up_ne (by omega)]; exact h7 s hs
theorem Hm.zero {a k : Nat} {v : Int} (H : Hm h M) (hk : (k = 0 ∧ a = 7) ∨ (k = 1 ∧ a = 8) ∨ (k = 2 ∧ a = 4)) : Hm (up h 0 k v) (up M 51 a v) := by
  obtain ⟨h1, h2, h3, h4, h5, h6, h7⟩ := H
  have e3 : up h 0 k v 0 3 = h 0 3 := up_ne (by omega)
  have e8 : up h 0 k v 0 8 = h 0 8 := up_ne (by omega)
  refine ⟨?_, ?_, ?_, by rw [up_ne (by omega), e3]; exact h4, by rw [up_ne (by omega), e8]; exact h5, fun i hi => ?_, fun s hs => ?_⟩
  · rcases hk with ⟨rfl, rfl⟩ | ⟨rfl, rfl⟩ | ⟨rfl, rfl⟩
    · rw [up_same, up_same]
    · rw [up_ne (by omega), up_ne (by omega)]; exact h1
    · rw [up_ne (by omega), up_ne (by omega)]; exact h1
  · rcases hk with ⟨rfl, rfl⟩ | ⟨rfl, rfl⟩ | ⟨rfl, rfl⟩
    · rw [up_ne (by omega), up_ne (by omega)]; exact h2
    · rw [up_same, up_same]
    · rw [up_ne (by omega), up_ne (by omega)]; exact h2
  · rcases hk with ⟨rfl, rfl⟩ | ⟨rfl, rfl⟩ | ⟨rfl, rfl⟩
    · rw [up_ne (by omega), up_ne (by omega)]; exact h3
    · rw [up_ne (by omega), up_ne (by omega)]; exact h3
    · rw [up_same, up_same]
  · rw [e3] at hi
    rw [up_row (by omega), up_row (by omega), up_row (by omega), up_row (by omega), up_row (by omega), up_row (by omega)]; exact h6 i hi
  · rw [e8] at hs
    rw [up_row (by omega), up_row (by omega), up_row (by omega), up_row (by omega)]; exact h7 s hs
theorem mm_lays {w f v : Int} (H : Hm h M) (W : Wf h) (hw : 0 ≤ w ∧ w ≤ 4) (hf : 2 ≤ w → 0 ≤ f ∧ f < h 0 3) (hq : ∀ M', Fp sH M M' → Hm (seH h w f v) M' → Q 0 M') : Con (n + 1) md_X10_lays [vR 51, vI w, vI f, vI v] M Q := g_X10_lays (by
  unfold B_X10_lays
  have h3 := W.2.2.1
  unfold seH at hq
  refine ⟨fun e M1 e1 => ?_, fun e0 => ⟨fun e M1 e1 => ?_, fun e2 => ⟨fun e => by omega, fun _ => ?_⟩⟩⟩
  · rw [if_pos e] at hq
    rw [e1]
    exact hq _ (Fp.rf.up (by unfold sH; omega)) (H.zero (Or.inl ⟨rfl, rfl⟩))
  · rw [if_neg e0, if_pos e] at hq
    rw [e1]
    exact hq _ (Fp.rf.up (by unfold sH; omega)) (H.zero (Or.inr (Or.inl ⟨rfl, rfl⟩)))
  · rw [if_neg e0, if_neg e2] at hq
    have hf := hf (by omega)
    rw [w32_id (x := 3 * f) (by omega), w32_id (x := 3 * f + w) (by omega), w32_id (x := 3 * f + w - 2) (by omega)]
    refine ⟨by omega, fun M1 e1 => ?_⟩
    rw [show (3 * f + w - 2).toNat = 3 * f.toNat + (w.toNat - 2) by omega] at e1
    rw [e1]
    exact hq _ (Fp.rf.up (by unfold sH; omega)) (H.row (by omega)))
theorem mm_set {w f v : Int} (H : Hm h M) (W : Wf h) (R : RD τ M) (hr : 0 ≤ h 0 2 ∧ h 0 2 < M 51 3) (h0 : ¬ okS h w f v → Q (-2) M) (h1 : okS h w f v → ∀ M', Fp sH M M' → Hm (seH h w f v) M' → Q (geH h w f) M') : Con (n + 83) md_X10_set [vR 51, vI w, vI f, vI v] M Q := g_X10_set (by
  unfold B_X10_set
  have fin : (hw : 0 ≤ w ∧ w ≤ 4) → (hf : 2 ≤ w → 0 ≤ f ∧ f < h 0 3) → Con (n + 82) md_X10_mostOf [vI w] M (fun r3 M4 => Con (n + 82) md_X10_in [vL v, vL 0, vL r3] M4 (fun r5 M6 => ((r5 = 0 → Q (-2) M6) ∧ (¬ r5 = 0 → Con (n + 82) md_X10_told [vR 51, vI f, vI w] M6 (fun r7 M8 => Con (n + 82) md_X10_lays [vR 51, vI w, vI f, vI v] M8 (fun _ M10 => Q r7 M10)))))) := fun hw hf => mm_mostOf hw (c_in (by
    by_cases c : 0 ≤ v ∧ v ≤ moS w
    · rw [if_pos c]
      refine ⟨fun e => by omega, fun _ => mm_told H W R hr (fun M2 F2 => mm_lays (H.L F2) W hw hf (fun M3 F3 H3 => ?_))⟩
      have e : tlR τ h f w = geH h w f := by
        unfold tlR
        by_cases c : w = 0 ∨ w = 1
        · rw [if_pos c]
        · have := hf (by omega)
          rw [if_neg c, if_neg (by omega), if_pos (by omega)]
      rw [e]
      exact h1 ⟨hw, hf, c⟩ M3 (F2.L.tr F3) H3
    · rw [if_neg c]
      exact ⟨fun _ => h0 (fun q => c q.2.2), fun e => absurd rfl e⟩))
  refine c_in ?_
  by_cases hw : 0 ≤ w ∧ w ≤ 4
  · rw [if_pos hw]
    refine ⟨fun e => by omega, fun _ => ⟨fun e => fin hw (fun e => by omega), fun e => mm_isFlower H W ?_⟩⟩
    by_cases hf : 0 ≤ f ∧ f < h 0 3
    · rw [if_pos hf]
      exact ⟨fun e => by omega, fun _ => fin hw (fun _ => hf)⟩
    · rw [if_neg hf]
      exact ⟨fun _ => h0 (fun q => hf (q.2.1 (by omega))), fun e => absurd rfl e⟩
  · rw [if_neg hw]
    exact ⟨fun _ => h0 (fun q => hw q.1), fun e => absurd rfl e⟩)
theorem flH_hm {M' : Mem} {k m : Int} (H : Hm h M) (h3 : 0 ≤ h 0 3 ∧ h 0 3 < 6) (e : M' = up (up (up (up (up M 55 (h 0 3).toNat k) 56 (3 * (h 0 3).toNat) m) 56 (3 * (h 0 3).toNat + 1) 0) 56 (3 * (h 0 3).toNat + 2) 10) 51 11 (h 0 3 + 1)) : Hm (flH h k m) M' := by
  have e0 : ∀ q, q ≠ 3 → flH h k m 0 q = h 0 q := fun q hq => by unfold flH; rw [up_ne (by omega), up_ne (by omega), up_ne (by omega), up_ne (by omega), up_ne (by omega)]
  have e3 : flH h k m 0 3 = h 0 3 + 1 := by unfold flH; exact up_same
  have e5 : ∀ r q, 5 ≤ r → flH h k m r q = h r q := fun r q hr => by unfold flH; rw [up_ne (by omega), up_ne (by omega), up_ne (by omega), up_ne (by omega), up_ne (by omega)]
  have g51 : ∀ q, q ≠ 11 → M' 51 q = M 51 q := fun q hq => by rw [e, up_ne (by omega), up_ne (by omega), up_ne (by omega), up_ne (by omega), up_ne (by omega)]
  have g5 : ∀ o q, 57 ≤ o → M' o q = M o q := fun o q ho => by rw [e, up_ne (by omega), up_ne (by omega), up_ne (by omega), up_ne (by omega), up_ne (by omega)]
  refine Hm.of ?_ ?_ ?_ ?_ ?_ (fun i hi => ?_) (fun s hs => ?_)
  · rw [g51 7 (by decide), e0 0 (by decide)]; exact H.1
  · rw [g51 8 (by decide), e0 1 (by decide)]; exact H.2.1
  · rw [g51 4 (by decide), e0 2 (by decide)]; exact H.2.2.1
  · rw [e, up_same, e3]
  · rw [g51 14 (by decide), e0 8 (by decide)]; exact H.2.2.2.2.1
  · rw [e3] at hi
    by_cases c : i = (h 0 3).toNat
    · subst c
      refine ⟨?_, ?_, ?_, ?_⟩
      · rw [e, up_ne (by omega), up_ne (by omega), up_ne (by omega), up_ne (by omega), up_same]; unfold flH
        rw [up_ne (by omega), up_ne (by omega), up_ne (by omega), up_ne (by omega), up_same]
      · rw [e, up_ne (by omega), up_ne (by omega), up_ne (by omega), up_same]; unfold flH
        rw [up_ne (by omega), up_ne (by omega), up_ne (by omega), up_same]
      · rw [e, up_ne (by omega), up_ne (by omega), up_same]; unfold flH
        rw [up_ne (by omega), up_ne (by omega), up_same]
      · rw [e, up_ne (by omega), up_same]; unfold flH
        rw [up_ne (by omega), up_same]
    · have v := H.2.2.2.2.2.1 i (by omega)
      have el : ∀ r, 1 ≤ r → flH h k m r i = h r i := fun r hr => by unfold flH; rw [up_ne (by omega), up_ne (by omega), up_ne (by omega), up_ne (by omega), up_ne (by omega)]
      rw [el 1 (by omega), el 2 (by omega), el 3 (by omega), el 4 (by omega), e, up_ne (by omega), up_ne (by omega), up_ne (by omega), up_ne (by omega), up_ne (by omega), up_ne (k' := 3 * i) (by omega), up_ne (k' := 3 * i) (by omega), up_ne (k' := 3 * i) (by omega), up_ne (k' := 3 * i) (by omega), up_ne (k' := 3 * i) (by omega), up_ne (k' := 3 * i + 1) (by omega), up_ne (k' := 3 * i + 1) (by omega), up_ne (k' := 3 * i + 1) (by omega), up_ne (k' := 3 * i + 1) (by omega), up_ne (k' := 3 * i + 1) (by omega), up_ne (by omega), up_ne (by omega), up_ne (by omega), up_ne (by omega), up_ne (by omega)]
      exact v
  · rw [e0 8 (by decide)] at hs
    rw [g5 57 s (by omega), g5 58 s (by omega), e5 5 s (by omega), e5 6 s (by omega)]; exact H.2.2.2.2.2.2 s hs
theorem mm_flower {k m : Int} (H : Hm h M) (W : Wf h) (h0 : ¬ okF k m → Q (-2) M) (h1 : okF k m → ¬ h 0 3 < 6 → Q (-4) M) (h2 : okF k m → h 0 3 < 6 → ∀ M', Fp sH M M' → Hm (flH h k m) M' → Q (h 0 3) M') : Con (n + 2) md_X10_flower [vR 51, vI k, vI m] M Q := g_X10_flower (by
  unfold B_X10_flower
  have h3 := W.2.2.1
  refine c_in ?_
  by_cases ck : 0 ≤ k ∧ k ≤ 5
  · rw [if_pos ck]
    refine ⟨fun e => by omega, fun _ => c_in ?_⟩
    by_cases cm : 0 ≤ m ∧ m ≤ 9
    · rw [if_pos cm, H.2.2.2.1]
      refine ⟨fun e => by omega, fun _ => ⟨fun e => h1 ⟨ck, cm⟩ (by omega), fun e => ⟨by omega, fun M1 e1 => ?_⟩⟩⟩
      have a1 : M1 51 11 = h 0 3 := by rw [e1, up_ne (by omega)]; exact H.2.2.2.1
      rw [a1, w32_id (x := 3 * h 0 3) (by omega)]
      refine ⟨by omega, fun M2 e2 => ?_⟩
      have a2 : M2 51 11 = h 0 3 := by rw [e2, up_ne (by omega)]; exact a1
      rw [a2, w32_id (x := 3 * h 0 3) (by omega), w32_id (x := 3 * h 0 3 + 1) (by omega)]
      refine ⟨by omega, fun M3 e3 => ?_⟩
      have a3 : M3 51 11 = h 0 3 := by rw [e3, up_ne (by omega)]; exact a2
      rw [a3, w32_id (x := 3 * h 0 3) (by omega), w32_id (x := 3 * h 0 3 + 2) (by omega)]
      refine ⟨by omega, fun M4 e4 M5 e5 => ?_⟩
      have a4 : M4 51 11 = h 0 3 := by rw [e4, up_ne (by omega)]; exact a3
      rw [a4, w32_id (x := h 0 3 + 1) (by omega)] at e5
      have a5 : M5 51 11 = h 0 3 + 1 := by rw [e5, up_same]
      rw [a5, w32_id (by omega), show h 0 3 + 1 - 1 = h 0 3 by omega]
      rw [e4, e3, e2, e1, show (3 * h 0 3).toNat = 3 * (h 0 3).toNat by omega, show (3 * h 0 3 + 1).toNat = 3 * (h 0 3).toNat + 1 by omega, show (3 * h 0 3 + 2).toNat = 3 * (h 0 3).toNat + 2 by omega] at e5
      refine h2 ⟨ck, cm⟩ (by omega) M5 ?_ (flH_hm H (by omega) e5)
      rw [e5]
      exact ((((Fp.rf.up (by unfold sH; omega)).up (by unfold sH; omega)).up (by unfold sH; omega)).up (by unfold sH; omega)).up (by unfold sH; omega)
    · rw [if_neg cm]
      exact ⟨fun _ => h0 (fun q => cm q.2), fun e => absurd rfl e⟩
  · rw [if_neg ck]
    exact ⟨fun _ => h0 (fun q => ck q.1), fun e => absurd rfl e⟩)
theorem mm_force {t : Int} (H : Hm h M) (hz : 1 ≤ M 51 3 ∧ M 51 3 ≤ 6) (h0 : ¬ (0 ≤ t ∧ t < M 51 3) → Q (-2) M) (h1 : (0 ≤ t ∧ t < M 51 3) → ∀ M', Fp sH M M' → Hm (up h 0 2 t) M' → Q (h 0 2) M') : Con (n + 2) md_X10_force [vR 51, vI t] M Q := g_X10_force (by
  unfold B_X10_force
  rw [w32_id (by omega)]
  refine c_in ?_
  by_cases c : 0 ≤ t ∧ t < M 51 3
  · rw [if_pos (by omega)]
    refine ⟨fun e => by omega, fun _ M1 e1 => ?_⟩
    rw [H.2.2.1, e1]
    exact h1 c _ (Fp.rf.up (by unfold sH; omega)) (H.zero (Or.inr (Or.inr ⟨rfl, rfl⟩)))
  · rw [if_neg (by omega)]
    exact ⟨fun _ => h0 c, fun e => absurd rfl e⟩)
theorem mm_lay {f : Int} (H : Hm h M) (W : Wf h) (R : RD τ M) (hr : 0 ≤ h 0 2 ∧ h 0 2 < M 51 3) (h0 : ¬ (0 ≤ f ∧ f < h 0 3) → Q (-2) M) (h1 : (0 ≤ f ∧ f < h 0 3) → h 4 f.toNat < 1 → Q (-3) M) (h2 : (0 ≤ f ∧ f < h 0 3) → 1 ≤ h 4 f.toNat → ¬ caH h f → Q (-4) M)
    (h4 : (0 ≤ f ∧ f < h 0 3) → caH h f → ∀ M', Fp sH M M' → Hm (puH τ h f) M' → Q (anH τ h f) M') : Con (n + 83) md_X10_lay [vR 51, vI f] M Q := g_X10_lay (by
  unfold B_X10_lay
  have h3 := W.2.2.1
  have h8 := W.2.2.2.1
  refine mm_isFlower H W ?_
  by_cases hf : 0 ≤ f ∧ f < h 0 3
  · have hw := W.2.2.2.2.1 _ (toN hf)
    rw [if_pos hf, w32_id (x := 3 * f) (by omega), w32_id (x := 3 * f + 2) (by omega), (H.fl hf).2.2.2]
    refine ⟨fun e => by omega, fun _ => ⟨by omega, fun e => h1 hf (by omega), fun e => mm_isRoom H W hf ?_⟩⟩
    by_cases c : h 0 8 < 40 ∧ thH h f ≤ rmH h
    · rw [if_pos c]
      have hc : caH h f := ⟨by omega, c.1, c.2⟩
      refine ⟨fun e => by omega, fun _ => mm_puts H W R hr hf hc (fun M2 F2 H2 => ?_)⟩
      have e8 : puH τ h f 0 8 = h 0 8 + 1 := adH_n
      rw [H2.2.2.2.2.1, e8, w32_id (by omega), show h 0 8 + 1 - 1 = h 0 8 by omega, (H2.2.2.2.2.2.2 (h 0 8).toNat (by rw [e8]; omega)).2]
      have e6 : puH τ h f 6 (h 0 8).toNat = anH τ h f := adH_6s
      rw [e6]
      exact ⟨by omega, h4 hf hc M2 F2.P H2⟩
    · rw [if_neg c]
      exact ⟨fun _ => h2 hf (by omega) (fun q => c ⟨q.2.1, q.2.2⟩), fun e => absurd rfl e⟩
  · rw [if_neg hf]
    exact ⟨fun _ => h0 hf, fun e => absurd rfl e⟩)
theorem mm_stem {s w : Int} (H : Hm h M) (W : Wf h) (hq : Q (stR h s w) M) : Con (n + 2) md_X10_stem [vR 51, vI s, vI w] M Q := g_X10_stem (by
  unfold B_X10_stem
  have h8 := W.2.2.2.1
  unfold stR at hq
  rw [H.2.2.2.2.1, w32_id (by omega)]
  refine c_in ?_
  by_cases c : 0 ≤ s ∧ s < h 0 8
  · rw [if_pos (by omega)]
    refine ⟨fun e => by omega, fun _ => c_in ?_⟩
    by_cases cw : 0 ≤ w ∧ w ≤ 1
    · rw [if_pos ⟨c, cw⟩] at hq
      have v := H.2.2.2.2.2.2 s.toNat (by omega)
      rw [if_pos cw, v.1, v.2]
      refine ⟨fun e => by omega, fun _ => ⟨fun e => ⟨by omega, by rw [if_pos e] at hq; exact hq⟩, fun e => ⟨by omega, by rw [if_neg e] at hq; exact hq⟩⟩⟩
    · rw [if_neg (fun q => cw q.2)] at hq
      rw [if_neg cw]
      exact ⟨fun _ => hq, fun e => absurd rfl e⟩
  · rw [if_neg (fun q => c q.1)] at hq
    rw [if_neg (by omega)]
    exact ⟨fun _ => hq, fun e => absurd rfl e⟩)
theorem mm_draw {s : Int} (H : Hm h M) (W : Wf h) (h0 : ¬ (0 ≤ s ∧ s < h 0 8) → Q (-2) M) (h1 : (0 ≤ s ∧ s < h 0 8) → ∀ M', Fp sH M M' → Hm (drH h s.toNat) M' → Q (h 5 s.toNat) M') : Con (n + 2) md_X10_draw [vR 51, vI s] M Q := g_X10_draw (by
  intro K hK
  unfold B_X10_draw
  have h3 := W.2.2.1
  have h8 := W.2.2.2.1
  rw [H.2.2.2.2.1, w32_id (by omega)]
  refine c_in ?_
  by_cases hs : 0 ≤ s ∧ s < h 0 8
  · rw [if_pos (by omega)]
    refine ⟨fun e => by omega, fun _ => ⟨by omega, ?_⟩⟩
    have hst := W.2.2.2.2.2 s.toNat (by omega)
    have hfl := W.2.2.2.2.1 _ (toN hst.1)
    rw [(H.2.2.2.2.2.2 s.toNat (by omega)).1]
    have key := loopUp (P := fun i => s.toNat ≤ i → ∀ M' : Mem, Fp (fun o _ => o = 57 ∨ o = 58) M M' → (∀ k, k < i → M' 57 k = (if k < s.toNat then M 57 k else M 57 (k + 1)) ∧ M' 58 k = (if k < s.toNat then M 58 k else M 58 (k + 1))) → (∀ k, i ≤ k → M' 57 k = M 57 k ∧ M' 58 k = M 58 k) → K (h 5 s.toNat) (i : Int) M') (h 0 8 - 1).toNat ?_ ?_ s.toNat (by omega) (Nat.le_refl _) M Fp.rf (fun k hk => ⟨by rw [if_pos hk], by rw [if_pos hk]⟩) (fun k hk => ⟨rfl, rfl⟩)
    · rw [show ((s.toNat : Nat) : Int) = s by omega] at key
      exact key
    · intro _ M' hF hlo hhi
      apply hK
      unfold B_X10_draw_28
      have a8 : M' 51 14 = h 0 8 := (hF 51 14 (by omega)).trans H.2.2.2.2.1
      generalize hf : h 5 s.toNat = f at hst hfl h1 ⊢
      rw [a8, w32_id (x := h 0 8 - 1) (by omega), w32_id (x := 3 * f) (by omega), w32_id (x := 3 * f + 2) (by omega)]
      refine ⟨fun _ M1 e1 => ⟨by omega, c_within ⟨by omega, fun M4 e4 => ?_⟩⟩, fun e => absurd (show h 0 8 - 1 ≤ (((h 0 8 - 1).toNat : Nat) : Int) by omega) e⟩
      have a5 : M1 56 (3 * f + 2).toNat = h 4 f.toNat := by rw [e1, up_ne (by omega), hF 56 _ (by omega)]; exact (H.fl hst.1).2.2.2
      rw [a5, w32_id (by omega), show (if h 4 f.toNat + 1 < 0 then (0 : Int) else if 40 < h 4 f.toNat + 1 then 40 else h 4 f.toNat + 1) = min 40 (h 4 f.toNat + 1) by split <;> (try split) <;> omega] at e4
      have hM : ∀ o q : Nat, ¬ (o = 56 ∧ q = (3 * f + 2).toNat) → ¬ (o = 51 ∧ q = 14) → M4 o q = M' o q := fun o q q1 q2 => by rw [e4, up_ne (by omega), e1, up_ne (by omega)]
      have i8 : drH h s.toNat 0 8 = h 0 8 - 1 := rfl
      have d0 : ∀ r q, r ≤ 3 → ¬ (r = 0 ∧ q = 8) → drH h s.toNat r q = h r q := fun r q hr hq => by unfold drH; rw [if_neg hq, if_neg (by omega), if_neg (by omega)]
      refine h1 hs M4 ?_ (Hm.of ?_ ?_ ?_ ?_ ?_ (fun i hi => ?_) (fun q hq => ?_))
      · rw [e4, e1]
        exact ((hF.mono (P' := sH) (fun o k q => by unfold sH; omega)).up (by unfold sH; omega)).up (by unfold sH; omega)
      · rw [hM 51 7 (by omega) (by omega), hF 51 7 (by omega), d0 0 0 (by omega) (by omega)]; exact H.1
      · rw [hM 51 8 (by omega) (by omega), hF 51 8 (by omega), d0 0 1 (by omega) (by omega)]; exact H.2.1
      · rw [hM 51 4 (by omega) (by omega), hF 51 4 (by omega), d0 0 2 (by omega) (by omega)]; exact H.2.2.1
      · rw [hM 51 11 (by omega) (by omega), hF 51 11 (by omega), d0 0 3 (by omega) (by omega)]; exact H.2.2.2.1
      · rw [e4, up_ne (by omega), e1, up_same]; rfl
      · rw [d0 0 3 (by omega) (by omega)] at hi
        have v := H.2.2.2.2.2.1 i hi
        rw [d0 1 i (by omega) (by omega), d0 2 i (by omega) (by omega), d0 3 i (by omega) (by omega), hM 55 i (by omega) (by omega), hF 55 i (by omega), hM 56 (3 * i) (by omega) (by omega), hF 56 (3 * i) (by omega), hM 56 (3 * i + 1) (by omega) (by omega), hF 56 (3 * i + 1) (by omega)]
        refine ⟨v.1, v.2.1, v.2.2.1, ?_⟩
        unfold drH
        rw [if_neg (by omega), if_neg (by omega), hf]
        by_cases c : i = f.toNat
        · subst c
          rw [if_pos ⟨rfl, rfl⟩, show 3 * f.toNat + 2 = (3 * f + 2).toNat by omega, e4, up_same]
        · rw [if_neg (fun q => c q.2), hM 56 (3 * i + 2) (by omega) (by omega), hF 56 (3 * i + 2) (by omega)]; exact v.2.2.2
      · rw [i8] at hq
        have hl := hlo q (by omega)
        have g1 := H.2.2.2.2.2.2 q (by omega)
        have g2 := H.2.2.2.2.2.2 (q + 1) (by omega)
        rw [hM 57 q (by omega) (by omega), hM 58 q (by omega) (by omega), hl.1, hl.2]
        have d5 : ∀ r, r = 5 ∨ r = 6 → drH h s.toNat r q = if q < s.toNat then h r q else h r (q + 1) := fun r hr => by
          unfold drH; rw [if_neg (by omega), if_pos hr]
        rw [d5 5 (by omega), d5 6 (by omega)]
        by_cases c : q < s.toNat
        · rw [if_pos c, if_pos c, if_pos c, if_pos c]; exact g1
        · rw [if_neg c, if_neg c, if_neg c, if_neg c]; exact g2
    · intro i hi ih hsi M' hF hlo hhi
      apply hK
      unfold B_X10_draw_28
      have a8 : M' 51 14 = h 0 8 := (hF 51 14 (by omega)).trans H.2.2.2.2.1
      rw [a8, w32_id (x := h 0 8 - 1) (by omega), w32_id (x := (i : Int) + 1) (by omega), show ((i : Int) + 1).toNat = i + 1 by omega, show (i : Int).toNat = i from rfl]
      refine ⟨fun e => by omega, fun _ => ⟨by omega, by omega, fun M7 h7 => ⟨by omega, by omega, fun M8 h8' => ?_⟩⟩⟩
      have hi1 := hhi (i + 1) (by omega)
      rw [hi1.1] at h7
      have e7 : M7 58 (i + 1) = M 58 (i + 1) := by rw [h7, up_ne (by omega)]; exact hi1.2
      rw [e7] at h8'
      have g6 : ∀ k, M8 57 k = if k = i then M 57 (i + 1) else M' 57 k := fun k => by
        rw [h8', up_ne (by omega), h7]
        by_cases hk : k = i
        · subst hk; rw [up_same, if_pos rfl]
        · rw [up_ne (by omega), if_neg hk]
      have g7 : ∀ k, M8 58 k = if k = i then M 58 (i + 1) else M' 58 k := fun k => by
        rw [h8']
        by_cases hk : k = i
        · subst hk; rw [up_same, if_pos rfl]
        · rw [up_ne (by omega), if_neg hk, h7, up_ne (by omega)]
      refine ih (by omega) M8 (by rw [h8', h7]; exact (hF.up (by omega)).up (by omega)) (fun k hk => ?_) (fun k hk => ?_)
      · rw [g6, g7]
        by_cases hki : k = i
        · subst hki; rw [if_pos rfl, if_pos rfl, if_neg (by omega), if_neg (by omega)]; exact ⟨rfl, rfl⟩
        · rw [if_neg hki, if_neg hki]; exact hlo k (by omega)
      · rw [g6, g7, if_neg (by omega), if_neg (by omega)]; exact hhi k (by omega)
  · rw [if_neg (by omega)]
    exact ⟨fun _ => h0 hs, fun e => absurd rfl e⟩)
theorem mm_bunch {w : Int} (H : Hm h M) (W : Wf h) (R : RD τ M) (hr : 0 ≤ h 0 2 ∧ h 0 2 < M 51 3) (hq : ∀ M', Fp sH M M' → Hm h M' → Q (buR τ h w) M') : Con (n + 83) md_X10_bunch [vR 51, vI w] M Q := g_X10_bunch (by
  unfold B_X10_bunch
  have hq0 := hq M Fp.rf H
  refine c_in ?_
  by_cases c : 0 ≤ w ∧ w ≤ 7
  · rw [if_pos c]
    refine ⟨fun e => by omega, fun _ => ⟨fun h4 => ⟨fun e => by omega, fun _ => ?_⟩, fun h4 => ⟨fun e => ?_, fun e0 => ⟨fun e => ?_, fun e1 => ⟨fun e => ?_, fun e2 => ?_⟩⟩⟩⟩⟩
    · rw [w32_id (by omega)]
      refine mm_quarter H W ?_
      unfold buR at hq0; rw [if_pos (by omega)] at hq0; exact hq0
    · refine mm_touching1 H W ?_
      unfold buR at hq0; rw [if_neg (by omega), if_neg (by omega), if_pos e] at hq0; exact hq0
    · refine mm_even H W ?_
      unfold buR at hq0; rw [if_neg (by omega), if_neg (by omega), if_neg e0, if_pos e] at hq0; exact hq0
    · refine mm_cost H W R hr (fun M' F => ?_)
      have := hq M' F.L (H.L F)
      unfold buR at this; rw [if_neg (by omega), if_neg (by omega), if_neg e0, if_neg e1, if_pos e] at this; exact this
    · refine mm_roomNow H W ?_
      unfold buR at hq0; rw [if_neg (by omega), if_neg (by omega), if_neg e0, if_neg e1, if_neg e2, if_pos (by omega)] at hq0; exact hq0
  · rw [if_neg c]
    refine ⟨fun _ => c_in ?_, fun e => absurd rfl e⟩
    by_cases c2 : 10 ≤ w ∧ w ≤ 14
    · rw [if_pos c2]
      refine ⟨fun e => by omega, fun _ => ⟨fun h4 => ⟨fun e => ?_, fun e => by omega⟩, fun e => by omega⟩⟩
      rw [w32_id (by omega)]
      refine mm_ofColours H W ?_
      unfold buR at hq0; rw [if_neg (by omega), if_pos (by omega)] at hq0; exact hq0
    · rw [if_neg c2]
      refine ⟨fun _ => ?_, fun e => absurd rfl e⟩
      unfold buR at hq0; rw [if_neg (by omega), if_neg (by omega), if_neg (by omega), if_neg (by omega), if_neg (by omega), if_neg (by omega)] at hq0; exact hq0)
theorem mm_good {d : Int} (H : Hm h M) (W : Wf h) (R : RD τ M) (hr : 0 ≤ h 0 2 ∧ h 0 2 < M 51 3) (hq : ∀ M', Fp sH M M' → Hm h M' → Q (gdR τ h d) M') : Con (n + 82) md_X10_good [vR 51, vI d] M Q := g_X10_good (by
  intro K hK
  unfold B_X10_good
  have h8 := W.2.2.2.1
  unfold gdR at hq
  refine c_in ?_
  by_cases c : 0 ≤ d ∧ d ≤ 99
  · rw [if_pos c] at hq ⊢
    refine ⟨fun e => by omega, fun _ => ?_⟩
    refine loopUp (P := fun s => ∀ M', Fp sL M M' → K (sm (fun s => if d ≤ lsH τ h (h 5 s) then 1 else 0) s) (s : Int) M') (h 0 8).toNat ?_ ?_ 0 (Nat.zero_le _) M Fp.rf
    · intro M' F
      apply hK
      unfold B_X10_good_19
      rw [(H.L F).2.2.2.2.1]
      exact ⟨fun _ => hq M' F.L (H.L F), fun e => absurd (show h 0 8 ≤ (((h 0 8).toNat : Nat) : Int) by omega) e⟩
    · intro s hs ih M' F
      apply hK
      unfold B_X10_good_19
      have H' := H.L F
      have hst := W.2.2.2.2.2 s (by omega)
      have hb := sm01 (fun s => d ≤ lsH τ h (h 5 s)) inferInstance s
      rw [H'.2.2.2.2.1, w32_id (x := (s : Int) + 1) (by omega), show (s : Int).toNat = s from rfl, (H'.2.2.2.2.2.2 s (by omega)).1, w32_id (x := _ + 0) (by omega), w32_id (x := sm _ s + 1) (by omega)]
      refine ⟨fun e => by omega, fun _ => ⟨by omega, mm_looks H' W hst.1 (fun M2 F2 E2 => ⟨by omega, ?_⟩)⟩⟩
      have F02 := F.tr F2
      have H2 := H.L F02
      rw [(H2.2.2.2.2.2.2 s (by omega)).1]
      refine mm_lastsOf H2 W (R.fr F02 sL3) (by rw [F02 51 3 (by unfold sL; omega)]; exact hr) hst.1 E2 rfl (fun M4 F4 => ?_)
      have := ih M4 (F02.tr (F4.mono sR_sL))
      unfold sm at this
      show (lsH τ h (h 5 s) < d → _) ∧ (¬ lsH τ h (h 5 s) < d → _)
      refine ⟨fun e => ?_, fun e => ?_⟩
      · rw [if_neg (by omega)] at this; exact this
      · rw [if_pos (by omega)] at this; exact this
  · rw [if_neg c] at hq ⊢
    exact ⟨fun _ => hq M Fp.rf H, fun e => absurd rfl e⟩)
theorem mm_next {w : Int} (H : Hm h M) (W : Wf h) (R : RD τ M) (hr : 0 ≤ h 0 2 ∧ h 0 2 < M 51 3) (hq : ∀ M', Fp sH M M' → Hm h M' → Q (nxR τ h w) M') : Con (n + 83) md_X10_next [vR 51, vI w] M Q := g_X10_next (by
  intro K hK
  unfold B_X10_next
  have h3 := W.2.2.1
  unfold nxR at hq
  refine c_in ?_
  by_cases c : 0 ≤ w ∧ w ≤ 1
  · rw [if_pos c] at hq ⊢
    refine ⟨fun e => by omega, fun _ => mm_touching1 H W ?_⟩
    refine loopUp (P := fun f => ∀ M', Fp sH M M' → Hm h M' → K (nxS τ h f).1 (nxS τ h f).2 (f : Int) M') (h 0 3).toNat ?_ ?_ 0 (Nat.zero_le _) M Fp.rf H
    · intro M' F H'
      apply hK
      unfold B_X10_next_24
      have := hq M' F H'
      rw [H'.2.2.2.1]
      refine ⟨fun _ => ⟨fun e => by rw [if_pos e] at this; exact this, fun e => by rw [if_neg e] at this; exact this⟩, fun e => absurd (show h 0 3 ≤ (((h 0 3).toNat : Nat) : Int) by omega) e⟩
    · intro f hf ih M' F H'
      apply hK
      unfold B_X10_next_24
      have hff : 0 ≤ (f : Int) ∧ (f : Int) < h 0 3 := by omega
      rw [H'.2.2.2.1, w32_id (x := (f : Int) + 1) (by omega)]
      refine ⟨fun e => by omega, fun _ => mm_canLay H' W hff ?_⟩
      have es : nxS τ h (f + 1) = if caH h (f : Int) ∧ ((nxS τ h f).1 = -1 ∨ tcH (puH τ h (f : Int)) < (nxS τ h f).2) then ((f : Int), tcH (puH τ h (f : Int))) else nxS τ h f := rfl
      rw [es] at ih
      by_cases hc : caH h (f : Int)
      · rw [if_pos hc]
        refine ⟨fun e => by omega, fun _ => mm_puts H' W (R.fr F sH3) (by rw [F 51 3 (by unfold sH; omega)]; exact hr) hff hc (fun M2 F2 H2 => mm_touching1 H2 (puH_wf W hff hc) (mm_takesOff H2 W hff hc (fun M3 F3 H3 => ?_)))⟩
        have ih := ih M3 (F.tr (F2.P.tr F3.P)) H3
        refine ⟨fun e => ?_, fun e0 => ⟨fun e => ?_, fun e => ?_⟩⟩
        · rw [if_pos ⟨hc, Or.inl e⟩] at ih; exact ih
        · rw [if_neg (fun q => q.2.elim e0 (fun q => by omega))] at ih; exact ih
        · rw [if_pos ⟨hc, Or.inr (by omega)⟩] at ih; exact ih
      · rw [if_neg hc]
        rw [if_neg (fun q => hc q.1)] at ih
        exact ⟨fun _ => ih M' F H', fun e => absurd rfl e⟩
  · rw [if_neg c] at hq ⊢
    exact ⟨fun _ => hq M Fp.rf H, fun e => absurd rfl e⟩)
theorem mm_howMany {f : Int} (H : Hm h M) (W : Wf h) (R : RD τ M) (hr : 0 ≤ h 0 2 ∧ h 0 2 < M 51 3) (hq : ∀ M', Fp sH M M' → Hm h M' → Q (hmR τ h f) M') : Con (n + 83) md_X10_howMany [vR 51, vI f] M Q := g_X10_howMany (by
  intro K13 K34 h13 h34
  unfold B_X10_howMany
  have h3 := W.2.2.1
  have h8 := W.2.2.2.1
  unfold hmR at hq
  refine mm_isFlower H W ?_
  by_cases hf : 0 ≤ f ∧ f < h 0 3
  · rw [if_pos hf] at hq ⊢
    refine ⟨fun e => by omega, fun _ => ?_⟩
    obtain ⟨T, hT⟩ : ∃ T, T = hmF τ f 40 h := ⟨_, rfl⟩
    rw [← hT] at hq
    have key : ∀ (k i : Nat) (g : Mem) (M' : Mem), i + k = 40 → 40 ≤ g 0 8 + k → Fp sH M M' → Ext h g → Wf g → Hm g M' → (i : Int) + hmF τ f k g = T → (∀ M'', Fp sH M M'' → Hm g M'' → K34 T (T - i) M'') → K13 (i : Int) M' := by
      intro k
      induction k with
      | zero =>
        intro i g M' hi h40 F E Wg Hg he hu
        apply h13
        unfold B_X10_howMany_13
        have hfg : 0 ≤ f ∧ f < g 0 3 := by rw [E.1 3 (by decide)]; exact hf
        refine mm_canLay Hg Wg hfg ?_
        rw [if_neg (fun q => by have := q.2.1; omega)]
        refine ⟨fun _ => ?_, fun e => absurd rfl e⟩
        unfold hmF at he
        have := hu M' F Hg
        rw [show (T : Int) = i by omega, show (i : Int) - i = 0 by omega] at this
        exact this
      | succ k ih =>
        intro i g M' hi h40 F E Wg Hg he hu
        apply h13
        unfold B_X10_howMany_13
        have hfg : 0 ≤ f ∧ f < g 0 3 := by rw [E.1 3 (by decide)]; exact hf
        refine mm_canLay Hg Wg hfg ?_
        unfold hmF at he
        by_cases hc : caH g f
        · rw [if_pos hc] at he ⊢
          refine ⟨fun e => by omega, fun _ => mm_puts Hg Wg (R.fr F sH3) (by rw [F 51 3 (by unfold sH; omega), E.1 2 (by decide)]; exact hr) hfg hc (fun M2 F2 H2 => ?_)⟩
          rw [w32_id (by omega)]
          have e8 : puH τ g f 0 8 = g 0 8 + 1 := adH_n
          refine ih (i + 1) (puH τ g f) M2 (by omega) (by omega) (F.tr F2.P) (adH_ext E) (puH_wf Wg hfg hc) H2 (by omega) (fun M3 F3 H3 => h34 _ _ _ ?_)
          unfold B_X10_howMany_34
          have bt : ∀ (k : Nat) (g : Mem), 0 ≤ hmF τ f k g ∧ hmF τ f k g ≤ k := by
            intro k
            induction k with
            | zero => intro g; unfold hmF; omega
            | succ k ih => intro g; have := ih (puH τ g f); unfold hmF; split <;> omega
          have b1 := bt k (puH τ g f)
          refine ⟨fun e => by omega, fun _ => mm_takesOff H3 Wg hfg hc (fun M4 F4 H4 => ?_)⟩
          have := hu M4 (F3.tr F4.P) H4
          rw [w32_id (by omega), show T - ((i + 1 : Nat) : Int) + 1 = T - i by omega]
          exact this
        · rw [if_neg hc] at he ⊢
          refine ⟨fun _ => ?_, fun e => absurd rfl e⟩
          have := hu M' F Hg
          rw [show (T : Int) = i by omega, show (i : Int) - i = 0 by omega] at this
          exact this
    refine key 40 0 h M (by omega) (by omega) Fp.rf Ext.rf W H (by rw [hT]; omega) (fun M' F H' => h34 _ _ _ ?_)
    unfold B_X10_howMany_34
    exact ⟨fun _ => hq M' F H', fun e => by omega⟩
  · rw [if_neg hf] at hq ⊢
    exact ⟨fun _ => hq M Fp.rf H, fun e => absurd rfl e⟩)
theorem mm_worst {w : Int} (H : Hm h M) (W : Wf h) (hq : Q (woR h w) M) : Con (n + 4) md_X10_worst [vR 51, vI w] M Q := g_X10_worst (by
  intro K hK
  unfold B_X10_worst
  have h8 := W.2.2.2.1
  unfold woR at hq
  refine c_in ?_
  by_cases c : 0 ≤ w ∧ w ≤ 1
  · rw [if_pos c] at hq ⊢
    refine ⟨fun e => by omega, fun _ => mm_touching1 H W ?_⟩
    have key := loopUp (P := fun s => K (tcH h - (woS h s).2) (woS h s).1 (s : Int) M) (h 0 8).toNat ?_ ?_ 0 (Nat.zero_le _)
    · have e0 : (woS h 0).2 = 0 := rfl
      rw [e0, Int.sub_zero] at key
      exact key
    · apply hK
      unfold B_X10_worst_24
      rw [H.2.2.2.2.1]
      refine ⟨fun _ => ⟨fun e => by rw [if_pos e] at hq; exact hq, fun e => by rw [if_neg e] at hq; exact hq⟩, fun e => absurd (show h 0 8 ≤ (((h 0 8).toNat : Nat) : Int) by omega) e⟩
    · intro s hs ih
      apply hK
      unfold B_X10_worst_24
      rw [H.2.2.2.2.1, w32_id (x := (s : Int) + 1) (by omega)]
      refine ⟨fun e => by omega, fun _ => mm_touching H W ?_⟩
      have ep : prN h (s : Int) (h 0 8).toNat = tcH h - dgH h s := prN_k _ s hs (stb W)
      have es : woS h (s + 1) = if (woS h s).2 < dgH h s then ((s : Int), dgH h s) else woS h s := rfl
      rw [es] at ih
      rw [ep]
      refine ⟨fun e => ?_, fun e => ?_⟩
      · rw [if_neg (by omega)] at ih; exact ih
      · rw [if_pos (by omega)] at ih; exact ih
  · rw [if_neg c] at hq ⊢
    exact ⟨fun _ => hq, fun e => absurd rfl e⟩)
theorem mm_draws {z k : Int} (H : Hm h M) (W : Wf h) (R : RD τ M) (hr : 0 ≤ h 0 2 ∧ h 0 2 < M 51 3) (h1 : 0 < h 0 3) (hk : 0 ≤ k ∧ k ≤ 40) (hq : ∀ M', Fp sH M M' → Hm h M' → Q (tcH (dwS τ k.toNat z h)) M') : Con (n + 83) md_X10_draws [vR 51, vI z, vI k] M Q := g_X10_draws (by
  intro K8 K69 h8 h69
  unfold B_X10_draws
  have h3 := W.2.2.1
  obtain ⟨T, hT⟩ : ∃ T, T = dwS τ k.toNat z h := ⟨_, rfl⟩
  rw [← hT] at hq
  have key : ∀ (d i : Nat) (c : Nat) (z : Int) (g : Mem) (M' : Mem), (i : Int) + d = k → c ≤ i → Fp sH M M' → Ext h g → Wf g → Hm g M' → dwS τ d z g = T → (∀ (z t : Int) (M'' : Mem), (c : Int) ≤ t → t ≤ 40 → Fp sH M M'' → Hm g M'' → K69 z t (tcH T) (t - c) M'') → K8 z (c : Int) (i : Int) M' := by
    intro d
    induction d with
    | zero =>
      intro i c z g M' hi hc F E Wg Hg he hu
      apply h8
      unfold B_X10_draws_8
      refine ⟨fun _ => mm_touching1 Hg Wg ?_, fun e => by omega⟩
      unfold dwS at he
      rw [he]
      have := hu z (c : Int) M' (by omega) (by omega) F Hg
      rw [show (c : Int) - c = 0 by omega] at this
      exact this
    | succ d ih =>
      intro i c z g M' hi hc F E Wg Hg he hu
      apply h8
      unfold B_X10_draws_8
      have e3 : g 0 3 = h 0 3 := E.1 3 (by decide)
      rw [Hg.2.2.2.1, w32_id (x := (i : Int) + 1) (by omega)]
      refine ⟨fun e => by omega, fun _ => ⟨by omega, ?_⟩⟩
      show Con _ _ [vR 51, vI (zF (zN z) (g 0 3))] _ _
      have hfb := zF_b (z := zN z) (m := g 0 3) (by omega)
      refine mm_canLay Hg Wg hfb ?_
      unfold dwS at he
      by_cases cc : caH g (zF (zN z) (g 0 3))
      · rw [if_pos cc] at he ⊢
        refine ⟨fun e => by omega, fun _ => ?_⟩
        show Con _ _ [vR 51, vI (zF (zN z) (g 0 3))] _ _
        refine mm_puts Hg Wg (R.fr F sH3) (by rw [F 51 3 (by unfold sH; omega), E.1 2 (by decide)]; exact hr) hfb cc (fun M2 F2 H2 => ?_)
        rw [w32_id (x := (c : Int) + 1) (by omega)]
        refine ih (i + 1) (c + 1) (zN z) _ M2 (by omega) (by omega) (F.tr F2.P) (adH_ext E) (puH_wf Wg hfb cc) H2 he (fun z' t M3 ht1 ht2 F3 H3 => h69 _ _ _ _ _ ?_)
        unfold B_X10_draws_69
        refine ⟨fun e => by omega, fun _ => mm_takesOff H3 Wg hfb cc (fun M4 F4 H4 => ?_)⟩
        rw [w32_id (by omega), show t - ((c + 1 : Nat) : Int) + 1 = t - c by omega]
        exact hu z' t M4 (by omega) ht2 (F3.tr F4.P) H4
      · rw [if_neg cc] at he ⊢
        exact ⟨fun _ => ih (i + 1) c (zN z) g M' (by omega) (by omega) F E Wg Hg he hu, fun e => absurd rfl e⟩
  refine key k.toNat 0 0 z h M (by omega) (by omega) Fp.rf Ext.rf W H hT.symm (fun z t M' h0 ht F H' => h69 _ _ _ _ _ ?_)
  unfold B_X10_draws_69
  exact ⟨fun _ => hq M' F H', fun e => by omega⟩)
theorem mm_drawn {z k : Int} (H : Hm h M) (W : Wf h) (R : RD τ M) (hr : 0 ≤ h 0 2 ∧ h 0 2 < M 51 3) (hq : ∀ M', Fp sH M M' → Hm h M' → Q (dwR τ h z k) M') : Con (n + 84) md_X10_drawn [vR 51, vI z, vI k] M Q := g_X10_drawn (by
  unfold B_X10_drawn
  have h3 := W.2.2.1
  unfold dwR at hq
  refine c_in ?_
  by_cases c : 0 ≤ k ∧ k ≤ 40
  · rw [if_pos c] at hq ⊢
    rw [H.2.2.2.1]
    refine ⟨fun e => by omega, fun _ => ⟨fun e => ?_, fun e => ?_⟩⟩
    · have := hq M Fp.rf H; rw [if_pos e] at this; exact this
    · rw [if_neg e] at hq
      exact mm_draws H W R hr (by omega) c hq
  · rw [if_neg c] at hq ⊢
    exact ⟨fun _ => hq M Fp.rf H, fun e => absurd rfl e⟩)
theorem mm_chance {z m k p : Int} (H : Hm h M) (W : Wf h) (R : RD τ M) (hr : 0 ≤ h 0 2 ∧ h 0 2 < M 51 3) (hq : ∀ M', Fp sH M M' → Hm h M' → Q (chR τ h z m k p) M') : Con (n + 84) md_X10_chance [vR 51, vI z, vI m, vI k, vI p] M Q := g_X10_chance (by
  intro K52 K96 h52 h96
  unfold B_X10_chance
  have h3 := W.2.2.1
  have no : ¬ okH h m k p → Q (-4611686018427387904) M := fun c => by
    have := hq M Fp.rf H
    unfold chR at this; rw [if_neg c] at this; exact this
  refine c_in ?_
  by_cases cm : 1 ≤ m ∧ m ≤ 20
  · rw [if_pos cm]
    refine ⟨fun e => by omega, fun _ => c_in ?_⟩
    by_cases ck : 0 ≤ k ∧ k ≤ 999
    · rw [if_pos ck]
      refine ⟨fun e => by omega, fun _ => c_in ?_⟩
      by_cases cp : 0 ≤ p ∧ p ≤ 1
      · rw [if_pos cp, H.2.2.2.1]
        refine ⟨fun e => by omega, fun _ => ⟨fun e => no (fun q => q.2.2.2 e), fun e => ?_⟩⟩
        unfold chR at hq
        rw [if_pos ⟨cm, ck, cp, e⟩] at hq
        have fb := fwS_b (τ := τ) (h := h) z k m.toNat
        obtain ⟨c, hc⟩ : ∃ c : Nat, (c : Int) = fwS τ h z k m.toNat := ⟨(fwS τ h z k m.toNat).toNat, by omega⟩
        obtain ⟨m', rfl⟩ : ∃ m' : Nat, m = (m' : Int) := ⟨m.toNat, by omega⟩
        rw [show ((m' : Int)).toNat = m' from rfl] at hq hc fb
        rw [← hc, show ((c : Int)).toNat = c from rfl] at hq
        rw [← hc] at fb
        have euc : ∀ (q b a : Nat) (M' : Mem), b ≤ q → a ≤ 20 → b ≤ 20 → 0 < a + b → Nat.gcd a b = Nat.gcd c m' → Fp sH M M' → Hm h M' → K96 (c : Int) (a : Int) (b : Int) M' := by
          intro q
          induction q with
          | zero =>
            intro b a M' hb ha hb2 hab hg F H'
            apply h96
            unfold B_X10_chance_96
            have b0 : b = 0 := by omega
            subst b0
            rw [Nat.gcd_zero_right] at hg
            have := hq M' F H'
            rw [← hg] at this
            have e1 : w64 (Int.tdiv (c : Int) (a : Int)) = (c : Int) / (a : Int) := by
              rw [Int.tdiv_eq_ediv_of_nonneg (by omega)]
              have : (c : Int) / (a : Int) ≤ c := Int.ediv_le_self _ (by omega)
              have : 0 ≤ (c : Int) / (a : Int) := Int.ediv_nonneg (by omega) (by omega)
              exact w64_id (by omega)
            have e2 : w64 (Int.tdiv (m' : Int) (a : Int)) = (m' : Int) / (a : Int) := by
              rw [Int.tdiv_eq_ediv_of_nonneg (by omega)]
              have : (m' : Int) / (a : Int) ≤ m' := Int.ediv_le_self _ (by omega)
              have : 0 ≤ (m' : Int) / (a : Int) := Int.ediv_nonneg (by omega) (by omega)
              exact w64_id (by omega)
            rw [e1, e2]
            refine ⟨fun _ => ⟨fun ep => ⟨by omega, by rw [if_pos ep] at this; exact this⟩, fun ep => ⟨by omega, by rw [if_neg ep] at this; exact this⟩⟩, fun e => absurd (by decide) e⟩
          | succ q ih =>
            intro b a M' hb ha hb2 hab hg F H'
            by_cases b0 : b = 0
            · exact ih b a M' (by omega) ha hb2 hab hg F H'
            · apply h96
              unfold B_X10_chance_96
              have el : ¬ l_c (b : Int) 0 = 0 := by unfold l_c; grind
              refine ⟨fun e => absurd e el, fun _ => ⟨by omega, ?_⟩⟩
              have em : Int.tmod (a : Int) (b : Int) = ((a % b : Nat) : Int) := by
                rw [Int.tmod_eq_emod_of_nonneg (by omega)]; omega
              rw [em]
              have hlt := Nat.mod_lt a (show b > 0 by omega)
              refine ih (a % b) b M' (by omega) (by omega) (by omega) (by omega) ?_ F H'
              rw [← hg, Nat.gcd_comm a b, Nat.gcd_rec b a, Nat.gcd_comm]
        refine loopUp (P := fun i => ∀ M', Fp sH M M' → Hm h M' → K52 (fwS τ h z k i) (i : Int) M') m' ?_ ?_ 0 (Nat.zero_le _) M Fp.rf H
        · intro M' F H'
          apply h52
          unfold B_X10_chance_52
          refine ⟨fun _ => ?_, fun e => absurd (Int.le_refl _) e⟩
          rw [← hc]
          exact euc m' m' c M' (by omega) (by omega) (by omega) (by omega) rfl F H'
        · intro i hi ih M' F H'
          apply h52
          unfold B_X10_chance_52
          have fi := fwS_b (τ := τ) (h := h) z k i
          have ex : fwS τ h z k (i + 1) = fwS τ h z k i + (if tcH (dwS τ 20 (w32 (z + (i : Int))) h) ≤ k then 1 else 0) := rfl
          rw [ex] at ih
          rw [w32_id (x := (i : Int) + 1) (by omega), w64_id (x := _ + 0) (by omega), w64_id (x := _ + 1) (by omega)]
          refine ⟨fun e => by omega, fun _ => mm_draws H' W (R.fr F sH3) (by rw [F 51 3 (by unfold sH; omega)]; exact hr) (by omega) (by decide) (fun M2 F2 H2 => ?_)⟩
          have ih := ih M2 (F.tr F2) H2
          show (k < tcH (dwS τ 20 (w32 (z + (i : Int))) h) → _) ∧ (¬ k < tcH (dwS τ 20 (w32 (z + (i : Int))) h) → _)
          refine ⟨fun e => ?_, fun e => ?_⟩
          · rw [if_neg (by omega)] at ih; exact ih
          · rw [if_pos (by omega)] at ih; exact ih
      · rw [if_neg cp]
        exact ⟨fun _ => no (fun q => cp q.2.2.1), fun e => absurd rfl e⟩
    · rw [if_neg ck]
      exact ⟨fun _ => no (fun q => ck q.2.1), fun e => absurd rfl e⟩
  · rw [if_neg cm]
    exact ⟨fun _ => no (fun q => cm q.1), fun e => absurd rfl e⟩)
end MX
