/-! THE MODEL: WHAT A SHEET TELLS, AND THE FILM -/
theorem up_up {m : Mem} {o k : Nat} {u v : Int} : up (up m o k u) o k v = up m o k v := by
  funext o' k'
  by_cases c : o' = o ∧ k' = k
  · obtain ⟨rfl, rfl⟩ := c; rw [up_same, up_same]
  · rw [up_ne (by omega), up_ne (by omega), up_ne (by omega)]
theorem up_self {m : Mem} {o k : Nat} : up m o k (m o k) = m := by
  funext o' k'
  by_cases c : o' = o ∧ k' = k
  · obtain ⟨rfl, rfl⟩ := c; rw [up_same]
  · rw [up_ne (by omega)]
/-- supposed otherwise -/
def svH (h : Mem) (f w v : Int) : Mem := if w = 1 then up h 1 f.toNat v else if w = 2 then up h 2 f.toNat v else if w = 3 then up h 3 f.toNat v else if w = 4 then up h 0 1 v else up h 0 2 v
def ogV (h : Mem) (f w : Int) : Int := if w = 1 then h 1 f.toNat else if w = 2 then h 2 f.toNat else if w = 3 then h 3 f.toNat else if w = 4 then h 0 1 else h 0 2
theorem svH_og {h : Mem} {f w : Int} : svH h f w (ogV h f w) = h := by
  unfold svH ogV
  by_cases c1 : w = 1
  · rw [if_pos c1, if_pos c1]; exact up_self
  · by_cases c2 : w = 2
    · rw [if_neg c1, if_neg c1, if_pos c2, if_pos c2]; exact up_self
    · by_cases c3 : w = 3
      · rw [if_neg c1, if_neg c1, if_neg c2, if_neg c2, if_pos c3, if_pos c3]; exact up_self
      · by_cases c4 : w = 4
        · rw [if_neg c1, if_neg c1, if_neg c2, if_neg c2, if_neg c3, if_neg c3, if_pos c4, if_pos c4]; exact up_self
        · rw [if_neg c1, if_neg c1, if_neg c2, if_neg c2, if_neg c3, if_neg c3, if_neg c4, if_neg c4]; exact up_self
def cdW (w : Int) : Int := if w = 1 then 5 else if w = 4 then 1 else if w = 5 then 6 else w
section MU
variable {n : Nat} {τ : Int → Int → (Nat → Int) → Int} {h x M : Mem} {Q : Int → Mem → Prop} {s : Int}
theorem Hm.kind {i0 : Nat} {v : Int} (H : Hm h M) : Hm (up h 1 i0 v) (up M 55 i0 v) := by
  obtain ⟨h1, h2, h3, h4, h5, h6, h7⟩ := H
  have e0 : ∀ k, up h 1 i0 v 0 k = h 0 k := fun k => up_ne (by omega)
  refine ⟨by rw [up_ne (by omega), e0]; exact h1, by rw [up_ne (by omega), e0]; exact h2, by rw [up_ne (by omega), e0]; exact h3, by rw [up_ne (by omega), e0]; exact h4, by rw [up_ne (by omega), e0]; exact h5, fun i hi => ?_, fun s hs => ?_⟩
  · rw [e0] at hi
    obtain ⟨a, b⟩ := h6 i hi
    refine ⟨?_, by rw [up_row (o := 55) (by omega), up_row (o := 1) (by omega), up_row (o := 1) (by omega), up_row (o := 1) (by omega)]; exact b⟩
    by_cases c : i = i0
    · subst c; rw [up_same, up_same]
    · rw [up_ne (by omega), up_ne (by omega)]; exact a
  · rw [e0] at hs
    rw [up_ne (by omega), up_ne (by omega), up_ne (by omega), up_ne (by omega)]; exact h7 s hs
theorem mm_laysV {w f u v : Int} (H : Hm (svH h f w u) M) (hw : 1 ≤ w ∧ w ≤ 5) (hf : 0 ≤ f ∧ f < 6) (hq : ∀ M', Fp sH M M' → Hm (svH h f w v) M' → Q 0 M') : Con (n + 1) md_X10_lays [vR 51, vI (cdW w), vI f, vI v] M Q := g_X10_lays (by
  unfold B_X10_lays
  rcases (show w = 1 ∨ w = 2 ∨ w = 3 ∨ w = 4 ∨ w = 5 by omega) with e | e | e | e | e <;> subst e
  · have ec : cdW 1 = 5 := rfl
    rw [ec]
    refine ⟨fun e => by omega, fun _ => ⟨fun e => by omega, fun _ => ⟨fun _ => ⟨fun _ => ⟨by omega, fun M2 e2 => ?_⟩, fun e => absurd rfl e⟩, fun e => absurd (by decide) e⟩⟩⟩
    have := H.kind (i0 := f.toNat) (v := v)
    have e : up (svH h f 1 u) 1 f.toNat v = svH h f 1 v := up_up
    rw [e, ← e2] at this
    exact hq M2 (by rw [e2]; exact Fp.rf.up (by unfold sH; omega)) this
  · have ec : cdW 2 = 2 := rfl
    rw [ec, w32_id (x := 3 * f) (by omega), w32_id (x := 3 * f + 2) (by omega), w32_id (x := 3 * f + 2 - 2) (by omega)]
    refine ⟨fun e => by omega, fun _ => ⟨fun e => by omega, fun _ => ⟨fun e => absurd e (by decide), fun _ => ⟨by omega, fun M2 e2 => ?_⟩⟩⟩⟩
    rw [show (3 * f + 2 - 2).toNat = 3 * f.toNat + (2 - 2) by omega] at e2
    have := H.row (r := 2) (i0 := f.toNat) (v := v) (by omega)
    have e : up (svH h f 2 u) 2 f.toNat v = svH h f 2 v := up_up
    rw [e, ← e2] at this
    exact hq M2 (by rw [e2]; exact Fp.rf.up (by unfold sH; omega)) this
  · have ec : cdW 3 = 3 := rfl
    rw [ec, w32_id (x := 3 * f) (by omega), w32_id (x := 3 * f + 3) (by omega), w32_id (x := 3 * f + 3 - 2) (by omega)]
    refine ⟨fun e => by omega, fun _ => ⟨fun e => by omega, fun _ => ⟨fun e => absurd e (by decide), fun _ => ⟨by omega, fun M2 e2 => ?_⟩⟩⟩⟩
    rw [show (3 * f + 3 - 2).toNat = 3 * f.toNat + (3 - 2) by omega] at e2
    have := H.row (r := 3) (i0 := f.toNat) (v := v) (by omega)
    have e : up (svH h f 3 u) 3 f.toNat v = svH h f 3 v := up_up
    rw [e, ← e2] at this
    exact hq M2 (by rw [e2]; exact Fp.rf.up (by unfold sH; omega)) this
  · have ec : cdW 4 = 1 := rfl
    rw [ec]
    refine ⟨fun e => by omega, fun _ => ⟨fun _ M2 e2 => ?_, fun e => absurd rfl e⟩⟩
    have := H.zero (a := 8) (k := 1) (v := v) (by omega)
    have e : up (svH h f 4 u) 0 1 v = svH h f 4 v := up_up
    rw [e, ← e2] at this
    exact hq M2 (by rw [e2]; exact Fp.rf.up (by unfold sH; omega)) this
  · have ec : cdW 5 = 6 := rfl
    rw [ec]
    refine ⟨fun e => by omega, fun _ => ⟨fun e => by omega, fun _ => ⟨fun _ => ⟨fun e => by omega, fun _ M2 e2 => ?_⟩, fun e => absurd (by decide) e⟩⟩⟩
    have := H.zero (a := 4) (k := 2) (v := v) (by omega)
    have e : up (svH h f 5 u) 0 2 v = svH h f 5 v := up_up
    rw [e, ← e2] at this
    exact hq M2 (by rw [e2]; exact Fp.rf.up (by unfold sH; omega)) this)
abbrev sF (o k : Nat) : Prop := sL o k ∨ o = 60
theorem sF_sH : ∀ o k, sF o k → sH o k := fun o k q => by unfold sF sL at q; unfold sH; omega
theorem Hm.F {M' : Mem} (H : Hm h M) (F : Fp sF M M') : Hm h M' := H.fr F (fun k q => by unfold sF sL at q; omega) (fun o k q1 q2 q => by unfold sF sL at q; omega)
theorem spL0 (f : Int) : spL τ h f 0 0 = lq τ (h 0 2) (h 1 f.toNat) (h 3 f.toNat) (h 2 f.toNat) (h 0 1) (h 4 f.toNat) (h 0 0) := rfl
theorem mm_turnsFrom {f k : Int} (H : Hm h M) (W : Wf h) (R : RD τ M) (hr : 0 ≤ h 0 2 ∧ h 0 2 < M 51 3) (hf : 0 ≤ f ∧ f < h 0 3) (hk : 0 ≤ k ∧ k ≤ 20) (hq : ∀ M', Fp sF M M' → (∀ i : Nat, (i : Int) < k → M' 60 i = spL τ h f 0 0 (i + 1)) → Q 0 M') : Con (n + 82) md_X10_turnsFrom [vR 51, vI f, vI k] M Q := g_X10_turnsFrom (by
  intro K hK
  unfold B_X10_turnsFrom
  have h3 := W.2.2.1
  have hw := W.2.2.2.2.1 _ (toN hf)
  have hho := W.1
  have hth := thH_b W hf
  rw [H.2.1]
  rw [spL0] at hq
  refine loopUp (P := fun i => ∀ M', Fp sF M M' → (∀ j : Nat, j < i → M' 60 j = lq τ (h 0 2) (h 1 f.toNat) (h 3 f.toNat) (h 2 f.toNat) (h 0 1) (h 4 f.toNat) (h 0 0) (j + 1)) → K (lq τ (h 0 2) (h 1 f.toNat) (h 3 f.toNat) (h 2 f.toNat) (h 0 1) (h 4 f.toNat) (h 0 0) i) (i : Int) M') k.toNat (fun M' F q => hK _ _ _ ?_) (fun i hi ih M' F q => hK _ _ _ ?_) 0 (Nat.zero_le _) M Fp.rf (fun j hj => by omega)
  · unfold B_X10_turnsFrom_8
    exact ⟨fun _ => hq M' F (fun i hi => q i (by omega)), fun e => by omega⟩
  · unfold B_X10_turnsFrom_8
    obtain ⟨a, ha⟩ : ∃ a, a = lq τ (h 0 2) (h 1 f.toNat) (h 3 f.toNat) (h 2 f.toNat) (h 0 1) (h 4 f.toNat) (h 0 0) i := ⟨_, rfl⟩
    have hab := lq_b (τ := τ) (ru := h 0 2) (kd := h 1 f.toNat) (co := h 3 f.toNat) (nu := h 2 f.toNat) (bu := h 4 f.toNat) (ho := h 0 0) W.2.1 i
    rw [← ha] at hab ⊢
    rw [w32_id (x := (i : Int) + 1) (by omega), w32_id (x := 3 * f) (by omega), w32_id (x := 3 * f + 1) (by omega), w32_id (x := 3 * f + 2) (by omega)]
    refine ⟨fun e => by omega, fun _ M1 e1 => ⟨by omega, fun M2 e2 => ⟨by omega, fun M3 e3 M4 e4 => ⟨by omega, fun M5 e5 => ?_⟩⟩⟩⟩
    have F1 : Fp sF M M1 := by rw [e1]; exact F.up (by unfold sF sL; omega)
    have F2 : Fp sF M M2 := by rw [e2]; exact F1.up (by unfold sF sL; omega)
    have F3 : Fp sF M M3 := by rw [e3]; exact F2.up (by unfold sF sL; omega)
    have F4 : Fp sF M M4 := by rw [e4]; exact F3.up (by unfold sF sL; omega)
    have F5 : Fp sF M M5 := by rw [e5]; exact F4.up (by unfold sF sL; omega)
    refine mm_thickOf (H.F F5) W hf (fun M8 e8 => ?_)
    rw [(H.F F5).1] at e8
    rw [((H.F F1).fl hf).2.2.1] at e2
    rw [((H.F F2).fl hf).2.1] at e3
    rw [((H.F F4).fl hf).2.2.2, w32_id (x := h 4 f.toNat - (i : Int)) (by omega)] at e5
    have hm1 : 0 ≤ (i : Int) * thH h f := Int.mul_nonneg (by omega) (by omega)
    have hm2 : (i : Int) * thH h f ≤ 20 * 12 := Int.mul_le_mul (by omega) (by omega) (by omega) (by omega)
    rw [w32_id (x := (i : Int) * thH h f) (by omega), w32_id (x := h 0 0 - (i : Int) * thH h f) (by omega)] at e8
    have F8 : Fp sF M M8 := by rw [e8]; exact F5.up (by unfold sF sL; omega)
    have E8 : Ev M8 (lqE (h 1 f.toNat) (h 3 f.toNat) (h 2 f.toNat) (h 4 f.toNat) (h 0 0) i a) := by
      refine six ?_ ?_ ?_ ?_ ?_ ?_
      · rw [e8, up_ne (by omega), e5, up_ne (by omega), e4, up_ne (by omega), e3, up_ne (by omega), e2, up_ne (by omega), e1]; exact up_same
      · rw [e8, up_ne (by omega), e5, up_ne (by omega), e4, up_ne (by omega), e3, up_ne (by omega), e2]; exact up_same
      · rw [e8, up_ne (by omega), e5, up_ne (by omega), e4, up_ne (by omega), e3]; exact up_same
      · rw [e8, up_ne (by omega), e5, up_ne (by omega), e4]; exact up_same
      · rw [e8, up_ne (by omega), e5]; exact up_same
      · rw [e8]; exact up_same
    have sF3 : ∀ o k, (o = 52 ∨ o = 53 ∨ (o = 51 ∧ k = 3)) → ¬ sF o k := fun o k h q => by unfold sF sL at q; omega
    refine mm_turnsOf (H.F F8) W (R.fr F8 sF3) (by rw [F8 51 3 (sF3 51 3 (by omega))]; exact hr) hf E8 (fun M10 F10 => ?_)
    have htu := tuV_b τ (h 0 2) (h 1 f.toNat) (lqE (h 1 f.toNat) (h 3 f.toNat) (h 2 f.toNat) (h 4 f.toNat) (h 0 0) i a)
    rw [w32_id (x := a + tuV τ (h 0 2) (h 1 f.toNat) (lqE (h 1 f.toNat) (h 3 f.toNat) (h 2 f.toNat) (h 4 f.toNat) (h 0 0) i a)) (by omega)]
    refine mm_round (by omega) ⟨by omega, fun M13 e13 => ?_⟩
    have es : lq τ (h 0 2) (h 1 f.toNat) (h 3 f.toNat) (h 2 f.toNat) (h 0 1) (h 4 f.toNat) (h 0 0) (i + 1) = (a + tuV τ (h 0 2) (h 1 f.toNat) (lqE (h 1 f.toNat) (h 3 f.toNat) (h 2 f.toNat) (h 4 f.toNat) (h 0 0) i a)) % 16 := by rw [ha]; rfl
    rw [← es] at e13 ⊢
    have c60 : ∀ j, M10 60 j = M' 60 j := fun j => by rw [F10 60 j (by unfold sR; omega), e8, up_ne (by omega), e5, up_ne (by omega), e4, up_ne (by omega), e3, up_ne (by omega), e2, up_ne (by omega), e1, up_ne (by omega)]
    refine ih M13 (by rw [e13]; exact (F8.tr (F10.mono (fun o k q => Or.inl (sR_sL o k q)))).up (Or.inr rfl)) (fun j hj => ?_)
    rw [e13, show (i : Int).toNat = i from rfl]
    by_cases c : j = i
    · subst c; rw [up_same]
    · rw [up_ne (by omega), c60]; exact q j (by omega))
theorem mm_firstOther {f : Int} (H : Hm h M) (W : Wf h) (R : RD τ M) (hr : 0 ≤ h 0 2 ∧ h 0 2 < M 51 3) (hf : 0 ≤ f ∧ f < h 0 3) (HS : Shm x M) (WW : WS x) (hs : okN s) (hm : x 3 s.toNat ≠ -1) (h20 : x 4 s.toNat ≤ 20) (hq : ∀ M', Fp sF M M' → Q (foR τ h x s f 0 0) M') : Con (n + 83) md_X10_firstOther [vR 51, vI s, vI f] M Q := g_X10_firstOther (by
  intro K hK
  unfold B_X10_firstOther
  have hs' : 0 ≤ s ∧ s < 4 := hs
  obtain ⟨r1, r2, r3, r4⟩ := HS.at hs hm
  have hb := (WW s.toNat (by omega)).2 hm
  rw [r3]
  refine ⟨hs', mm_turnsFrom H W R hr hf (by omega) (fun M2 F2 q2 => ?_)⟩
  have hq := hq M2 F2
  have HS2 := HS.fr F2 (fun o k h1 h2 q => by unfold sF sL at q; omega)
  obtain ⟨p1, p2, p3, p4⟩ := HS2.at hs hm
  unfold foR at hq
  obtain ⟨T, hT⟩ : ∃ T, T = foS (spL τ h f 0 0) (x (5 + s.toNat)) (x 4 s.toNat).toNat 0 := ⟨_, rfl⟩
  rw [← hT] at hq
  have key : ∀ (d i : Nat), (i : Int) + d = x 4 s.toNat → foS (spL τ h f 0 0) (x (5 + s.toNat)) d i = T → K (i : Int) M2 := by
    intro d
    induction d with
    | zero =>
      intro i hi he
      apply hK
      unfold B_X10_firstOther_13
      rw [p3]
      unfold foS at he
      exact ⟨hs', fun _ => by rw [he]; exact hq, fun e => by omega⟩
    | succ d ih =>
      intro i hi he
      apply hK
      unfold B_X10_firstOther_13
      rw [p3, w32_id (x := 40 * s) (by omega), w32_id (x := 40 * s + (i : Int)) (by omega), w32_id (x := (i : Int) + 1) (by omega), p4 (i : Int) (by omega) (by omega), show (i : Int).toNat = i from rfl, q2 i (by omega)]
      unfold foS at he
      refine ⟨hs', fun e => by omega, fun _ => ⟨by omega, by omega, fun e => ?_, fun e => ?_⟩⟩
      · rw [if_pos e] at he; exact ih (i + 1) (by omega) he
      · rw [if_neg e] at he; rw [he]; exact hq
  exact key (x 4 s.toNat).toNat 0 (by omega) hT.symm)
theorem svH_sp {f w v : Int} (hw : 1 ≤ w ∧ w ≤ 5) : spL τ (svH h f w v) f 0 0 = spL τ h f w v := by
  rw [spL0]
  unfold spL svH
  rcases (show w = 1 ∨ w = 2 ∨ w = 3 ∨ w = 4 ∨ w = 5 by omega) with e | e | e | e | e <;> subst e
  · rw [if_pos rfl, if_neg (by decide), if_pos rfl, if_neg (by decide), if_neg (by decide), if_neg (by decide), up_same, up_row (by decide), up_row (by decide), up_row (by decide), up_row (by decide)]
  · rw [if_neg (by decide), if_pos rfl, if_neg (by decide), if_neg (by decide), if_neg (by decide), if_pos rfl, if_neg (by decide), up_same, up_row (by decide), up_row (by decide), up_row (by decide), up_row (by decide)]
  · rw [if_neg (by decide), if_neg (by decide), if_pos rfl, if_neg (by decide), if_neg (by decide), if_pos rfl, if_neg (by decide), if_neg (by decide), up_same, up_row (by decide), up_row (by decide), up_row (by decide), up_row (by decide)]
  · simp [up]
  · simp [up]
theorem svH_wf {f w v : Int} {z : Int} (W : Wf h) (hw : 1 ≤ w ∧ w ≤ 5) (hv : 0 ≤ v ∧ v < chO z w) : Wf (svH h f w v) := by
  rcases (show w = 1 ∨ w = 2 ∨ w = 3 ∨ w = 4 ∨ w = 5 by omega) with e | e | e | e | e <;> subst e
  · have hv : 0 ≤ v ∧ v < 6 := hv
    show Wf (up h 1 f.toNat v)
    obtain ⟨w1, w2, w3, w4, w5, w6⟩ := W
    have e0 : ∀ k, up h 1 f.toNat v 0 k = h 0 k := fun k => up_ne (by omega)
    refine ⟨by rw [e0]; exact w1, by rw [e0]; exact w2, by rw [e0]; exact w3, by rw [e0]; exact w4, fun i hi => ?_, fun q hq => ?_⟩
    · rw [e0] at hi
      rw [up_row (o := 1) (r := 2) (by decide), up_row (o := 1) (r := 3) (by decide), up_row (o := 1) (r := 4) (by decide)]
      refine ⟨?_, (w5 i hi).2⟩
      by_cases c : i = f.toNat
      · subst c; rw [up_same]; omega
      · rw [up_ne (by omega)]; exact (w5 i hi).1
    · rw [e0] at hq ⊢
      rw [up_ne (by omega), up_ne (by omega)]; exact w6 q hq
  · have hv : 0 ≤ v ∧ v < 10 := hv
    exact seH_wf (w := 2) W (by decide) (show 0 ≤ v ∧ v ≤ 9 by omega)
  · have hv : 0 ≤ v ∧ v < 5 := hv
    exact seH_wf (w := 3) W (by decide) (show 0 ≤ v ∧ v ≤ 4 by omega)
  · have hv : 0 ≤ v ∧ v < 16 := hv
    exact seH_wf (w := 1) (f := f) W (by decide) (show 0 ≤ v ∧ v ≤ 15 by omega)
  · show Wf (up h 0 2 v)
    obtain ⟨w1, w2, w3, w4, w5, w6⟩ := W
    refine ⟨by rw [up_ne (by omega)]; exact w1, by rw [up_ne (by omega)]; exact w2, by rw [up_ne (by omega)]; exact w3, by rw [up_ne (by omega)]; exact w4, fun i hi => ?_, fun q hq => ?_⟩
    · rw [up_ne (by omega)] at hi
      rw [up_row (by decide), up_row (by decide), up_row (by decide), up_row (by decide)]; exact w5 i hi
    · rw [up_ne (by omega)] at hq
      rw [up_ne (by omega), up_ne (by omega), up_ne (by omega)]; exact w6 q hq
theorem svH_3 {f w v : Int} : svH h f w v 0 3 = h 0 3 := by
  unfold svH
  repeat' split
  all_goals exact up_ne (by omega)
theorem o_r0 (y : Int32) (v : Int) : o_r y.toInt (sh_l 0 v) = y.toInt := by
  have e : sh_l 0 v = 0 := by
    unfold sh_l
    have : (Int32.ofInt 0 <<< (Int32.ofInt v &&& 31)) = 0 := by
      apply Int32.toBitVec.inj
      simp [Int32.toBitVec_shiftLeft]
    rw [this]; rfl
  rw [e]
  unfold o_r
  rw [Int32.ofInt_toInt]
  have : y ||| Int32.ofInt 0 = y := by
    apply Int32.toBitVec.inj
    simp
  rw [this]
theorem agS_i {f w : Int} : ∀ v : Nat, ∃ y : Int32, agS τ h x s f w v = y.toInt
  | 0 => ⟨0, rfl⟩
  | v + 1 => by
    unfold agS
    split
    · exact ⟨_, rfl⟩
    · exact agS_i v
theorem mm_tells {f w : Int} (H : Hm h M) (W : Wf h) (R : RD τ M) (hz : 1 ≤ M 51 3 ∧ M 51 3 ≤ 6) (hr : 0 ≤ h 0 2 ∧ h 0 2 < M 51 3) (HS : Shm x M) (WW : WS x) (hq : ∀ M', Fp sH M M' → Hm h M' → Q (teR τ h x (M 51 3) s f w) M') : Con (n + 84) md_X10_tells [vR 51, vI s, vI f, vI w] M Q := g_X10_tells (by
  intro K hK
  unfold B_X10_tells
  have h3 := W.2.2.1
  unfold teR at hq
  have hq0 := hq M Fp.rf H
  refine mm_isSheet ?_
  by_cases cs : okN s
  · rw [if_pos cs]
    have cs' : 0 ≤ s ∧ s < 4 := cs
    refine ⟨fun e => by omega, fun _ => mm_isFlower H W ?_⟩
    by_cases cf : 0 ≤ f ∧ f < h 0 3
    · rw [if_pos cf]
      refine ⟨fun e => by omega, fun _ => c_in ?_⟩
      by_cases cw : 0 ≤ w ∧ w ≤ 5
      · rw [if_pos cw]
        rw [if_pos ⟨cs, cf, cw⟩] at hq hq0
        refine ⟨fun e => by omega, fun _ => ⟨cs', ?_⟩⟩
        by_cases cm : x 3 s.toNat = -1
        · rw [HS.no cs cm]; rw [if_pos cm] at hq0; exact ⟨fun _ => hq0, fun e => absurd rfl e⟩
        · obtain ⟨r1, r2, r3, r4⟩ := HS.at cs cm
          have hb := (WW s.toNat (by omega)).2 cm
          rw [if_neg cm] at hq hq0
          rw [r1, r3]
          refine ⟨fun e => by omega, fun _ => ⟨cs', fun h20 => ?_, fun h20 => by rw [if_pos (by omega)] at hq0; exact hq0⟩⟩
          rw [if_neg (by omega)] at hq
          refine ⟨fun e => mm_firstOther H W R hr cf HS WW cs cm h20 (fun M2 F2 => ?_), fun e0 => ?_⟩
          · rw [if_pos e] at hq; exact hq M2 (F2.mono sF_sH) (H.F F2)
          · rw [if_neg e0] at hq
            have hw : 1 ≤ w ∧ w ≤ 5 := by omega
            obtain ⟨N, hN⟩ : ∃ N : Nat, (N : Int) = chO (M 51 3) w := ⟨(chO (M 51 3) w).toNat, by
              unfold chO; repeat' split
              all_goals omega⟩
            have hN2 : N ≤ 16 := by
              have : chO (M 51 3) w ≤ 16 := by
                unfold chO; repeat' split
                all_goals omega
              omega
            rw [show (chO (M 51 3) w).toNat = N by omega] at hq
            have key := loopUp (P := fun v => ∀ (u : Int) (M' : Mem), Fp sH M M' → Hm (svH h f w u) M' → K (cdW w) (ogV h f w) (chO (M 51 3) w - 1) (agS τ h x s f w v) (v : Int) M') N (fun u M' F Hu => hK _ _ _ _ _ _ ?_) (fun v hv ih u M' F Hu => hK _ _ _ _ _ _ ?_) 0 (Nat.zero_le _)
            · have ks : ∀ M', Fp sL M M' → K (cdW w) (ogV h f w) (chO (M 51 3) w - 1) 0 0 M' := fun M' F => key (ogV h f w) M' F.L (by rw [svH_og]; exact H.L F)
              rcases (show w = 1 ∨ w = 2 ∨ w = 3 ∨ w = 4 ∨ w = 5 by omega) with e | e | e | e | e <;> subst e
              · refine ⟨fun _ => ⟨fun e => by omega, fun _ => mm_told H W R hr (fun M2 F2 => ⟨fun e => by omega, fun _ => ⟨fun _ => ?_, fun e => absurd rfl e⟩⟩)⟩, fun e => absurd rfl e⟩
                have et : tlR τ h f 5 = ogV h f 1 := by unfold tlR; rw [if_neg (by omega), if_neg (by omega), if_neg (by omega), if_pos rfl]; rfl
                rw [et]; exact ks M2 F2
              · refine ⟨fun e => by omega, fun _ => ⟨fun _ => ⟨fun e => by omega, fun _ => mm_told H W R hr (fun M2 F2 => ⟨fun e => by omega, fun _ => ⟨fun e => by omega, fun _ => mm_mostOf (by decide) ?_⟩⟩)⟩, fun e => absurd rfl e⟩⟩
                have et : tlR τ h f 2 = ogV h f 2 := by unfold tlR geH; rw [if_neg (by omega), if_neg (by omega), if_pos (by omega)]; rfl
                rw [et]; exact ks M2 F2
              · refine ⟨fun e => by omega, fun _ => ⟨fun e => by omega, fun _ => ⟨fun _ => ⟨fun e => by omega, fun _ => mm_told H W R hr (fun M2 F2 => ⟨fun e => by omega, fun _ => ⟨fun e => by omega, fun _ => mm_mostOf (by decide) ?_⟩⟩)⟩, fun e => absurd rfl e⟩⟩⟩
                have et : tlR τ h f 3 = ogV h f 3 := by unfold tlR geH; rw [if_neg (by omega), if_neg (by omega), if_pos (by omega)]; rfl
                rw [et]; exact ks M2 F2
              · refine ⟨fun e => by omega, fun _ => ⟨fun e => by omega, fun _ => ⟨fun e => by omega, fun _ => ⟨fun _ => ⟨fun e => by omega, fun _ => mm_told H W R hr (fun M2 F2 => ⟨fun e => by omega, fun _ => ⟨fun e => by omega, fun _ => mm_mostOf (by decide) ?_⟩⟩)⟩, fun e => absurd rfl e⟩⟩⟩⟩
                have et : tlR τ h f 1 = ogV h f 4 := by unfold tlR geH; rw [if_pos (by omega)]; rfl
                rw [et]; exact ks M2 F2
              · refine ⟨fun e => by omega, fun _ => ⟨fun e => by omega, fun _ => ⟨fun e => by omega, fun _ => ⟨fun e => by omega, fun _ => ⟨fun _ => ⟨fun _ => ?_, fun e => absurd rfl e⟩, fun e => absurd rfl e⟩⟩⟩⟩⟩
                rw [H.2.2.1, w32_id (by omega)]
                exact ks M Fp.rf
            · unfold B_X10_tells_169
              refine ⟨fun _ => mm_laysV Hu hw (by omega) (fun M2 F2 H2 => ?_), fun e => by omega⟩
              rw [svH_og] at H2
              exact hq M2 (F.tr F2) H2
            · unfold B_X10_tells_169
              refine ⟨fun e => by omega, fun _ => mm_laysV Hu hw (by omega) (fun M2 F2 H2 => ?_)⟩
              have F02 := F.tr F2
              have hv2 : 0 ≤ (v : Int) ∧ (v : Int) < chO (M 51 3) w := by omega
              refine mm_firstOther H2 (svH_wf W hw hv2) (R.fr F02 sH3) ?_ (by rw [svH_3]; exact cf) (HS.fr F02 sHS) WW cs cm h20 (fun M4 F4 => ?_)
              · rw [F02 51 3 (by unfold sH; omega)]
                rcases (show w = 1 ∨ w = 2 ∨ w = 3 ∨ w = 4 ∨ w = 5 by omega) with e | e | e | e | e <;> subst e
                · have : svH h f 1 (v : Int) 0 2 = h 0 2 := (show up h 1 f.toNat (v : Int) 0 2 = h 0 2 from up_ne (by omega))
                  rw [this]; exact hr
                · have : svH h f 2 (v : Int) 0 2 = h 0 2 := (show up h 2 f.toNat (v : Int) 0 2 = h 0 2 from up_ne (by omega))
                  rw [this]; exact hr
                · have : svH h f 3 (v : Int) 0 2 = h 0 2 := (show up h 3 f.toNat (v : Int) 0 2 = h 0 2 from up_ne (by omega))
                  rw [this]; exact hr
                · have : svH h f 4 (v : Int) 0 2 = h 0 2 := (show up h 0 1 (v : Int) 0 2 = h 0 2 from up_ne (by omega))
                  rw [this]; exact hr
                · have : svH h f 5 (v : Int) 0 2 = (v : Int) := (show up h 0 2 (v : Int) 0 2 = (v : Int) from up_same)
                  rw [this]; exact hv2
              · have ih := ih (v : Int) M4 (F02.tr (F4.mono sF_sH)) (H2.F F4)
                have ea : agS τ h x s f w (v + 1) = if foR τ h x s f w (v : Int) = -1 then o_r (agS τ h x s f w v) (sh_l 1 (v : Int)) else agS τ h x s f w v := rfl
                rw [ea] at ih
                have ef : foR τ (svH h f w (v : Int)) x s f 0 0 = foR τ h x s f w (v : Int) := by
                  unfold foR; rw [svH_sp hw]
                rw [ef, w32_id (x := (v : Int) + 1) (by omega)]
                refine ⟨fun e => by rw [if_pos e] at ih; exact ih, fun e => ?_⟩
                rw [if_neg e] at ih
                obtain ⟨y, hy⟩ := agS_i (τ := τ) (h := h) (x := x) (s := s) (f := f) (w := w) v
                rw [hy] at ih ⊢
                rw [o_r0]; exact ih
      · rw [if_neg cw]
        rw [if_neg (fun q => cw q.2.2)] at hq0
        exact ⟨fun _ => hq0, fun e => absurd rfl e⟩
    · rw [if_neg cf]
      rw [if_neg (fun q => cf q.2.1)] at hq0
      exact ⟨fun _ => hq0, fun e => absurd rfl e⟩
  · rw [if_neg cs]
    rw [if_neg (fun q => cs q.1)] at hq0
    exact ⟨fun _ => hq0, fun e => absurd rfl e⟩)
abbrev sFS (o k : Nat) : Prop := sF o k ∨ sS o k
theorem mm_film {f k : Int} (H : Hm h M) (W : Wf h) (R : RD τ M) (hr : 0 ≤ h 0 2 ∧ h 0 2 < M 51 3) (HS : Shm x M) (WW : WS x) (h0 : ¬ (okN s ∧ (0 ≤ f ∧ f < h 0 3) ∧ (0 ≤ k ∧ k ≤ 20)) → Q (-2) M) (h1 : okN s → (0 ≤ f ∧ f < h 0 3) → (0 ≤ k ∧ k ≤ 20) → ∀ M', Fp sFS M M' → Shm (fmX τ h x s f k) M' → Q k M') : Con (n + 83) md_X10_film [vR 51, vI s, vI f, vI k] M Q := g_X10_film (by
  intro K hK
  unfold B_X10_film
  have h3 := W.2.2.1
  refine mm_isSheet ?_
  by_cases cs : okN s
  · rw [if_pos cs]
    have cs' : 0 ≤ s ∧ s < 4 := cs
    refine ⟨fun e => by omega, fun _ => mm_isFlower H W ?_⟩
    by_cases cf : 0 ≤ f ∧ f < h 0 3
    · rw [if_pos cf]
      refine ⟨fun e => by omega, fun _ => c_in ?_⟩
      by_cases ck : 0 ≤ k ∧ k ≤ 20
      · rw [if_pos ck]
        refine ⟨fun e => by omega, fun _ => mm_turnsFrom H W R hr cf ck (fun M9 F9 q9 => mm_sheet (HS.fr F9 (fun o k h1 h2 q => by unfold sF sL at q; omega)) WW (fun q => absurd ⟨cs, Or.inr ⟨by decide, by omega⟩⟩ q) (fun _ _ q => by omega) (fun _ q => by omega) (fun _ _ _ M11 F11 S11 => ?_))⟩
        refine loopUp (P := fun i => ∀ M', Fp (fun o p => o = 67 ∧ 40 * s.toNat ≤ p ∧ p < 40 * s.toNat + 40) M11 M' → (∀ j : Nat, j < i → M' 67 (40 * s.toNat + j) = spL τ h f 0 0 (j + 1)) → K (i : Int) M') k.toNat (fun M' F q => hK _ _ ?_) (fun i hi ih M' F q => hK _ _ ?_) 0 (Nat.zero_le _) M11 Fp.rf (fun j hj => by omega)
        · unfold B_X10_film_47
          refine ⟨fun _ => h1 cs cf ck M' (fun o p hp => ?_) (fun s' h4 => ?_), fun e => by omega⟩
          · rw [F o p (fun q => hp (Or.inr (by unfold sS; omega))), F11 o p (fun q => hp (Or.inr q)), F9 o p (fun q => hp (Or.inl q))]
          · obtain ⟨q1, q2⟩ := S11 s' h4
            have fo : ∀ o p, o ≠ 5 + s.toNat → fmX τ h x s f k o p = shB x s.toNat 0 k o p := fun o p ho => by unfold fmX upr; rw [if_neg ho]
            rw [fo 3 _ (by omega), fo 4 _ (by omega), F 64 _ (by omega), F 65 _ (by omega), F 66 _ (by omega)]
            refine ⟨q1, fun c => ⟨(q2 c).1, (q2 c).2.1, (q2 c).2.2.1, fun i hi => ?_⟩⟩
            by_cases cc : s' = s.toNat
            · subst cc
              rw [shB_4s] at hi
              rw [q i (by omega)]
              unfold fmX upr; rw [if_pos rfl]
            · have hb : shB x s.toNat 0 k 4 s' ≤ 40 := by
                rw [shB_4n cc]; rw [shB_3n cc] at c; exact ((WW s' h4).2 c).2
              rw [F 67 _ (by omega), fo _ _ (by omega)]; exact (q2 c).2.2.2 i hi
        · unfold B_X10_film_47
          rw [w32_id (x := (i : Int) + 1) (by omega), w32_id (x := 40 * s) (by omega), w32_id (x := 40 * s + (i : Int)) (by omega)]
          refine ⟨fun e => by omega, fun _ => ⟨by omega, by omega, fun M1 e1 => ?_⟩⟩
          rw [show (40 * s + (i : Int)).toNat = 40 * s.toNat + i by omega, show (i : Int).toNat = i from rfl, F 60 i (by omega), F11 60 i (by unfold sS; omega), q9 i (by omega)] at e1
          refine ih M1 (by rw [e1]; exact F.up (by omega)) (fun j hj => ?_)
          by_cases c : j = i
          · subst c; rw [e1, up_same]
          · rw [e1, up_ne (by omega)]; exact q j (by omega)
      · rw [if_neg ck]
        exact ⟨fun _ => h0 (fun q => ck q.2.2), fun e => absurd rfl e⟩
    · rw [if_neg cf]
      exact ⟨fun _ => h0 (fun q => cf q.2.1), fun e => absurd rfl e⟩
  · rw [if_neg cs]
    exact ⟨fun _ => h0 (fun q => cs q.1), fun e => absurd rfl e⟩)
end MU
