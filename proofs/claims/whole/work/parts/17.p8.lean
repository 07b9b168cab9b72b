/-! THE PROGRAM'S CALLS ON THE HAND: set, flower, told, force, lay, draw, stem -/
section XH
variable {n : Nat} {τ : Int → Int → (Nat → Int) → Int} {h M : Mem} {Q : Int → Mem → Prop}
theorem c_mostOf {w : Int} (hq : Q (moS w) M) : Con (n + 1) md_X9_mostOf [vI w] M Q := g_X9_mostOf (by
  unfold B_X9_mostOf; unfold moS at hq
  refine ⟨?_, ?_, ?_, ?_, ?_, ?_⟩ <;> intro e <;> grind)
theorem c_Hchange {w f v : Int} (H : Hd h M) (W : Wf h) (hw : 0 ≤ w ∧ w ≤ 4) (hf : 2 ≤ w → 0 ≤ f ∧ f < h 0 3) (hq : Q 0 (if w = 0 then up M 1 0 v else if w = 1 then up M 1 1 v else up M (1 + w.toNat) f.toNat v)) : Con (n + 2) md_X0_change [vR 1, vI w, vI f, vI v] M Q := g_X0_change (by
  unfold B_X0_change
  have h3 := W.2.2.1
  refine ⟨fun e M7 h7 => by rw [if_pos e] at hq; rw [h7]; exact hq, fun e0 => ⟨fun e M6 h6 => by rw [if_neg e0, if_pos e] at hq; rw [h6]; exact hq, fun e1 => ?_⟩⟩
  rw [if_neg e0, if_neg e1] at hq
  have hf := hf (by omega)
  refine c_hasFlower ?_
  rw [H.2.2.2.1, if_pos hf]
  refine ⟨fun e => by omega, fun _ => ⟨fun e => by omega, fun e => ⟨by omega, fun M3 h3 => ?_⟩, fun e => ⟨by omega, fun M3 h3 => ?_⟩, fun e => ⟨by omega, fun M3 h3 => ?_⟩⟩⟩
  · subst e; rw [h3]; exact hq
  · subst e; rw [h3]; exact hq
  · subst e; rw [h3]; exact hq)
abbrev okS (h : Mem) (w f v : Int) : Prop := (0 ≤ w ∧ w ≤ 4) ∧ (2 ≤ w → 0 ≤ f ∧ f < h 0 3) ∧ 0 ≤ v ∧ v ≤ moS w
theorem x_set {w f v : Int} (H : Hd h M) (W : Wf h) (h0 : ¬ okS h w f v → Q (-2) M) (h1 : okS h w f v → ∀ M', Fr [1, 2, 3, 4, 5] M M' → Hd (seH h w f v) M' → Q (geH h w f) M') : Con (n + 3) md_X9_set [vR 0, vI w, vI f, vI v] M Q := g_X9_set (by
  unfold B_X9_set
  have fin : okS h w f v → Con (n + 2) md_X0_settingOf [vR 1, vI w, vI f] M (fun r3 M4 => Con (n + 2) md_X0_change [vR 1, vI w, vI f, vI v] M4 (fun _ M6 => Q r3 M6)) := fun ok =>
    c_settingOf H W ok.1 ok.2.1 (c_Hchange H W ok.1 ok.2.1 (h1 ok _ (by
      split
      · exact Fr.rf.up (by decide)
      · split
        · exact Fr.rf.up (by decide)
        · exact Fr.rf.up (by simp; omega)) (H.set ok.1)))
  refine ⟨fun e => h0 (fun q => by omega), fun e => c_mostOf ⟨fun e1 => ?_, fun e1 => h0 (fun q => e1 q.2.2.2)⟩⟩
  have hw : 0 ≤ w ∧ w ≤ 4 := by unfold moS at e1; omega
  refine ⟨fun e2 => fin ⟨hw, fun q => by omega, by omega, e1⟩, fun e2 => c_hasFlower ?_⟩
  rw [H.2.2.2.1]
  by_cases hf : 0 ≤ f ∧ f < h 0 3
  · rw [if_pos hf]
    exact ⟨fun e => by omega, fun _ => fin ⟨hw, fun _ => hf, by omega, e1⟩⟩
  · rw [if_neg hf]
    exact ⟨fun _ => h0 (fun q => hf (q.2.1 (by omega))), fun e => absurd rfl e⟩)
/-- a flower comes -/
def flH (h : Mem) (k m : Int) : Mem := up (up (up (up (up h 1 (h 0 3).toNat k) 2 (h 0 3).toNat m) 3 (h 0 3).toNat 0) 4 (h 0 3).toNat 10) 0 3 (h 0 3 + 1)
theorem flH_hd {M' : Mem} {k m : Int} (H : Hd h M) (h3 : 0 ≤ h 0 3 ∧ h 0 3 < 6) (e : M' = up (up (up (up (up M 2 (h 0 3).toNat k) 3 (h 0 3).toNat m) 4 (h 0 3).toNat 0) 5 (h 0 3).toNat 10) 1 3 (h 0 3 + 1)) : Hd (flH h k m) M' := by
  refine Hd.of (fun r k' hi => ?_)
  have e3 : flH h k m 0 3 = h 0 3 + 1 := up_same
  have e8 : flH h k m 0 8 = h 0 8 := by unfold flH; rw [up_ne (by omega), up_ne (by omega), up_ne (by omega), up_ne (by omega), up_ne (by omega)]
  unfold inR at hi
  rw [e3, e8] at hi
  rw [e]
  by_cases c1 : r = 0 ∧ k' = 3
  · obtain ⟨rfl, rfl⟩ := c1; rw [e3]; exact up_same
  by_cases c2 : (1 ≤ r ∧ r ≤ 4) ∧ k' = (h 0 3).toNat
  · obtain ⟨⟨c2, c3⟩, rfl⟩ := c2
    have : r = 1 ∨ r = 2 ∨ r = 3 ∨ r = 4 := by omega
    rcases this with q | q | q | q <;> subst q <;> simp [flH, up]
  · have hin : inR h r k' := ⟨hi.1, hi.2.1, fun a b => by have := hi.2.2.1 a b; omega, hi.2.2.2⟩
    unfold flH
    rw [up_ne (by omega), up_ne (by omega), up_ne (by omega), up_ne (by omega), up_ne (by omega), up_ne (by omega), up_ne (by omega), up_ne (by omega), up_ne (by omega), up_ne (by omega)]
    exact H.at hin
theorem flH_wf {k m : Int} (W : Wf h) (h6 : h 0 3 < 6) (hk : 0 ≤ k ∧ k ≤ 5) (hm : 0 ≤ m ∧ m ≤ 9) : Wf (flH h k m) := by
  obtain ⟨w1, w2, w3, w4, w5, w6⟩ := W
  have e0 : ∀ j, j ≠ 3 → flH h k m 0 j = h 0 j := fun j hj => by unfold flH; rw [up_ne (by omega), up_ne (by omega), up_ne (by omega), up_ne (by omega), up_ne (by omega)]
  have e3 : flH h k m 0 3 = h 0 3 + 1 := up_same
  refine ⟨by rw [e0 0 (by decide)]; exact w1, by rw [e0 1 (by decide)]; exact w2, by rw [e3]; omega, by rw [e0 8 (by decide)]; exact w4, fun i hi => ?_, fun s hs => ?_⟩
  · rw [e3] at hi
    by_cases c : i = (h 0 3).toNat
    · subst c; simp [flH, up]; omega
    · have := w5 i (by omega)
      simp [flH, up, c]; exact this
  · rw [e0 8 (by decide)] at hs
    have := w6 s hs
    rw [e3]
    simp [flH, up]; omega
abbrev okF (k m : Int) : Prop := (0 ≤ k ∧ k ≤ 5) ∧ (0 ≤ m ∧ m ≤ 9)
theorem c_isKind {k : Int} (hq : Q (if 0 ≤ k ∧ k ≤ 5 then 1 else 0) M) : Con (n + 1) md_X1_isKind [vI k] M Q := g_X1_isKind (by unfold B_X1_isKind; grind)
theorem c_addFlower {k m : Int} (H : Hd h M) (W : Wf h) (h0 : ¬ okF k m → Q (-2) M) (h1 : okF k m → ¬ h 0 3 < 6 → Q (-4) M) (h2 : okF k m → h 0 3 < 6 → ∀ M', Fr [1, 2, 3, 4, 5] M M' → Hd (flH h k m) M' → Q (h 0 3) M') : Con (n + 2) md_X0_addFlower [vR 1, vI k, vI m] M Q := g_X0_addFlower (by
  unfold B_X0_addFlower
  have h3 := W.2.2.1
  refine c_isKind ?_
  by_cases hk : 0 ≤ k ∧ k ≤ 5
  · rw [if_pos hk]
    refine ⟨fun e => by omega, fun _ => ⟨fun e => h0 (fun q => by omega), fun e => ⟨fun e1 => ?_, fun e1 => h0 (fun q => by omega)⟩⟩⟩
    rw [H.2.2.2.1]
    refine ⟨fun e2 => ⟨by omega, fun M3 h3' => ?_⟩, fun e2 => h1 ⟨hk, by omega⟩ e2⟩
    have a3 : M3 1 3 = h 0 3 := by rw [h3', up_ne (by omega)]; exact H.2.2.2.1
    rw [a3]
    refine ⟨by omega, fun M4 h4 => ?_⟩
    have a4 : M4 1 3 = h 0 3 := by rw [h4, up_ne (by omega)]; exact a3
    rw [a4]
    refine ⟨by omega, fun M5 h5 => ?_⟩
    have a5 : M5 1 3 = h 0 3 := by rw [h5, up_ne (by omega)]; exact a4
    rw [a5]
    refine ⟨by omega, fun M6 h6 M7 h7 => ?_⟩
    have a6 : M6 1 3 = h 0 3 := by rw [h6, up_ne (by omega)]; exact a5
    rw [a6, w32_id (by omega)] at h7
    have a7 : M7 1 3 = h 0 3 + 1 := by rw [h7, up_same]
    rw [a7, w32_id (by omega), show h 0 3 + 1 - 1 = h 0 3 by omega]
    refine h2 ⟨hk, by omega⟩ e2 M7 ?_ (flH_hd H (by omega) (by rw [h7, h6, h5, h4, h3']))
    rw [h7, h6, h5, h4, h3']
    exact ((((Fr.rf.up (by decide)).up (by decide)).up (by decide)).up (by decide)).up (by decide)
  · rw [if_neg hk]
    exact ⟨fun _ => h0 (fun q => hk q.1), fun e => absurd rfl e⟩)
theorem x_flower {k m : Int} (H : Hd h M) (W : Wf h) (h0 : ¬ okF k m → Q (-2) M) (h1 : okF k m → ¬ h 0 3 < 6 → Q (-4) M) (h2 : okF k m → h 0 3 < 6 → ∀ M', Fr [1, 2, 3, 4, 5] M M' → Hd (flH h k m) M' → Q (h 0 3) M') : Con (n + 3) md_X9_flower [vR 0, vI k, vI m] M Q := g_X9_flower (by
  unfold B_X9_flower; exact c_addFlower H W h0 h1 h2)
def tuH (τ : Int → Int → (Nat → Int) → Int) (h : Mem) (f : Int) : Int := tuV τ (h 0 2) (h 1 f.toNat) (evH h f)
def coH (τ : Int → Int → (Nat → Int) → Int) (h : Mem) (f : Int) : Int := coV τ (h 0 2) (h 1 f.toNat) (evH h f)
def lsH (τ : Int → Int → (Nat → Int) → Int) (h : Mem) (f : Int) : Int := laV τ (h 0 2) (h 1 f.toNat) (evH h f)
/-- told: the answer -/
def tlR (τ : Int → Int → (Nat → Int) → Int) (h : Mem) (f w : Int) : Int := if w = 0 ∨ w = 1 then geH h w f else if ¬ (0 ≤ w ∧ w ≤ 9) ∨ ¬ (0 ≤ f ∧ f < h 0 3) then -2 else if w < 5 then geH h w f else if w = 5 then h 1 f.toNat else if w = 6 then thH h f else if w = 7 then tuH τ h f else if w = 8 then coH τ h f else lsH τ h f
theorem x_told {f w : Int} (H : Hd h M) (W : Wf h) (TT : TC τ M) (hr : 0 ≤ h 0 2 ∧ h 0 2 < M 17 0) (hq : ∀ M', Fr sC M M' → Q (tlR τ h f w) M') : Con (n + 5) md_X9_told [vR 0, vI f, vI w] M Q := g_X9_told (by
  unfold B_X9_told
  have h3 := W.2.2.1
  unfold tlR at hq
  refine ⟨fun e => c_settingOf H W (by omega) (by omega) ?_, fun e0 => ⟨fun e => c_settingOf H W (by omega) (by omega) ?_, fun e1 => ⟨fun e => ?_, fun e2 => ⟨fun e => ?_, fun e3 => c_hasFlower ?_⟩⟩⟩⟩
  · rw [if_pos (by omega)] at hq; exact hq M Fr.rf
  · rw [if_pos (by omega)] at hq; exact hq M Fr.rf
  · rw [if_neg (by omega), if_pos (by omega)] at hq; exact hq M Fr.rf
  · rw [if_neg (by omega), if_pos (by omega)] at hq; exact hq M Fr.rf
  rw [H.2.2.2.1]
  rw [if_neg (by omega)] at hq
  by_cases hf : 0 ≤ f ∧ f < h 0 3
  · rw [if_pos hf]
    rw [if_neg (by omega)] at hq
    have hw := W.2.2.2.2.1 _ (toN hf)
    have ev2 : evH h f 2 = h 2 f.toNat := rfl
    refine ⟨fun e => by omega, fun _ => c_asNow H W hf (fun M6 hF6 hM6 => ?_)⟩
    have H6 := H.fr hF6 (by simp; omega)
    have T6 := TT.fr hF6 (by simp; omega)
    have r6 : 0 ≤ h 0 2 ∧ h 0 2 < M6 17 0 := by rw [hF6 17 0 (by decide)]; exact hr
    have s6 : Fr sC M M6 := hF6.mono (by decide)
    refine ⟨fun e => c_settingOf H6 W (by omega) (fun _ => hf) ?_, fun e => ⟨by omega, ?_⟩, fun e => c_Mthick hM6 hw.2.1 ?_, fun e => c_Mturns T6 hM6 r6 hw.1 (fun M' hF => ?_), fun e => c_Mcosts T6 hM6 r6 hw.1 hw.2.1 (fun M' hF => ?_), fun e => c_Mlasts T6 hM6 r6 hw.1 hw.2.1 (fun M' hF => ?_)⟩
    · rw [if_pos (by omega)] at hq; exact hq M6 s6
    · rw [if_neg (by omega), if_pos e] at hq; rw [(H6.2.2.2.2.2.1 _ (toN hf)).1]; exact hq M6 s6
    · rw [if_neg (by omega), if_neg (by omega), if_pos e] at hq; exact hq M6 s6
    · rw [if_neg (by omega), if_neg (by omega), if_neg (by omega), if_pos e] at hq; exact hq M' (s6.tr (hF.mono (by decide)))
    · rw [if_neg (by omega), if_neg (by omega), if_neg (by omega), if_neg (by omega), if_pos e] at hq; exact hq M' (s6.tr (hF.mono (by decide)))
    · rw [if_neg (by omega), if_neg (by omega), if_neg (by omega), if_neg (by omega), if_neg (by omega)] at hq; exact hq M' (s6.tr (hF.mono (by decide)))
  · rw [if_neg hf]
    rw [if_pos (by omega)] at hq
    exact ⟨fun _ => hq M Fr.rf, fun e => absurd rfl e⟩)
theorem x_force {t : Int} (H : Hd h M) (h0 : ¬ (0 ≤ t ∧ t < M 17 0) → Q (-2) M) (h1 : (0 ≤ t ∧ t < M 17 0) → ∀ M', Fr [1] M M' → Hd (up h 0 2 t) M' → Q (h 0 2) M') : Con (n + 2) md_X9_force [vR 0, vI t] M Q := g_X9_force (by
  unfold B_X9_force
  refine c_has ?_
  by_cases ht : 0 ≤ t ∧ t < M 17 0
  · rw [if_pos ht, H.2.2.1]
    exact ⟨fun e => by omega, fun _ M3 h3 => h1 ht M3 (by rw [h3]; exact Fr.rf.up (by decide)) (by rw [h3]; exact H.up1 (by decide) (by decide))⟩
  · rw [if_neg ht]
    exact ⟨fun _ => h0 ht, fun e => absurd rfl e⟩)
theorem adH_hd {M' : Mem} {f a : Int} (H : Hd h M) (W : Wf h) (hf : 0 ≤ f ∧ f < h 0 3) (e : M' = up (up (up (up M 6 (h 0 8).toNat f) 7 (h 0 8).toNat a) 1 8 (h 0 8 + 1)) 5 f.toNat (h 4 f.toNat - 1)) : Hd (adH h f a) M' := by
  have h8 := W.2.2.2.1
  refine Hd.of (fun r k' hi => ?_)
  unfold inR at hi
  rw [adH_0 (k := 3) (by decide), adH_n] at hi
  rw [e]
  by_cases c1 : r = 0 ∧ k' = 8
  · obtain ⟨rfl, rfl⟩ := c1; rw [adH_n, up_ne (by omega)]; exact up_same
  by_cases c2 : r = 4 ∧ k' = f.toNat
  · obtain ⟨rfl, rfl⟩ := c2; rw [adH_4s]; exact up_same
  by_cases c3 : r = 5 ∧ k' = (h 0 8).toNat
  · obtain ⟨rfl, rfl⟩ := c3; rw [adH_5s, up_ne (by omega), up_ne (by omega), up_ne (by omega)]; exact up_same
  by_cases c4 : r = 6 ∧ k' = (h 0 8).toNat
  · obtain ⟨rfl, rfl⟩ := c4; rw [adH_6s, up_ne (by omega), up_ne (by omega)]; exact up_same
  have hin : inR h r k' := ⟨hi.1, hi.2.1, hi.2.2.1, fun q => by have := hi.2.2.2 q; omega⟩
  unfold adH
  rw [up_ne (by omega), up_ne (by omega), up_ne (by omega), up_ne (by omega), up_ne (by omega), up_ne (by omega), up_ne (by omega), up_ne (by omega)]
  exact H.at hin
theorem c_addStem {f a : Int} (H : Hd h M) (W : Wf h) (hf : 0 ≤ f ∧ f < h 0 3) (hn : h 0 8 < 40) (hb : 1 ≤ h 4 f.toNat) (hq : ∀ M', Fr [1, 5, 6, 7] M M' → Hd (adH h f a) M' → Q 0 M') : Con (n + 2) md_X0_addStem [vR 1, vI f, vI a] M Q := g_X0_addStem (by
  unfold B_X0_addStem
  have h3 := W.2.2.1
  have h8 := W.2.2.2.1
  have hw := W.2.2.2.2.1 _ (toN hf)
  rw [H.2.2.2.2.1]
  refine ⟨fun e => by omega, fun _ => c_hasFlower ?_⟩
  rw [H.2.2.2.1, if_pos hf, H.2.2.2.2.1]
  refine ⟨fun e => by omega, fun _ => ⟨by omega, fun M3 h3' => ?_⟩⟩
  have a3 : M3 1 8 = h 0 8 := by rw [h3', up_ne (by omega)]; exact H.2.2.2.2.1
  rw [a3]
  refine ⟨by omega, fun M4 h4 M5 h5 => ⟨by omega, by omega, fun M6 h6 => ?_⟩⟩
  have a4 : M4 1 8 = h 0 8 := by rw [h4, up_ne (by omega)]; exact a3
  rw [a4, w32_id (by omega)] at h5
  have a5 : M5 5 f.toNat = h 4 f.toNat := by rw [h5, up_ne (by omega), h4, up_ne (by omega), h3', up_ne (by omega)]; exact (H.2.2.2.2.2.1 _ (toN hf)).2.2.2
  rw [a5, w32_id (by omega)] at h6
  refine hq M6 ?_ (adH_hd H W hf (by rw [h6, h5, h4, h3']))
  rw [h6, h5, h4, h3']
  exact (((Fr.rf.up (by decide)).up (by decide)).up (by decide)).up (by decide))
theorem x_lay {f : Int} (H : Hd h M) (W : Wf h) (TT : TC τ M) (hr : 0 ≤ h 0 2 ∧ h 0 2 < M 17 0) (h0 : ¬ (0 ≤ f ∧ f < h 0 3) → Q (-2) M) (h1 : (0 ≤ f ∧ f < h 0 3) → h 4 f.toNat < 1 → Q (-3) M) (h2 : (0 ≤ f ∧ f < h 0 3) → 1 ≤ h 4 f.toNat → ¬ caH h f → ∀ M', Fr sC M M' → Q (-4) M')
    (h4 : (0 ≤ f ∧ f < h 0 3) → caH h f → ∀ M', Fr (1 :: 5 :: 6 :: 7 :: sC) M M' → Hd (puH τ h f) M' → Q (anH τ h f) M') : Con (n + 5) md_X9_lay [vR 0, vI f] M Q := g_X9_lay (by
  unfold B_X9_lay
  have h3 := W.2.2.1
  refine c_hasFlower ?_
  rw [H.2.2.2.1]
  by_cases hf : 0 ≤ f ∧ f < h 0 3
  · rw [if_pos hf, (H.2.2.2.2.2.1 _ (toN hf)).2.2.2]
    refine ⟨fun e => by omega, fun _ => ⟨by omega, fun e1 => c_Tstart H W (fun M4 hF4 T4 => ?_), fun e1 => h1 hf (by omega)⟩⟩
    have H4 := H.fr hF4 (by simp; omega)
    refine c_canBe H4 W Ext.rf T4 hf ?_
    by_cases hc : caH h f
    · rw [if_pos hc]
      refine ⟨fun e => by omega, fun _ => c_angleOf H4 W Ext.rf W (TT.fr hF4 (by simp; omega)) (by rw [hF4 17 0 (by decide)]; exact hr) T4 hf (fun M8 hF8 => ?_)⟩
      have hF : Fr sC M M8 := (hF4.mono (by decide)).tr (hF8.mono (by decide))
      exact c_addStem (H.fr hF sC7) W hf hc.2.1 hc.1 (fun M' hF' H' => h4 hf hc M' ((hF.mono (by decide)).tr (hF'.mono (by decide))) H')
    · rw [if_neg hc]
      exact ⟨fun _ => h2 hf e1 hc M4 (hF4.mono (by decide)), fun e => absurd rfl e⟩
  · rw [if_neg hf]
    exact ⟨fun _ => h0 hf, fun e => absurd rfl e⟩)
/-- a stem is drawn out -/
def drH (h : Mem) (s : Nat) : Mem := fun r k => if r = 0 ∧ k = 8 then h 0 8 - 1 else if r = 5 ∨ r = 6 then (if k < s then h r k else h r (k + 1)) else if r = 4 ∧ k = (h 5 s).toNat then min 40 (h 4 k + 1) else h r k
theorem drH_wf {s : Nat} (W : Wf h) (hs : (s : Int) < h 0 8) : Wf (drH h s) := by
  obtain ⟨w1, w2, w3, w4, w5, w6⟩ := W
  refine ⟨w1, w2, w3, by show 0 ≤ h 0 8 - 1 ∧ h 0 8 - 1 ≤ 40; omega, fun i hi => ?_, fun k hk => ?_⟩
  · have := w5 i hi
    refine ⟨this.1, this.2.1, this.2.2.1, ?_⟩
    show 0 ≤ (if 4 = 4 ∧ i = (h 5 s).toNat then min 40 (h 4 i + 1) else h 4 i) ∧ (if 4 = 4 ∧ i = (h 5 s).toNat then min 40 (h 4 i + 1) else h 4 i) ≤ 40
    split <;> omega
  · have hk : (k : Int) < h 0 8 - 1 := hk
    show (0 ≤ (if k < s then h 5 k else h 5 (k + 1)) ∧ (if k < s then h 5 k else h 5 (k + 1)) < h 0 3) ∧ (0 ≤ (if k < s then h 6 k else h 6 (k + 1)) ∧ (if k < s then h 6 k else h 6 (k + 1)) ≤ 15)
    split
    · exact w6 k (by omega)
    · exact w6 (k + 1) (by omega)
theorem x_draw {s : Int} (H : Hd h M) (W : Wf h) (h0 : ¬ (0 ≤ s ∧ s < h 0 8) → Q (-2) M) (h1 : (0 ≤ s ∧ s < h 0 8) → ∀ M', Fr [1, 5, 6, 7] M M' → Hd (drH h s.toNat) M' → Q (h 5 s.toNat) M') : Con (n + 3) md_X9_draw [vR 0, vI s] M Q := g_X9_draw (by
  unfold B_X9_draw
  have h3 := W.2.2.1
  have h8 := W.2.2.2.1
  refine c_hasStem ?_
  rw [H.2.2.2.2.1]
  by_cases hs : 0 ≤ s ∧ s < h 0 8
  · rw [if_pos hs]
    refine ⟨fun e => by omega, fun _ => g_X0_removeStem (fun K hK => ?_)⟩
    unfold B_X0_removeStem
    refine c_hasStem ?_
    rw [H.2.2.2.2.1, if_pos hs]
    refine ⟨fun e => by omega, fun _ => ⟨by omega, ?_⟩⟩
    have hst := W.2.2.2.2.2 s.toNat (by omega)
    have hfl := W.2.2.2.2.1 _ (toN hst.1)
    rw [(H.2.2.2.2.2.2 s.toNat (by omega)).1]
    have key := loopUp (P := fun i => s.toNat ≤ i → ∀ M' : Mem, Fr [6, 7] M M' → (∀ k, k < i → M' 6 k = (if k < s.toNat then M 6 k else M 6 (k + 1)) ∧ M' 7 k = (if k < s.toNat then M 7 k else M 7 (k + 1))) → (∀ k, i ≤ k → M' 6 k = M 6 k ∧ M' 7 k = M 7 k) → K (h 5 s.toNat) (i : Int) M') (h 0 8 - 1).toNat ?_ ?_ s.toNat (by omega) (Nat.le_refl _) M Fr.rf (fun k hk => ⟨by rw [if_pos hk], by rw [if_pos hk]⟩) (fun k hk => ⟨rfl, rfl⟩)
    · rw [show ((s.toNat : Nat) : Int) = s by omega] at key
      exact key
    · intro _ M' hF hlo hhi
      apply hK
      unfold B_X0_removeStem_20
      have a8 : M' 1 8 = h 0 8 := (hF 1 8 (by decide)).trans H.2.2.2.2.1
      rw [a8, w32_id (x := h 0 8 - 1) (by omega)]
      refine ⟨fun _ M1 e1 => c_hasFlower ?_, fun e => absurd (show h 0 8 - 1 ≤ (((h 0 8 - 1).toNat : Nat) : Int) by omega) e⟩
      have a3 : M1 1 3 = h 0 3 := by rw [e1, up_ne (by omega), hF 1 3 (by decide)]; exact H.2.2.2.1
      rw [a3, if_pos hst.1]
      refine ⟨fun e => by omega, fun _ => ⟨by omega, c_min ⟨by omega, fun M6 h6 => ?_⟩⟩⟩
      have a5 : ∀ i : Nat, M1 5 i = M 5 i := fun i => by rw [e1, up_ne (by omega), hF 5 i (by decide)]
      have b5 := (H.2.2.2.2.2.1 _ (toN hst.1)).2.2.2
      rw [a5, b5, w32_id (by omega)] at h6
      refine h1 hs M6 ?_ (Hd.of (fun r k hi => ?_))
      · rw [h6, e1]
        exact (((hF.mono (by decide)).up (by decide)).up (by decide))
      · have i3 : drH h s.toNat 0 3 = h 0 3 := rfl
        have i8 : drH h s.toNat 0 8 = h 0 8 - 1 := rfl
        unfold inR at hi
        rw [i3, i8] at hi
        obtain ⟨j1, j2, j3, j4⟩ := hi
        have hM : ∀ o q : Nat, ¬ (o = 5 ∧ q = (h 5 s.toNat).toNat) → ¬ (o = 1 ∧ q = 8) → M6 o q = M' o q := fun o q q1 q2 => by rw [h6, up_ne (by omega), e1, up_ne (by omega)]
        unfold drH
        split
        · rename_i c; obtain ⟨rfl, rfl⟩ := c
          rw [h6, up_ne (by omega), e1]; exact up_same
        · rename_i c1
          split
          · rename_i c2
            have hk := j4 (by omega)
            have hl := hlo k (by omega)
            have g1 := H.2.2.2.2.2.2 k (by omega)
            have g2 := H.2.2.2.2.2.2 (k + 1) (by omega)
            rcases c2 with rfl | rfl
            · rw [hM 6 k (by omega) (by omega), hl.1]; split
              · exact g1.1
              · exact g2.1
            · rw [hM 7 k (by omega) (by omega), hl.2]; split
              · exact g1.2
              · exact g2.2
          · rename_i c2
            split
            · rename_i c3
              obtain ⟨rfl, rfl⟩ := c3
              rw [h6]; exact up_same
            · rename_i c3
              rw [hM (1 + r) k (by omega) (by omega), hF (1 + r) k (by simp; omega)]
              exact H.at ⟨j1, j2, j3, by omega⟩
    · intro i hi ih hsi M' hF hlo hhi
      apply hK
      unfold B_X0_removeStem_20
      have a8 : M' 1 8 = h 0 8 := (hF 1 8 (by decide)).trans H.2.2.2.2.1
      rw [a8, w32_id (x := h 0 8 - 1) (by omega), w32_id (x := (i : Int) + 1) (by omega), show ((i : Int) + 1).toNat = i + 1 by omega, show (i : Int).toNat = i from rfl]
      refine ⟨fun e => by omega, fun _ => ⟨by omega, by omega, fun M7 h7 => ⟨by omega, by omega, fun M8 h8' => ?_⟩⟩⟩
      have hi1 := hhi (i + 1) (by omega)
      rw [hi1.1] at h7
      have e7 : M7 7 (i + 1) = M 7 (i + 1) := by rw [h7, up_ne (by omega)]; exact hi1.2
      rw [e7] at h8'
      have g6 : ∀ k, M8 6 k = if k = i then M 6 (i + 1) else M' 6 k := fun k => by
        rw [h8', up_ne (by omega), h7]
        by_cases hk : k = i
        · subst hk; rw [up_same, if_pos rfl]
        · rw [up_ne (by omega), if_neg hk]
      have g7 : ∀ k, M8 7 k = if k = i then M 7 (i + 1) else M' 7 k := fun k => by
        rw [h8']
        by_cases hk : k = i
        · subst hk; rw [up_same, if_pos rfl]
        · rw [up_ne (by omega), if_neg hk, h7, up_ne (by omega)]
      refine ih (by omega) M8 (by rw [h8', h7]; exact (hF.up (by decide)).up (by decide)) (fun k hk => ?_) (fun k hk => ?_)
      · rw [g6, g7]
        by_cases hki : k = i
        · subst hki; rw [if_pos rfl, if_pos rfl, if_neg (by omega), if_neg (by omega)]; exact ⟨rfl, rfl⟩
        · rw [if_neg hki, if_neg hki]; exact hlo k (by omega)
      · rw [g6, g7, if_neg (by omega), if_neg (by omega)]; exact hhi k (by omega)
  · rw [if_neg hs]
    exact ⟨fun _ => h0 hs, fun e => absurd rfl e⟩)
def stR (h : Mem) (s w : Int) : Int := if (0 ≤ s ∧ s < h 0 8) ∧ 0 ≤ w ∧ w ≤ 1 then (if w = 0 then h 5 s.toNat else h 6 s.toNat) else -2
theorem x_stem {s w : Int} (H : Hd h M) (W : Wf h) (hq : Q (stR h s w) M) : Con (n + 2) md_X9_stem [vR 0, vI s, vI w] M Q := g_X9_stem (by
  unfold B_X9_stem
  have h8 := W.2.2.2.1
  unfold stR at hq
  refine c_hasStem ?_
  rw [H.2.2.2.2.1]
  by_cases hs : 0 ≤ s ∧ s < h 0 8
  · rw [if_pos hs]
    have g := H.2.2.2.2.2.2 s.toNat (by omega)
    rw [g.1, g.2]
    refine ⟨fun e => by omega, fun _ => ⟨fun e => ?_, fun e => ⟨fun e1 => ⟨fun e2 => ⟨by omega, ?_⟩, fun e2 => ⟨by omega, ?_⟩⟩, fun e1 => ?_⟩⟩⟩
    · rw [if_neg (by omega)] at hq; exact hq
    · rw [if_pos (by omega), if_pos e2] at hq; exact hq
    · rw [if_pos (by omega), if_neg e2] at hq; exact hq
    · rw [if_neg (by omega)] at hq; exact hq
  · rw [if_neg hs]
    rw [if_neg (by omega)] at hq
    exact ⟨fun _ => hq, fun e => absurd rfl e⟩)
end XH
