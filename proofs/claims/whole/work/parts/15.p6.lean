/-! TO LAY IN THOUGHT -/
def Ext (h0 h : Mem) : Prop := (∀ k, k < 8 → h 0 k = h0 0 k) ∧ h 1 = h0 1 ∧ h 2 = h0 2 ∧ h 3 = h0 3
theorem Ext.rf {h : Mem} : Ext h h := ⟨fun _ _ => rfl, rfl, rfl, rfl⟩
theorem Ext.th {h0 h : Mem} (E : Ext h0 h) (f : Int) : thH h f = thH h0 f := by unfold thH; rw [E.2.1, E.2.2.1]
def evH (h : Mem) (f : Int) : Nat → Int := en (h 0 8) (h 3 f.toNat) (h 2 f.toNat) (laH h) (h 4 f.toNat) (rmH h)
def anH (τ : Int → Int → (Nat → Int) → Int) (h : Mem) (f : Int) : Int := (laH h + tuV τ (h 0 2) (h 1 f.toNat) (evH h f)) % 16
theorem anH_b (τ : Int → Int → (Nat → Int) → Int) (h : Mem) (f : Int) : 0 ≤ anH τ h f ∧ anH τ h f ≤ 15 := by unfold anH; omega
abbrev caH (h : Mem) (f : Int) : Prop := 1 ≤ h 4 f.toNat ∧ h 0 8 < 40 ∧ thH h f ≤ rmH h
/-- one stem more -/
def adH (h : Mem) (f a : Int) : Mem := up (up (up (up h 4 f.toNat (h 4 f.toNat - 1)) 5 (h 0 8).toNat f) 6 (h 0 8).toNat a) 0 8 (h 0 8 + 1)
def puH (τ : Int → Int → (Nat → Int) → Int) (h : Mem) (f : Int) : Mem := adH h f (anH τ h f)
section AD
variable {h : Mem} {f a : Int}
theorem adH_n : adH h f a 0 8 = h 0 8 + 1 := by unfold adH; exact up_same
theorem adH_0 {k : Nat} (hk : k ≠ 8) : adH h f a 0 k = h 0 k := by
  unfold adH; rw [up_ne (Or.inr hk), up_ne (Or.inl (by decide)), up_ne (Or.inl (by decide)), up_ne (Or.inl (by decide))]
theorem adH_1 : adH h f a 1 = h 1 := by funext k; unfold adH; rw [up_ne (Or.inl (by decide)), up_ne (Or.inl (by decide)), up_ne (Or.inl (by decide)), up_ne (Or.inl (by decide))]
theorem adH_2 : adH h f a 2 = h 2 := by funext k; unfold adH; rw [up_ne (Or.inl (by decide)), up_ne (Or.inl (by decide)), up_ne (Or.inl (by decide)), up_ne (Or.inl (by decide))]
theorem adH_3 : adH h f a 3 = h 3 := by funext k; unfold adH; rw [up_ne (Or.inl (by decide)), up_ne (Or.inl (by decide)), up_ne (Or.inl (by decide)), up_ne (Or.inl (by decide))]
theorem adH_4s : adH h f a 4 f.toNat = h 4 f.toNat - 1 := by unfold adH; rw [up_ne (Or.inl (by decide)), up_ne (Or.inl (by decide)), up_ne (Or.inl (by decide)), up_same]
theorem adH_4n {k : Nat} (hk : k ≠ f.toNat) : adH h f a 4 k = h 4 k := by unfold adH; rw [up_ne (Or.inl (by decide)), up_ne (Or.inl (by decide)), up_ne (Or.inl (by decide)), up_ne (Or.inr hk)]
theorem adH_5s : adH h f a 5 (h 0 8).toNat = f := by unfold adH; rw [up_ne (Or.inl (by decide)), up_ne (Or.inl (by decide)), up_same]
theorem adH_5n {k : Nat} (hk : k ≠ (h 0 8).toNat) : adH h f a 5 k = h 5 k := by unfold adH; rw [up_ne (Or.inl (by decide)), up_ne (Or.inl (by decide)), up_ne (Or.inr hk), up_ne (Or.inl (by decide))]
theorem adH_6s : adH h f a 6 (h 0 8).toNat = a := by unfold adH; rw [up_ne (Or.inl (by decide)), up_same]
theorem adH_6n {k : Nat} (hk : k ≠ (h 0 8).toNat) : adH h f a 6 k = h 6 k := by unfold adH; rw [up_ne (Or.inl (by decide)), up_ne (Or.inr hk), up_ne (Or.inl (by decide)), up_ne (Or.inl (by decide))]
theorem adH_th (g : Int) : thH (adH h f a) g = thH h g := by unfold thH; rw [adH_1, adH_2]
theorem adH_rmS : ∀ s : Nat, s ≤ (h 0 8).toNat → rmS (adH h f a) s = rmS h s
  | 0, _ => adH_0 (by decide)
  | s + 1, hs => by unfold rmS; rw [adH_rmS s (by omega), adH_th, adH_5n (by omega)]
theorem adH_la (h0 : 0 ≤ h 0 8) : laH (adH h f a) = a := by
  unfold laH; rw [adH_n, if_pos (by omega), show (h 0 8 + 1 - 1).toNat = (h 0 8).toNat by omega, adH_6s]
theorem adH_rm (h0 : 0 ≤ h 0 8) : rmH (adH h f a) = rmH h - thH h f := by
  unfold rmH; rw [adH_n, show (h 0 8 + 1).toNat = (h 0 8).toNat + 1 by omega]
  show rmS (adH h f a) (h 0 8).toNat - thH (adH h f a) (adH h f a 5 (h 0 8).toNat) = _
  rw [adH_rmS _ (Nat.le_refl _), adH_th, adH_5s]
theorem adH_coS {s : Nat} (hs : s < (h 0 8).toNat) : coS (adH h f a) s = coS h s := by unfold coS; rw [adH_3, adH_5n (by omega)]
theorem adH_coSn : coS (adH h f a) (h 0 8).toNat = h 3 f.toNat := by unfold coS; rw [adH_3, adH_5s]
theorem adH_lyS {m : Nat} (hm : m ≤ (h 0 8).toNat) (c b : Int) : lyS (adH h f a) m c b = lyS h m c b := by
  unfold lyS; apply sm_congr; intro s hs; rw [adH_coS (by omega), adH_6n (by omega)]
theorem adH_nbS {m : Nat} (hm : m ≤ (h 0 8).toNat) (c b : Int) : nbS (adH h f a) m c b = nbS h m c b := by
  unfold nbS; rw [adH_lyS hm, adH_lyS hm, adH_lyS hm]
theorem adH_tcS : ∀ s : Nat, s ≤ (h 0 8).toNat → tcS (adH h f a) s = tcS h s
  | 0, _ => rfl
  | s + 1, hs => by unfold tcS; rw [adH_tcS s (by omega), adH_coS (by omega), adH_6n (by omega), adH_nbS (by omega)]
theorem adH_tc (h0 : 0 ≤ h 0 8) : tcH (adH h f a) = tcH h + nbS h (h 0 8).toNat (h 3 f.toNat) a := by
  unfold tcH; rw [adH_n, show (h 0 8 + 1).toNat = (h 0 8).toNat + 1 by omega]
  show tcS (adH h f a) (h 0 8).toNat + nbS (adH h f a) (h 0 8).toNat (coS (adH h f a) (h 0 8).toNat) (adH h f a 6 (h 0 8).toNat) = _
  rw [adH_tcS _ (Nat.le_refl _), adH_coSn, adH_6s, adH_nbS (Nat.le_refl _)]
theorem adH_wf (W : Wf h) (hf : 0 ≤ f ∧ f < h 0 3) (ha : 0 ≤ a ∧ a ≤ 15) (hb : 1 ≤ h 4 f.toNat) (hn : h 0 8 < 40) : Wf (adH h f a) := by
  obtain ⟨w1, w2, w3, w4, w5, w6⟩ := W
  refine ⟨by rw [adH_0 (by decide)]; exact w1, by rw [adH_0 (by decide)]; exact w2, by rw [adH_0 (by decide)]; exact w3, by rw [adH_n]; omega, fun i hi => ?_, fun s hs => ?_⟩
  · rw [adH_0 (by decide)] at hi
    have := w5 i hi
    rw [adH_1, adH_2, adH_3]
    by_cases hif : i = f.toNat
    · subst hif; rw [adH_4s]; omega
    · rw [adH_4n hif]; exact this
  · rw [adH_n] at hs
    rw [adH_0 (k := 3) (by decide)]
    by_cases hsn : s = (h 0 8).toNat
    · subst hsn; rw [adH_5s, adH_6s]; exact ⟨hf, ha⟩
    · rw [adH_5n hsn, adH_6n hsn]; exact w6 s (by omega)
theorem adH_ext {h0 : Mem} (E : Ext h0 h) : Ext h0 (adH h f a) := ⟨fun k hk => by rw [adH_0 (by omega)]; exact E.1 k hk, by rw [adH_1]; exact E.2.1, by rw [adH_2]; exact E.2.2.1, by rw [adH_3]; exact E.2.2.2⟩
end AD
theorem Tr.fr {h M M' : Mem} {S : List Nat} (T : Tr h M) (hf : Fr S M M') (h1 : 38 ∉ S) (h2 : 39 ∉ S) (h3 : 40 ∉ S) : Tr h M' :=
  ⟨(hf _ _ h1).trans T.1, (hf _ _ h1).trans T.2.1, (hf _ _ h1).trans T.2.2.1, (hf _ _ h1).trans T.2.2.2.1, fun i hi => (hf _ _ h2).trans (T.2.2.2.2.1 i hi), T.2.2.2.2.2.fr (fun k => hf _ _ h3)⟩
section TRIAL
variable {n : Nat} {τ : Int → Int → (Nat → Int) → Int} {h0 h M : Mem} {f : Int} {Q : Int → Mem → Prop}
theorem c_canBe (H : Hd h0 M) (W0 : Wf h0) (E : Ext h0 h) (T : Tr h M) (hf : 0 ≤ f ∧ f < h0 0 3) (hq : Q (if caH h f then 1 else 0) M) : Con (n + 3) md_X8_canBe [vR 38, vI f] M Q := g_X8_canBe (by
  unfold B_X8_canBe
  have h6 := W0.2.2.1
  have e3 := E.1 3 (by decide)
  refine c_hasFlower ?_
  rw [H.2.2.2.1, if_pos hf]
  refine ⟨fun e => by omega, fun _ => ⟨by omega, ?_⟩⟩
  rw [T.2.2.2.2.1 f.toNat (by omega), T.1]
  refine ⟨fun e => ?_, fun e1 => ⟨fun e => ?_, fun e2 => c_thickOf H W0 hf ?_⟩⟩
  · rw [if_neg (by rintro ⟨q, -, -⟩; omega)] at hq; exact hq
  · rw [if_neg (by rintro ⟨-, q, -⟩; omega)] at hq; exact hq
  · rw [T.2.2.1, ← E.th]
    refine ⟨fun e => ?_, fun e3 => ?_⟩
    · rw [if_neg (by rintro ⟨-, -, q⟩; omega)] at hq; exact hq
    · rw [if_pos ⟨by omega, by omega, by omega⟩] at hq; exact hq)
theorem c_angleOf (H : Hd h0 M) (W0 : Wf h0) (E : Ext h0 h) (W : Wf h) (TT : TC τ M) (hr : 0 ≤ h0 0 2 ∧ h0 0 2 < M 17 0) (T : Tr h M) (hf : 0 ≤ f ∧ f < h0 0 3) (hq : ∀ M', Fr [32, 36, 37] M M' → Q (anH τ h f) M') : Con (n + 4) md_X8_angleOf [vR 38, vI f] M Q := g_X8_angleOf (by
  unfold B_X8_angleOf
  have h6 := W0.2.2.1
  have e3 := E.1 3 (by decide)
  refine c_hasFlower ?_
  rw [H.2.2.2.1, if_pos hf]
  refine ⟨fun e => by omega, fun _ => c_inEmptyHand H W0 hf (fun M4 hF4 hM4 => ⟨by omega, ?_⟩)⟩
  have T4 := T.fr hF4 (by decide) (by decide) (by decide)
  rw [T4.1, T4.2.1, T4.2.2.2.2.1 f.toNat (by omega), T4.2.2.1]
  refine c_asThought hM4 (fun M6 hF6 hM6 => ?_)
  have hF46 : Fr [32, 36, 37] M M6 := (hF4.tr hF6).mono (by decide)
  have hw := W0.2.2.2.2.1 _ (toN hf)
  refine c_Mturns (TT.fr hF46 (by simp; omega)) hM6 (by rw [hF46 17 0 (by decide)]; exact hr) hw.1 (fun M8 hF8 => ?_)
  have T6 := T4.fr hF6 (by decide) (by decide) (by decide)
  rw [T6.2.1]
  have hla := laH_b W
  have htu := tuV_b τ (h0 0 2) (h0 1 f.toNat) (en (h 0 8) (h0 3 f.toNat) (h0 2 f.toNat) (laH h) (h 4 f.toNat) (rmH h))
  refine c_turned (by omega) (by omega) ?_
  have := hq M8 (hF46.tr (hF8.mono (by decide)))
  unfold anH evH at this
  rw [E.1 2 (by decide), E.2.1, E.2.2.1, E.2.2.2] at this
  exact this)
theorem c_touchingWith (H : Hd h0 M) (W0 : Wf h0) (E : Ext h0 h) (W : Wf h) (TT : TC τ M) (hr : 0 ≤ h0 0 2 ∧ h0 0 2 < M 17 0) (T : Tr h M) (hf : 0 ≤ f ∧ f < h0 0 3) (hq : ∀ M', Fr [32, 36, 37] M M' → Q (tcH h + nbS h (h 0 8).toNat (h 3 f.toNat) (anH τ h f)) M') : Con (n + 5) md_X8_touchingWith [vR 38, vI f] M Q := g_X8_touchingWith (by
  unfold B_X8_touchingWith
  have hw := W0.2.2.2.2.1 _ (toN hf)
  have h8 := W.2.2.2.1
  refine c_colourOf H W0 hf (c_angleOf H W0 E W TT hr T hf (fun M4 hF4 => ?_))
  have T4 := T.fr hF4 (by decide) (by decide) (by decide)
  have han := anH_b τ h f
  refine c_neighbours T4.2.2.2.2.2 (by omega) hw.2.2.1 (by omega) ?_
  have h1 := tcH_b W
  have h2 := nbS_b h (h 0 8).toNat (h0 3 f.toNat) (anH τ h f)
  rw [T.2.2.2.1, w32_id (by omega), ← E.2.2.2]
  exact hq M4 hF4)
theorem c_put (H : Hd h0 M) (W0 : Wf h0) (E : Ext h0 h) (W : Wf h) (TT : TC τ M) (hr : 0 ≤ h0 0 2 ∧ h0 0 2 < M 17 0) (T : Tr h M) (hf : 0 ≤ f ∧ f < h0 0 3) (hc : caH h f) (hq : ∀ M', Fr [32, 36, 37, 38, 39, 40] M M' → Tr (puH τ h f) M' → Q 0 M') : Con (n + 5) md_X8_put [vR 38, vI f] M Q := g_X8_put (by
  unfold B_X8_put
  have h6 := W0.2.2.1
  have h8 := W.2.2.2.1
  have hw := W0.2.2.2.2.1 _ (toN hf)
  have e3 := E.1 3 (by decide)
  have hw' := W.2.2.2.2.1 f.toNat (by omega)
  have f7 : ∀ o : Nat, 1 ≤ o → o ≤ 7 → o ∉ [32, 36, 37, 38, 39, 40] := by simp; omega
  have han := anH_b τ h f
  refine c_hasFlower ?_
  rw [H.2.2.2.1, if_pos hf]
  refine ⟨fun e => by omega, fun _ => c_angleOf H W0 E W TT hr T hf (fun M4 hF4 M5 h5 => ?_)⟩
  have T4 := T.fr hF4 (by decide) (by decide) (by decide)
  have hF5 : Fr [32, 36, 37, 38, 39, 40] M M5 := by rw [h5]; exact (hF4.mono (by decide)).up (by decide)
  refine c_colourOf (H.fr hF5 f7) W0 hf ?_
  have e5 : M5 38 5 = anH τ h f := by rw [h5, up_same]
  have L5 : Ly h M5 (h 0 8).toNat := T4.2.2.2.2.2.fr (fun k => by rw [h5]; exact up_ne (Or.inl (by decide)))
  rw [e5]
  refine c_neighbours L5 (by omega) hw.2.2.1 (by omega) (fun M10 h10 => ?_)
  have h1 := tcH_b W
  have h2 := nbS_b h (h 0 8).toNat (h0 3 f.toNat) (anH τ h f)
  rw [show M5 38 7 = tcH h by rw [h5, up_ne (Or.inr (by decide))]; exact T4.2.2.2.1, w32_id (by omega)] at h10
  have hF10 : Fr [32, 36, 37, 38, 39, 40] M M10 := by rw [h10]; exact hF5.up (by decide)
  refine c_colourOf (H.fr hF10 f7) W0 hf ?_
  have L10 : Ly h M10 (h 0 8).toNat := L5.fr (fun k => by rw [h10]; exact up_ne (Or.inl (by decide)))
  have e10 : M10 38 5 = anH τ h f := by rw [h10, up_ne (Or.inr (by decide))]; exact e5
  rw [e10]
  have hly := lyS_b h (h 0 8).toNat (h0 3 f.toNat) (anH τ h f)
  have he : M10 40 (h0 3 f.toNat * 16 + anH τ h f).toNat = lyS h (h 0 8).toNat (h0 3 f.toNat) (anH τ h f) := L10 _ _ hw.2.2.1.1 hw.2.2.1.2 han.1 han.2
  refine c_change hw.2.2.1 han (by decide) (by rw [he]; omega) (fun M15 h15 => ⟨by omega, by omega, fun M16 h16 => ?_⟩)
  have hF15 : Fr [32, 36, 37, 38, 39, 40] M M15 := by rw [h15]; exact (hF10.up (by decide)).up (by decide)
  have hF16 : Fr [32, 36, 37, 38, 39, 40] M M16 := by rw [h16]; exact hF15.up (by decide)
  refine c_thickOf (H.fr hF16 f7) W0 hf (fun M19 h19 => hq M19 (by rw [h19]; exact hF16.up (by decide)) ?_)
  have hrm := rmH_b W
  have hth := thH_b W0 hf
  have q4 : M4 38 4 = h 0 8 := T4.1
  have q6 : M4 38 6 = rmH h := T4.2.2.1
  have hcs : coS (puH τ h f) (h 0 8).toNat = h0 3 f.toNat := by unfold puH; rw [adH_coSn, E.2.2.2]
  have h6s : puH τ h f 6 (h 0 8).toNat = anH τ h f := adH_6s
  refine ⟨?_, ?_, ?_, ?_, fun i hi => ?_, ?_⟩
  · rw [h19, up_ne (Or.inr (by decide)), h16, up_ne (Or.inl (by decide)), h15, up_same, up_ne (Or.inl (by decide)), h10, up_ne (Or.inr (by decide)), h5, up_ne (Or.inr (by decide)), q4, w32_id (by omega)]; exact adH_n.symm
  · rw [h19, up_ne (Or.inr (by decide)), h16, up_ne (Or.inl (by decide)), h15, up_ne (Or.inr (by decide)), up_ne (Or.inl (by decide)), e10]; exact (adH_la (by omega)).symm
  · rw [h19, up_same, h16, up_ne (Or.inl (by decide)), h15, up_ne (Or.inr (by decide)), up_ne (Or.inl (by decide)), h10, up_ne (Or.inr (by decide)), h5, up_ne (Or.inr (by decide)), q6, w32_id (by omega)]
    unfold puH; rw [adH_rm (by omega), E.th]
  · rw [h19, up_ne (Or.inr (by decide)), h16, up_ne (Or.inl (by decide)), h15, up_ne (Or.inr (by decide)), up_ne (Or.inl (by decide)), h10, up_same]
    unfold puH; rw [adH_tc (by omega), E.2.2.2]
  · rw [h19, up_ne (Or.inl (by decide)), h16]
    have hi' : (i : Int) < h 0 3 := by unfold puH at hi; rw [adH_0 (by decide)] at hi; exact hi
    have e15 : ∀ k : Nat, (k : Int) < h 0 3 → M15 39 k = h 4 k := fun k hk => by
      rw [h15, up_ne (Or.inl (by decide)), up_ne (Or.inl (by decide)), h10, up_ne (Or.inl (by decide)), h5, up_ne (Or.inl (by decide))]; exact T4.2.2.2.2.1 k hk
    by_cases hif : i = f.toNat
    · subst hif
      rw [up_same, e15 _ hi', w32_id (by omega)]
      exact adH_4s.symm
    · rw [up_ne (Or.inr hif), e15 i hi']
      exact (adH_4n hif).symm
  · have e : (puH τ h f 0 8).toNat = (h 0 8).toNat + 1 := by unfold puH; rw [adH_n]; omega
    rw [e]
    have L' : Ly (puH τ h f) M10 (h 0 8).toNat := fun c a q1 q2 q3 q4 => by unfold puH; rw [adH_lyS (Nat.le_refl _)]; exact L10 c a q1 q2 q3 q4
    have L'' := L'.add (by rw [hcs]; exact hw.2.2.1) (by rw [h6s]; exact han)
    rw [hcs, h6s] at L''
    refine L''.fr (fun k => ?_)
    rw [h19, up_ne (Or.inl (by decide)), h16, up_ne (Or.inl (by decide)), h15, up_ne (Or.inl (by decide))])
theorem c_putBack {b : Int} (H : Hd h0 M) (W0 : Wf h0) (E : Ext h0 h) (W : Wf h) (T : Tr (puH τ h f) M) (hf : 0 ≤ f ∧ f < h0 0 3) (hc : caH h f) (hb : b = laH h) (hq : ∀ M', Fr [38, 39, 40] M M' → Tr h M' → Q 0 M') : Con (n + 4) md_X8_putBack [vR 38, vI f, vI b] M Q := g_X8_putBack (by
  unfold B_X8_putBack
  subst hb
  have h6 := W0.2.2.1
  have h8 := W.2.2.2.1
  have hw := W0.2.2.2.2.1 _ (toN hf)
  have e3 := E.1 3 (by decide)
  have hw' := W.2.2.2.2.1 f.toNat (by omega)
  have f7 : ∀ o : Nat, 1 ≤ o → o ≤ 7 → o ∉ [38, 39, 40] := by simp; omega
  have han := anH_b τ h f
  have en8 : (puH τ h f 0 8).toNat = (h 0 8).toNat + 1 := by unfold puH; rw [adH_n]; omega
  have hcs : coS (puH τ h f) (h 0 8).toNat = h0 3 f.toNat := by unfold puH; rw [adH_coSn, E.2.2.2]
  have h6s : puH τ h f 6 (h 0 8).toNat = anH τ h f := adH_6s
  refine c_hasFlower ?_
  rw [H.2.2.2.1, if_pos hf]
  refine ⟨fun e => by omega, fun _ => c_colourOf H W0 hf ?_⟩
  have t5 : M 38 5 = anH τ h f := T.2.1.trans (adH_la (by omega))
  rw [t5]
  have hL := T.2.2.2.2.2
  rw [en8] at hL
  have hstep : ∀ c a : Int, lyS (puH τ h f) ((h 0 8).toNat + 1) c a = lyS h (h 0 8).toNat c a + (if h0 3 f.toNat = c ∧ anH τ h f = a then 1 else 0) := fun c a => by
    show lyS (puH τ h f) (h 0 8).toNat c a + (if coS (puH τ h f) (h 0 8).toNat = c ∧ puH τ h f 6 (h 0 8).toNat = a then 1 else 0) = _
    rw [hcs, h6s]
    unfold puH
    rw [adH_lyS (Nat.le_refl _)]
  have hly := lyS_b h (h 0 8).toNat (h0 3 f.toNat) (anH τ h f)
  have he : M 40 (h0 3 f.toNat * 16 + anH τ h f).toNat = lyS h (h 0 8).toNat (h0 3 f.toNat) (anH τ h f) + 1 := by rw [hL _ _ hw.2.2.1.1 hw.2.2.1.2 han.1 han.2, hstep, if_pos ⟨rfl, rfl⟩]
  refine c_change hw.2.2.1 han (by decide) (by rw [he]; omega) ?_
  generalize h6 : up M 40 (h0 3 f.toNat * 16 + anH τ h f).toNat (M 40 (h0 3 f.toNat * 16 + anH τ h f).toNat + -1) = M6
  have hF6 : Fr [38, 39, 40] M M6 := by rw [← h6]; exact Fr.rf.up (by decide)
  have L6 : Ly h M6 (h 0 8).toNat := fun c a q1 q2 q3 q4 => by
    rw [← h6]
    by_cases hh : h0 3 f.toNat = c ∧ anH τ h f = a
    · rw [← hh.1, ← hh.2, up_same, he]; omega
    · rw [up_ne (Or.inr (by omega)), hL c a q1 q2 q3 q4, hstep, if_neg hh]; omega
  refine c_colourOf (H.fr hF6 f7) W0 hf ?_
  rw [show M6 38 5 = anH τ h f by rw [← h6, up_ne (Or.inl (by decide))]; exact t5]
  refine c_neighbours L6 (by omega) hw.2.2.1 (by omega) (fun M11 h11 M12 h12 M13 h13 => ⟨by omega, by omega, fun M14 h14 => ?_⟩)
  have h1 := tcH_b W
  have h2 := nbS_b h (h 0 8).toNat (h0 3 f.toNat) (anH τ h f)
  have t7 : M6 38 7 = tcH h + nbS h (h 0 8).toNat (h0 3 f.toNat) (anH τ h f) := by
    rw [← h6, up_ne (Or.inl (by decide)), T.2.2.2.1]
    unfold puH; rw [adH_tc (by omega), E.2.2.2]
  rw [t7, w32_id (by omega)] at h11
  have hF11 : Fr [38, 39, 40] M M11 := by rw [h11]; exact hF6.up (by decide)
  have hF12 : Fr [38, 39, 40] M M12 := by rw [h12]; exact hF11.up (by decide)
  have hF13 : Fr [38, 39, 40] M M13 := by rw [h13]; exact hF12.up (by decide)
  have hF14 : Fr [38, 39, 40] M M14 := by rw [h14]; exact hF13.up (by decide)
  refine c_thickOf (H.fr hF14 f7) W0 hf (fun M17 h17 => hq M17 (by rw [h17]; exact hF14.up (by decide)) ?_)
  have hrm := rmH_b W
  have hth := thH_b W0 hf
  have q4 : M 38 4 = h 0 8 + 1 := T.1.trans adH_n
  have q6 : M 38 6 = rmH h - thH h0 f := by rw [T.2.2.1]; unfold puH; rw [adH_rm (by omega), E.th]
  refine ⟨?_, ?_, ?_, ?_, fun i hi => ?_, ?_⟩
  · rw [h17, up_ne (Or.inr (by decide)), h14, up_ne (Or.inl (by decide)), h13, up_same, h12, up_ne (Or.inr (by decide)), h11, up_ne (Or.inr (by decide)), ← h6, up_ne (Or.inl (by decide)), q4, w32_id (by omega)]; omega
  · rw [h17, up_ne (Or.inr (by decide)), h14, up_ne (Or.inl (by decide)), h13, up_ne (Or.inr (by decide)), h12, up_same]
  · rw [h17, up_same, h14, up_ne (Or.inl (by decide)), h13, up_ne (Or.inr (by decide)), h12, up_ne (Or.inr (by decide)), h11, up_ne (Or.inr (by decide)), ← h6, up_ne (Or.inl (by decide)), q6, w32_id (by omega)]; omega
  · rw [h17, up_ne (Or.inr (by decide)), h14, up_ne (Or.inl (by decide)), h13, up_ne (Or.inr (by decide)), h12, up_ne (Or.inr (by decide)), h11, up_same]; omega
  · have e13 : ∀ k : Nat, M13 39 k = M 39 k := fun k => by rw [h13, up_ne (Or.inl (by decide)), h12, up_ne (Or.inl (by decide)), h11, up_ne (Or.inl (by decide)), ← h6, up_ne (Or.inl (by decide))]
    have ep : (i : Int) < puH τ h f 0 3 := by unfold puH; rw [adH_0 (by decide)]; exact hi
    rw [h17, up_ne (Or.inl (by decide)), h14]
    by_cases hif : i = f.toNat
    · subst hif
      rw [up_same, e13, T.2.2.2.2.1 _ ep]
      unfold puH
      rw [adH_4s, w32_id (by omega)]; omega
    · rw [up_ne (Or.inr hif), e13, T.2.2.2.2.1 i ep]
      exact adH_4n hif
  · refine L6.fr (fun k => ?_)
    rw [h17, up_ne (Or.inl (by decide)), h14, up_ne (Or.inl (by decide)), h13, up_ne (Or.inl (by decide)), h12, up_ne (Or.inl (by decide)), h11, up_ne (Or.inl (by decide))])
theorem c_touchedBy {s : Int} (H : Hd h M) (W : Wf h) (T : Tr h M) (hs : 0 ≤ s ∧ s < h 0 8) (hq : Q (nbS h (h 0 8).toNat (coS h s.toNat) (h 6 s.toNat) - 1) M) : Con (n + 4) md_X8_touchedBy [vR 38, vI s] M Q := g_X8_touchedBy (by
  unfold B_X8_touchedBy
  have h8 := W.2.2.2.1
  have hst := W.2.2.2.2.2 s.toNat (by omega)
  have hfl := W.2.2.2.2.1 _ (toN hst.1)
  have hH := H.2.2.2.2.2.2 s.toNat (by omega)
  refine c_hasStem ?_
  rw [H.2.2.2.2.1, if_pos hs]
  refine ⟨fun e => by omega, fun _ => ⟨by omega, ?_⟩⟩
  rw [hH.1]
  refine c_colourOf H W hst.1 ⟨by omega, ?_⟩
  rw [hH.2]
  refine c_neighbours T.2.2.2.2.2 (by omega) hfl.2.2.1 (by omega) ?_
  have h2 := nbS_b h (h 0 8).toNat (h 3 (h 5 s.toNat).toNat) (h 6 s.toNat)
  rw [w32_id (by omega)]
  exact hq)
end TRIAL
