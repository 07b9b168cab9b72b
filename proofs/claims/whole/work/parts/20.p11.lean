/-! ANGLES TOLD; CHANCE; MONEY; THE IMAGE; COUNTS -/
section XT
variable {n : Nat} {τ : Int → Int → (Nat → Int) → Int} {h x M : Mem} {Q : Int → Mem → Prop}
/-- what is told of a flower laid again and again from the begin on: rule, kind, colour, number, begin, bucket, hand -/
def lqE (kd co nu bu ho : Int) (k : Nat) (a : Int) : Nat → Int := en (k : Int) co nu a (bu - k) (ho - k * thk kd nu)
def lq (τ : Int → Int → (Nat → Int) → Int) (ru kd co nu be bu ho : Int) : Nat → Int
  | 0 => be
  | k + 1 => (lq τ ru kd co nu be bu ho k + tuV τ ru kd (lqE kd co nu bu ho k (lq τ ru kd co nu be bu ho k))) % 16
theorem lq_b {ru kd co nu be bu ho : Int} (hb : 0 ≤ be ∧ be ≤ 15) : ∀ k, 0 ≤ lq τ ru kd co nu be bu ho k ∧ lq τ ru kd co nu be bu ho k ≤ 15
  | 0 => hb
  | k + 1 => by unfold lq; omega
theorem c_layOne {ru kd co nu be bu ho : Int} {k : Nat} (TT : TC τ M) (hr : 0 ≤ ru ∧ ru < M 17 0) (hk : 0 ≤ kd ∧ kd ≤ 5) (hnu : 0 ≤ nu ∧ nu ≤ 9) (hb : 0 ≤ be ∧ be ≤ 15) (hbu : 0 ≤ bu ∧ bu ≤ 40) (hho : 0 ≤ ho ∧ ho ≤ 400) (hk2 : k ≤ 40) (hM : Mo M ru kd (lqE kd co nu bu ho k (lq τ ru kd co nu be bu ho k)))
    (hq : ∀ M', Fr [32, 36, 37] M M' → Mo M' ru kd (lqE kd co nu bu ho (k + 1) (lq τ ru kd co nu be bu ho (k + 1))) → Q (lq τ ru kd co nu be bu ho (k + 1)) M') : Con (n + 4) md_X2_layOne [vR 36] M Q := g_X2_layOne (by
  unfold B_X2_layOne
  refine c_Mturns TT hM hr hk (fun M2 hF2 => ?_)
  have e3 : M 37 3 = lq τ ru kd co nu be bu ho k := hM.2.2 3 (by decide)
  rw [show Int.toNat 3 = 3 from rfl, e3]
  have b1 := lq_b (τ := τ) (ru := ru) (kd := kd) (co := co) (nu := nu) (bu := bu) (ho := ho) hb k
  have b2 := tuV_b τ ru kd (lqE kd co nu bu ho k (lq τ ru kd co nu be bu ho k))
  refine c_turned (by omega) (by omega) (fun M5 h5 M6 h6 M7 h7 => ?_)
  have hM2 := hM.fr hF2 (by decide) (by decide)
  have m2 := hM2.2.2
  rw [show Int.toNat 0 = 0 from rfl] at h6
  rw [show Int.toNat 4 = 4 from rfl] at h7
  have q0 : M5 37 0 = (k : Int) := by rw [h5, up_ne (by omega)]; exact m2 0 (by decide)
  rw [q0, w32_id (by omega)] at h6
  have q4 : M6 37 4 = bu - k := by rw [h6, up_ne (by omega), h5, up_ne (by omega)]; exact m2 4 (by decide)
  rw [q4, w32_id (by omega)] at h7
  have g7 : ∀ o i, o ≠ 37 → M7 o i = M2 o i := fun o i ho => by rw [h7, up_ne (Or.inl ho), h6, up_ne (Or.inl ho), h5, up_ne (Or.inl ho)]
  have hM7 : Mo M7 ru kd (en ((k : Int) + 1) co nu (lq τ ru kd co nu be bu ho (k + 1)) (bu - k - 1) (ho - k * thk kd nu)) := by
    refine ⟨by rw [g7 36 1 (by decide)]; exact hM2.1, by rw [g7 36 2 (by decide)]; exact hM2.2.1, six ?_ ?_ ?_ ?_ ?_ ?_⟩
    · rw [h7, up_ne (by omega), h6, up_same]; rfl
    · rw [h7, up_ne (by omega), h6, up_ne (by omega), h5, up_ne (by omega)]; exact m2 1 (by decide)
    · rw [h7, up_ne (by omega), h6, up_ne (by omega), h5, up_ne (by omega)]; exact m2 2 (by decide)
    · rw [h7, up_ne (by omega), h6, up_ne (by omega), h5, up_same]; rfl
    · rw [h7, up_same]; rfl
    · rw [h7, up_ne (by omega), h6, up_ne (by omega), h5, up_ne (by omega)]; exact m2 5 (by decide)
  refine c_Mthick hM7 hnu (fun M10 h10 => ?_)
  rw [show Int.toNat 5 = 5 from rfl] at h10
  have b3 := thk_b (k := kd) hnu
  have b4 : 0 ≤ (k : Int) * thk kd nu := Int.mul_nonneg (by omega) (by omega)
  have b5 : (k : Int) * thk kd nu ≤ 40 * 12 := Int.mul_le_mul (by omega) b3.2 (by omega) (by omega)
  have q5 : M7 37 5 = ho - k * thk kd nu := hM7.2.2 5 (by decide)
  have q2 : en ((k : Int) + 1) co nu (lq τ ru kd co nu be bu ho (k + 1)) (bu - k - 1) (ho - k * thk kd nu) 2 = nu := rfl
  rw [q5, q2, w32_id (by omega)] at h10
  have q3 : M10 37 3 = lq τ ru kd co nu be bu ho (k + 1) := by rw [h10, up_ne (by omega)]; exact hM7.2.2 3 (by decide)
  rw [q3]
  refine hq M10 (fun o i ho => ?_) ⟨by rw [h10, up_ne (by omega)]; exact hM7.1, by rw [h10, up_ne (by omega)]; exact hM7.2.1, six ?_ ?_ ?_ ?_ ?_ ?_⟩
  · have ho7 : o ≠ 37 := fun c => ho (by rw [c]; decide)
    rw [h10, up_ne (Or.inl ho7), g7 o i ho7]
    exact hF2 o i (fun c => ho (by simp at c; rw [c]; decide))
  · rw [h10, up_ne (by omega)]; exact hM7.2.2 0 (by decide)
  · rw [h10, up_ne (by omega)]; exact hM7.2.2 1 (by decide)
  · rw [h10, up_ne (by omega)]; exact hM7.2.2 2 (by decide)
  · exact q3
  · rw [h10, up_ne (by omega), hM7.2.2 4 (by decide)]
    show bu - k - 1 = bu - ((k + 1 : Nat) : Int); omega
  · rw [h10, up_same]
    show ho - (k : Int) * thk kd nu - thk kd nu = ho - ((k + 1 : Nat) : Int) * thk kd nu
    rw [show ((k + 1 : Nat) : Int) = (k : Int) + 1 by omega, Int.add_mul, Int.one_mul]; omega)
/-- the first number that is otherwise -/
def foS (f g : Nat → Int) : Nat → Nat → Int
  | 0, _ => -1
  | k + 1, i => if f (i + 1) = g i then foS f g k (i + 1) else (i : Int)
theorem c_firstOtherwise {s ru kd co nu be bu ho : Int} (TT : TC τ M) (hr : 0 ≤ ru ∧ ru < M 17 0) (hk : 0 ≤ kd ∧ kd ≤ 5) (hnu : 0 ≤ nu ∧ nu ≤ 9) (hb : 0 ≤ be ∧ be ≤ 15) (hbu : 0 ≤ bu ∧ bu ≤ 40) (hho : 0 ≤ ho ∧ ho ≤ 400) (H : Shc x M) (W : WS x) (hs : okN s) (hm : x 3 s.toNat ≠ -1) (h20 : x 4 s.toNat ≤ 20) (hM : Mo M ru kd (en 0 co nu be bu ho))
    (hq : ∀ M', Fr sC M M' → Q (foS (lq τ ru kd co nu be bu ho) (x (5 + s.toNat)) (x 4 s.toNat).toNat 0) M') : Con (n + 5) md_X9_firstOtherwise [vR 0, vI s] M Q := g_X9_firstOtherwise (by
  intro K hK
  unfold B_X9_firstOtherwise
  have w := (W s.toNat (by omega)).2 hm
  refine ⟨hs, ?_⟩
  rw [((H s.toNat (by omega)).2 hm).1]
  obtain ⟨R, hR⟩ : ∃ R, R = foS (lq τ ru kd co nu be bu ho) (x (5 + s.toNat)) (x 4 s.toNat).toNat 0 := ⟨_, rfl⟩
  rw [← hR] at hq
  have f5 : ∀ o, 43 ≤ o → o ≤ 50 → o ∉ sC := by simp; omega
  have key : ∀ (j i : Nat) (M' : Mem), (i : Int) + j = x 4 s.toNat → Fr sC M M' → Mo M' ru kd (lqE kd co nu bu ho i (lq τ ru kd co nu be bu ho i)) → foS (lq τ ru kd co nu be bu ho) (x (5 + s.toNat)) j i = R → K (x 4 s.toNat) (i : Int) M' := by
    intro j
    induction j with
    | zero =>
      intro i M' hi hF hM' he
      apply hK
      unfold B_X9_firstOtherwise_12
      refine ⟨fun _ => ?_, fun e => by omega⟩
      unfold foS at he
      rw [he]; exact hq M' hF
    | succ j ih =>
      intro i M' hi hF hM' he
      apply hK
      unfold B_X9_firstOtherwise_12
      refine ⟨fun e => by omega, fun _ => c_layOne (TT.fr hF sC31) (by rw [hF 17 0 (by decide)]; exact hr) hk hnu hb hbu hho (by omega) hM' (fun M2 hF2 hM2 => ?_)⟩
      have hF02 : Fr sC M M2 := hF.tr (hF2.mono (by decide))
      refine c_itemAt (H.fr hF02 f5) W hs hm (by omega) ?_
      rw [w32_id (x := (i : Int) + 1) (by omega), show (i : Int).toNat = i from rfl]
      unfold foS at he
      refine ⟨fun e => ?_, fun e => ?_⟩
      · rw [if_pos e] at he
        exact ih (i + 1) M2 (by omega) hF02 hM2 he
      · rw [if_neg e] at he
        rw [he]; exact hq M2 hF02
  refine key (x 4 s.toNat).toNat 0 M (by omega) Fr.rf ?_ hR.symm
  have e : lqE kd co nu bu ho 0 (lq τ ru kd co nu be bu ho 0) = en 0 co nu be bu ho := by
    unfold lqE lq
    congr 1
    · omega
    · rw [show ((0 : Nat) : Int) = 0 from rfl, Int.zero_mul]; omega
  rw [e]; exact hM)
/-- with one thing supposed -/
def spL (τ : Int → Int → (Nat → Int) → Int) (h : Mem) (f w v : Int) : Nat → Int := lq τ (if w = 5 then v else h 0 2) (if w = 1 then v else h 1 f.toNat) (if w = 3 then v else h 3 f.toNat) (if w = 2 then v else h 2 f.toNat) (if w = 4 then v else h 0 1) (h 4 f.toNat) (h 0 0)
def foR (τ : Int → Int → (Nat → Int) → Int) (h x : Mem) (s f w v : Int) : Int := foS (spL τ h f w v) (x (5 + s.toNat)) (x 4 s.toNat).toNat 0
def agS (τ : Int → Int → (Nat → Int) → Int) (h x : Mem) (s f w : Int) : Nat → Int
  | 0 => 0
  | v + 1 => if foR τ h x s f w (v : Int) = -1 then o_r (agS τ h x s f w v) (sh_l 1 (v : Int)) else agS τ h x s f w v
def chO (z w : Int) : Int := if w = 1 then 6 else if w = 2 then 10 else if w = 3 then 5 else if w = 4 then 16 else z
def teR (τ : Int → Int → (Nat → Int) → Int) (h x : Mem) (z s f w : Int) : Int := if okN s ∧ (0 ≤ f ∧ f < h 0 3) ∧ (0 ≤ w ∧ w ≤ 5) then (if x 3 s.toNat = -1 then -11 else if 20 < x 4 s.toNat then -2 else if w = 0 then foR τ h x s f 0 0 else agS τ h x s f w (chO z w).toNat) else -2
theorem c_suppose {ru kd co nu be bu ho w v : Int} (hw : 1 ≤ w ∧ w ≤ 5) (hM : Mo M ru kd (en 0 co nu be bu ho)) (hq : ∀ M', Fr [36, 37] M M' → Mo M' (if w = 5 then v else ru) (if w = 1 then v else kd) (en 0 (if w = 3 then v else co) (if w = 2 then v else nu) (if w = 4 then v else be) bu ho) → Q 0 M') : Con (n + 1) md_X2_suppose [vR 36, vI w, vI v] M Q := g_X2_suppose (by
  unfold B_X2_suppose
  have m := hM.2.2
  have m0 : M 37 0 = 0 := m 0 (by decide)
  have m1 : M 37 1 = co := m 1 (by decide)
  have m2 : M 37 2 = nu := m 2 (by decide)
  have m3 : M 37 3 = be := m 3 (by decide)
  have m4 : M 37 4 = bu := m 4 (by decide)
  have m5 : M 37 5 = ho := m 5 (by decide)
  refine ⟨fun e => by omega, fun e M1 h1 => ?_, fun e M1 h1 => ?_, fun e M1 h1 => ?_, fun e M1 h1 => ?_, fun e M1 h1 => ?_⟩ <;> subst e <;> subst h1 <;>
    refine hq _ (Fr.rf.up (by decide)) ⟨?_, ?_, six ?_ ?_ ?_ ?_ ?_ ?_⟩ <;> simp [up, en, hM.1, hM.2.1, m0, m1, m2, m3, m4, m5])
theorem x_tells {s f w : Int} (Hh : Hd h M) (Wh : Wf h) (TT : TC τ M) (hr : 0 ≤ h 0 2 ∧ h 0 2 < M 17 0) (H : Shc x M) (W : WS x) (hq : ∀ M', Fr sC M M' → Q (teR τ h x (M 17 0) s f w) M') : Con (n + 7) md_X9_tells [vR 0, vI s, vI f, vI w] M Q := g_X9_tells (by
  unfold B_X9_tells
  unfold teR at hq
  have f5 : ∀ o, 43 ≤ o → o ≤ 50 → o ∉ sC := by simp; omega
  refine c_isNumber ?_
  by_cases hs : okN s
  · rw [if_pos hs]
    refine ⟨fun e => by omega, fun _ => c_hasFlower ?_⟩
    rw [Hh.2.2.2.1]
    by_cases hf : 0 ≤ f ∧ f < h 0 3
    · rw [if_pos hf]
      have hw5 := Wh.2.2.2.2.1 _ (toN hf)
      refine ⟨fun e => by omega, fun _ => ⟨fun e => by rw [if_neg (by omega)] at hq; exact hq M Fr.rf, fun e => ⟨fun e1 => c_isMissing H hs ?_, fun e1 => by rw [if_neg (by omega)] at hq; exact hq M Fr.rf⟩⟩⟩
      rw [if_pos ⟨hs, hf, by omega, e1⟩] at hq
      by_cases hm : x 3 s.toNat = -1
      · rw [if_pos hm] at hq ⊢; exact ⟨fun e => by omega, fun _ => hq M Fr.rf⟩
      · rw [if_neg hm] at hq ⊢
        rw [((H s.toNat (by omega)).2 hm).1]
        refine ⟨fun _ => ⟨hs, fun e2 => ?_, fun e2 => by rw [if_pos (by omega)] at hq; exact hq M Fr.rf⟩, fun e => absurd rfl e⟩
        rw [if_neg (by omega)] at hq
        refine ⟨fun e3 => ?_, fun e3 => ?_⟩
        · rw [if_pos e3] at hq
          refine c_inEmptyHand Hh Wh hf (fun M2 hF2 hM2 => ?_)
          have hs2 : Fr sC M M2 := hF2.mono (by decide)
          exact c_firstOtherwise (TT.fr hs2 sC31) (by rw [hs2 17 0 (by decide)]; exact hr) hw5.1 hw5.2.1 Wh.2.1 hw5.2.2.2 Wh.1 (H.fr hs2 f5) W hs hm e2 hM2 (fun M' hF' => hq M' (hs2.tr hF'))
        · rw [if_neg e3] at hq
          have t6 := TT.1
          refine g_X9_agreeing (fun K hK => ?_)
          unfold B_X9_agreeing
          have hch : Con (n + 5) md_X9_choicesOf [vR 0, vI w] M (fun r7 M8 => K 0 r7 0 M8) := g_X9_choicesOf (by
            unfold B_X9_choicesOf
            have main : ∀ c : Int, c = chO (M 17 0) w → K 0 c 0 M := by
              intro c hc
              subst hc
              have hc16 : 0 ≤ chO (M 17 0) w ∧ chO (M 17 0) w ≤ 16 := by unfold chO; omega
              refine loopUp (P := fun v => ∀ M' : Mem, Fr sC M M' → K (agS τ h x s f w v) (chO (M 17 0) w) (v : Int) M') (chO (M 17 0) w).toNat ?_ ?_ 0 (Nat.zero_le _) M Fr.rf
              · intro M' hF
                apply hK
                unfold B_X9_agreeing_13
                exact ⟨fun _ => hq M' hF, fun e => absurd (show chO (M 17 0) w ≤ (((chO (M 17 0) w).toNat : Nat) : Int) by omega) e⟩
              · intro v hv ih M' hF
                apply hK
                unfold B_X9_agreeing_13
                have hvw : 0 ≤ (v : Int) ∧ (v : Int) < chO (M 17 0) w := by omega
                refine ⟨fun e => by omega, fun _ => c_inEmptyHand (Hh.fr hF sC7) Wh hf (fun M2 hF2 hM2 => c_suppose (by omega) hM2 (fun M4 hF4 hM4 => ?_))⟩
                have hs4 : Fr sC M M4 := hF.tr ((hF2.tr hF4).mono (by decide))
                have W1 := Wh.1
                have W2 := Wh.2.1
                refine c_firstOtherwise (TT.fr hs4 sC31) ?_ ?_ ?_ ?_ hw5.2.2.2 W1 (H.fr hs4 f5) W hs hm e2 hM4 (fun M' hF' => ?_)
                · rw [hs4 17 0 (by decide)]; unfold chO at hvw; split <;> rename_i c
                  · subst c; simp at hvw; omega
                  · exact hr
                · unfold chO at hvw; split <;> rename_i c
                  · subst c; simp at hvw; omega
                  · exact hw5.1
                · unfold chO at hvw; split <;> rename_i c
                  · subst c; simp at hvw; omega
                  · exact hw5.2.1
                · unfold chO at hvw; split <;> rename_i c
                  · subst c; simp at hvw; omega
                  · exact W2
                · rw [w32_id (x := (v : Int) + 1) (by omega)]
                  have := ih M' (hs4.tr hF')
                  unfold agS at this
                  show (foR τ h x s f w (v : Int) = -1 → _) ∧ (¬ foR τ h x s f w (v : Int) = -1 → _)
                  refine ⟨fun e => ?_, fun e => ?_⟩
                  · rw [if_pos e] at this; exact this
                  · rw [if_neg e] at this; exact this
            refine ⟨fun e => by omega, fun e => main 6 ?_, fun e => main 10 ?_, fun e => main 5 ?_, fun e => main 16 ?_, fun e => main (M 17 0) ?_⟩ <;> subst e <;> simp [chO])
          exact hch
    · rw [if_neg hf]
      rw [if_neg (by omega)] at hq
      exact ⟨fun _ => hq M Fr.rf, fun e => absurd rfl e⟩
  · rw [if_neg hs]
    rw [if_neg (fun q => hs q.1)] at hq
    exact ⟨fun _ => hq M Fr.rf, fun e => absurd rfl e⟩)
theorem t_b15 : ∀ v : Nat, v < 16 → t_b (v : Int) = (v : Int) := by decide +kernel
theorem t_b_id {v : Int} (hv : 0 ≤ v ∧ v ≤ 15) : t_b v = v := by
  have := t_b15 v.toNat (by omega)
  rwa [show ((v.toNat : Nat) : Int) = v by omega] at this
/-- the sheet that was filmed -/
def fmX (τ : Int → Int → (Nat → Int) → Int) (h x : Mem) (s f k : Int) : Mem := upr (shB x s.toNat 0 k) (5 + s.toNat) (fun i => spL τ h f 0 0 (i + 1))
theorem x_film {s f k : Int} (Hh : Hd h M) (Wh : Wf h) (TT : TC τ M) (hr : 0 ≤ h 0 2 ∧ h 0 2 < M 17 0) (H : Shc x M) (W : WS x) (h0 : ¬ (okN s ∧ (0 ≤ f ∧ f < h 0 3) ∧ (0 ≤ k ∧ k ≤ 20)) → Q (-2) M) (h1 : okN s → (0 ≤ f ∧ f < h 0 3) → (0 ≤ k ∧ k ≤ 20) → ∀ M', Fr (44 :: 45 :: 47 :: 48 :: 49 :: 50 :: sC) M M' → Shc (fmX τ h x s f k) M' → Q k M') : Con (n + 5) md_X9_film [vR 0, vI s, vI f, vI k] M Q := g_X9_film (by
  intro K hK
  unfold B_X9_film
  have f5 : ∀ o, 43 ≤ o → o ≤ 50 → o ∉ sC := by simp; omega
  refine c_isNumber ?_
  by_cases hs : okN s
  · rw [if_pos hs]
    refine ⟨fun e => by omega, fun _ => c_hasFlower ?_⟩
    rw [Hh.2.2.2.1]
    by_cases hf : 0 ≤ f ∧ f < h 0 3
    · rw [if_pos hf]
      have hw5 := Wh.2.2.2.2.1 _ (toN hf)
      have W2 := Wh.2.1
      refine ⟨fun e => by omega, fun _ => ⟨fun e => h0 (by omega), fun e => ⟨fun e1 => c_become H hs (by omega) (fun M2 hF2 H2 => ?_), fun e1 => h0 (by omega)⟩⟩⟩
      refine c_inEmptyHand (Hh.fr hF2 (by simp; omega)) Wh hf (fun M4 hF4 hM4 => ?_)
      have Wb : WS (shB x s.toNat 0 k) := shB_ws W (by decide) (fun _ => by omega)
      have key := loopUp (P := fun i => ∀ (M' y : Mem), Fr (44 :: 45 :: 47 :: 48 :: 49 :: 50 :: sC) M M' → Mo M' (h 0 2) (h 1 f.toNat) (lqE (h 1 f.toNat) (h 3 f.toNat) (h 2 f.toNat) (h 4 f.toNat) (h 0 0) i (spL τ h f 0 0 i)) → Shc y M' → (∀ o j, o ≠ 5 + s.toNat → y o j = shB x s.toNat 0 k o j) → (∀ j, j < i → y (5 + s.toNat) j = spL τ h f 0 0 (j + 1)) → K (i : Int) M') k.toNat ?_ ?_ 0 (Nat.zero_le _) M4 (shB x s.toNat 0 k) ((hF2.mono (by decide)).tr (hF4.mono (by decide))) ?_ (H2.fr hF4 (by simp; omega)) (fun _ _ _ => rfl) (fun j hj => by omega)
      · exact key
      · intro M' y hF hM' Hy hy1 hy2
        apply hK
        unfold B_X9_film_56
        refine ⟨fun _ => h1 hs hf (by omega) M' hF (fun s' h4 => ?_), fun e => absurd (show k ≤ ((k.toNat : Nat) : Int) by omega) e⟩
        have q := Hy s' h4
        rw [hy1 3 s' (by omega), hy1 4 s' (by omega)] at q
        have e3 : fmX τ h x s f k 3 s' = shB x s.toNat 0 k 3 s' := by unfold fmX upr; rw [if_neg (by omega)]
        have e4 : fmX τ h x s f k 4 s' = shB x s.toNat 0 k 4 s' := by unfold fmX upr; rw [if_neg (by omega)]
        rw [e3, e4]
        refine ⟨q.1, fun c => ⟨(q.2 c).1, fun j hj => ?_⟩⟩
        rw [(q.2 c).2 j hj]
        by_cases es : s' = s.toNat
        · subst es
          rw [shB_4s] at hj
          rw [hy2 j (by omega)]
          unfold fmX upr; rw [if_pos rfl]
        · rw [hy1 (5 + s') j (by omega)]
          unfold fmX upr; rw [if_neg (by omega)]
      · intro i hi ih M' y hF hM' Hy hy1 hy2
        apply hK
        unfold B_X9_film_56
        have hF17 : ∀ o, 17 ≤ o → o ≤ 31 → o ∉ (44 :: 45 :: 47 :: 48 :: 49 :: 50 :: sC) := by simp; omega
        have e0 : spL τ h f 0 0 = lq τ (h 0 2) (h 1 f.toNat) (h 3 f.toNat) (h 2 f.toNat) (h 0 1) (h 4 f.toNat) (h 0 0) := rfl
        rw [e0] at hM'
        refine ⟨fun e => by omega, fun _ => c_layOne (TT.fr hF hF17) (by rw [hF 17 0 (by decide)]; exact hr) hw5.1 hw5.2.1 W2 hw5.2.2.2 Wh.1 (by omega) hM' (fun M2' hF2' hM2' => ?_)⟩
        have Hy2 : Shc y M2' := Hy.fr hF2' (by simp; omega)
        have Wy : WS y := fun s' h4 => by rw [hy1 3 s' (by omega), hy1 4 s' (by omega)]; exact Wb s' h4
        have y3 : y 3 s.toNat = 0 := by rw [hy1 3 _ (by omega), shB_3s]
        have y4 : y 4 s.toNat = k := by rw [hy1 4 _ (by omega), shB_4s]
        refine c_write Hy2 Wy hs (by rw [y3]; decide) (by rw [y4]; omega) (fun M4' hF4' Hy4 => ?_)
        rw [w32_id (x := (i : Int) + 1) (by omega)]
        have hb := lq_b (τ := τ) (ru := h 0 2) (kd := h 1 f.toNat) (co := h 3 f.toNat) (nu := h 2 f.toNat) (bu := h 4 f.toNat) (ho := h 0 0) W2 (i + 1)
        rw [y3, show (i : Int).toNat = i from rfl] at Hy4
        have ew : wrV 0 (lq τ (h 0 2) (h 1 f.toNat) (h 3 f.toNat) (h 2 f.toNat) (h 0 1) (h 4 f.toNat) (h 0 0) (i + 1)) = spL τ h f 0 0 (i + 1) := by
          unfold wrV; rw [if_pos rfl, t_b_id hb]; rfl
        rw [ew] at Hy4
        refine ih M4' _ (hF.tr ((hF2'.mono (by decide)).tr (hF4'.mono (by decide)))) (hM2'.fr hF4' (by decide) (by decide)) Hy4 (fun o j ho => by rw [up_ne (by omega)]; exact hy1 o j ho) (fun j hj => ?_)
        by_cases ej : j = i
        · subst ej; exact up_same
        · rw [up_ne (by omega)]; exact hy2 j (by omega)
      · have e : lqE (h 1 f.toNat) (h 3 f.toNat) (h 2 f.toNat) (h 4 f.toNat) (h 0 0) 0 (spL τ h f 0 0 0) = en 0 (h 3 f.toNat) (h 2 f.toNat) (h 0 1) (h 4 f.toNat) (h 0 0) := by
          show en _ _ _ (h 0 1) _ _ = _
          congr 1
          · omega
          · rw [show ((0 : Nat) : Int) = 0 from rfl, Int.zero_mul]; omega
        rw [e]; exact hM4
    · rw [if_neg hf]; exact ⟨fun _ => h0 (by omega), fun e => absurd rfl e⟩
  · rw [if_neg hs]; exact ⟨fun _ => h0 (by omega), fun e => absurd rfl e⟩)
end XT
