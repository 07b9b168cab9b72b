/-! THE MODEL'S SHEETS -/
def Shm (x M : Mem) : Prop := ∀ s : Nat, s < 4 → (x 3 s = -1 → M 64 s = 0) ∧ (x 3 s ≠ -1 → M 64 s = 1 ∧ M 65 s = x 3 s ∧ M 66 s = x 4 s ∧ ∀ i : Nat, (i : Int) < x 4 s → M 67 (40 * s + i) = x (5 + s) i)
abbrev sS (o k : Nat) : Prop := 64 ≤ o ∧ o ≤ 67 ∧ k = k
theorem Shm.fr {x M M' : Mem} {P : Nat → Nat → Prop} (H : Shm x M) (hf : Fp P M M') (hs : ∀ o k, 64 ≤ o → o ≤ 67 → ¬ P o k) : Shm x M' := fun s h4 => by
  have e : ∀ o k, 64 ≤ o → o ≤ 67 → M' o k = M o k := fun o k h1 h2 => hf o k (hs o k h1 h2)
  obtain ⟨q1, q2⟩ := H s h4
  refine ⟨fun c => by rw [e 64 _ (by omega) (by omega)]; exact q1 c, fun c => ?_⟩
  obtain ⟨r1, r2, r3, r4⟩ := q2 c
  rw [e 64 _ (by omega) (by omega), e 65 _ (by omega) (by omega), e 66 _ (by omega) (by omega)]
  exact ⟨r1, r2, r3, fun i hi => by rw [e 67 _ (by omega) (by omega)]; exact r4 i hi⟩
theorem sHS : ∀ o k, 64 ≤ o → o ≤ 67 → ¬ sH o k := fun o k h1 h2 q => by unfold sH at q; omega
section MS
variable {n : Nat} {τ : Int → Int → (Nat → Int) → Int} {h x M : Mem} {Q : Int → Mem → Prop} {s : Int}
theorem mm_isSheet (hq : Q (if okN s then 1 else 0) M) : Con (n + 2) md_X10_isSheet [vI s] M Q := g_X10_isSheet (by
  unfold B_X10_isSheet
  refine c_in ?_
  by_cases c : okN s
  · rw [if_pos (by unfold okN at c; omega)]; rw [if_pos c] at hq; exact ⟨Or.inr rfl, hq⟩
  · rw [if_neg (by unfold okN at c; omega)]; rw [if_neg c] at hq; exact ⟨Or.inl rfl, hq⟩)
theorem Shm.at (H : Shm x M) (hs : okN s) (hm : x 3 s.toNat ≠ -1) : M 64 s.toNat = 1 ∧ M 65 s.toNat = x 3 s.toNat ∧ M 66 s.toNat = x 4 s.toNat ∧ ∀ i : Int, 0 ≤ i → i < x 4 s.toNat → M 67 (40 * s + i).toNat = x (5 + s.toNat) i.toNat := by
  obtain ⟨r1, r2, r3, r4⟩ := (H s.toNat (by unfold okN at hs; omega)).2 hm
  refine ⟨r1, r2, r3, fun i h0 hi => ?_⟩
  rw [show (40 * s + i).toNat = 40 * s.toNat + i.toNat by unfold okN at hs; omega]
  exact r4 i.toNat (by omega)
theorem Shm.no (H : Shm x M) (hs : okN s) (hm : x 3 s.toNat = -1) : M 64 s.toNat = 0 := (H s.toNat (by unfold okN at hs; omega)).1 hm
theorem mm_sheet {so k : Int} (H : Shm x M) (W : WS x) (h0 : ¬ (okN s ∧ (so = -1 ∨ ((0 ≤ so ∧ so ≤ 2) ∧ k ≤ 40))) → Q (-2) M) (h1 : okN s → (0 ≤ so ∧ so ≤ 2) → k < 0 → Q (-14) M) (h2 : okN s → so = -1 → ∀ M', Fp sS M M' → Shm (shB x s.toNat (-1) 0) M' → Q 1 M') (h3 : okN s → (0 ≤ so ∧ so ≤ 2) → (0 ≤ k ∧ k ≤ 40) → ∀ M', Fp sS M M' → Shm (shB x s.toNat so k) M' → Q 1 M') : Con (n + 3) md_X10_sheet [vR 51, vI s, vI so, vI k] M Q := g_X10_sheet (by
  intro K hK
  unfold B_X10_sheet
  refine mm_isSheet ?_
  by_cases cs : okN s
  · rw [if_pos cs]
    have cs' : 0 ≤ s ∧ s < 4 := cs
    refine ⟨fun e => by omega, fun _ => c_in ?_⟩
    by_cases c : -1 ≤ so ∧ so ≤ 2
    · rw [if_pos c]
      refine ⟨fun e => by omega, fun _ => ⟨fun e => ⟨fun _ => ⟨fun _ => ⟨cs', fun M6 e6 => ⟨cs', fun M7 e7 => ⟨cs', fun M8 e8 => hK _ _ ?_⟩⟩⟩, fun e' => absurd e e'⟩, fun e' => absurd e e'⟩, fun e => ⟨fun ek => ⟨fun e' => absurd e' e, fun _ => ⟨fun e0 => ⟨fun e' => absurd e' e, fun _ => ⟨cs', fun M6 e6 => ⟨cs', fun M7 e7 => ⟨cs', fun M8 e8 => ?_⟩⟩⟩⟩, fun e0 => h1 cs (by omega) (by omega)⟩⟩, fun ek => h0 (fun q => by omega)⟩⟩⟩
      · unfold B_X10_sheet_77
        have g : Q 1 M8 := h2 cs (by omega) M8 (by rw [e8, e7, e6]; exact ((Fp.rf.up (by unfold sS; omega)).up (by unfold sS; omega)).up (by unfold sS; omega)) (fun s' h4 => by
          by_cases c : s' = s.toNat
          · subst c
            refine ⟨fun _ => by rw [e8, up_ne (by omega), e7, up_ne (by omega), e6, up_same], fun q => absurd shB_3s q⟩
          · obtain ⟨q1, q2⟩ := H s' h4
            rw [shB_3n c, shB_4n c, e8, up_ne (by omega), up_ne (by omega), up_ne (by omega), e7, up_ne (by omega), up_ne (by omega), up_ne (by omega), e6, up_ne (by omega), up_ne (by omega), up_ne (by omega)]
            refine ⟨q1, fun q => ⟨(q2 q).1, (q2 q).2.1, (q2 q).2.2.1, fun i hi => ?_⟩⟩
            rw [up_ne (by omega), up_ne (by omega), up_ne (by omega), shB_in c]; exact (q2 q).2.2.2 i hi)
        exact ⟨fun _ => g, fun _ => ⟨fun _ => g, fun e' => absurd e e'⟩⟩
      · obtain ⟨k', hk'⟩ : ∃ k' : Nat, (k' : Int) = k := ⟨k.toNat, by omega⟩
        have key := loopUp (P := fun i => ∀ M', Fp (fun o p => o = 67 ∧ 40 * s.toNat ≤ p ∧ p < 40 * s.toNat + 40) M8 M' → (∀ j, j < i → M' 67 (40 * s.toNat + j) = 0) → K (i : Int) M') k' (fun M' F q => hK _ _ ?_) (fun i hi ih M' F q => hK _ _ ?_) 0 (Nat.zero_le _) M8 Fp.rf (fun j hj => by omega)
        · exact key
        · unfold B_X10_sheet_77
          refine ⟨fun _ => h3 cs (by omega) (by omega) M' (fun o p hp => ?_) (fun s' h4 => ?_), fun e => by omega⟩
          · rw [F o p (by unfold sS at hp; omega), e8, up_ne (by unfold sS at hp; omega), e7, up_ne (by unfold sS at hp; omega), e6, up_ne (by unfold sS at hp; omega)]
          · by_cases c : s' = s.toNat
            · subst c
              refine ⟨fun q => by rw [shB_3s] at q; omega, fun _ => ⟨?_, ?_, ?_, fun i hi => ?_⟩⟩
              · rw [F 64 _ (by omega), e8, up_ne (by omega), e7, up_ne (by omega), e6, up_same]
              · rw [F 65 _ (by omega), e8, up_ne (by omega), e7, up_same, shB_3s]
              · rw [F 66 _ (by omega), e8, up_same, shB_4s]
              · rw [shB_4s] at hi
                rw [shB_is]; exact q i (by omega)
            · obtain ⟨q1, q2⟩ := H s' h4
              rw [F 64 _ (by omega), F 65 _ (by omega), F 66 _ (by omega), shB_3n c, shB_4n c, e8, up_ne (by omega), up_ne (by omega), up_ne (by omega), e7, up_ne (by omega), up_ne (by omega), up_ne (by omega), e6, up_ne (by omega), up_ne (by omega), up_ne (by omega)]
              refine ⟨q1, fun q => ⟨(q2 q).1, (q2 q).2.1, (q2 q).2.2.1, fun i hi => ?_⟩⟩
              have := (W s' h4).2 q
              rw [F 67 _ (by omega), e8, up_ne (by omega), e7, up_ne (by omega), e6, up_ne (by omega), shB_in c]; exact (q2 q).2.2.2 i hi
        · unfold B_X10_sheet_77
          rw [w32_id (x := (i : Int) + 1) (by omega), w32_id (x := 40 * s) (by omega), w32_id (x := 40 * s + (i : Int)) (by omega)]
          refine ⟨fun e => by omega, fun _ => ⟨fun e' => absurd e' e, fun _ => ⟨by omega, fun M1 e1 => ?_⟩⟩⟩
          rw [show (40 * s + (i : Int)).toNat = 40 * s.toNat + i by omega] at e1
          refine ih M1 (by rw [e1]; exact F.up (by omega)) (fun j hj => ?_)
          by_cases c : j = i
          · subst c; rw [e1, up_same]
          · rw [e1, up_ne (by omega)]; exact q j (by omega)
    · rw [if_neg c]
      exact ⟨fun _ => h0 (fun q => by omega), fun e => absurd rfl e⟩
  · rw [if_neg cs]
    exact ⟨fun _ => h0 (fun q => cs q.1), fun e => absurd rfl e⟩)
theorem Shm.wr {i v : Int} (H : Shm x M) (W : WS x) (hs : okN s) (hi : 0 ≤ i ∧ i < 40) : Shm (up x (5 + s.toNat) i.toNat v) (up M 67 (40 * s + i).toNat v) := fun s' h4 => by
  have hs' : 0 ≤ s ∧ s < 4 := hs
  obtain ⟨q1, q2⟩ := H s' h4
  rw [up_ne (M := x) (o' := 3) (by omega), up_ne (M := x) (o' := 4) (by omega), up_ne (M := M) (o' := 64) (by omega), up_ne (M := M) (o' := 65) (by omega), up_ne (M := M) (o' := 66) (by omega)]
  refine ⟨q1, fun q => ⟨(q2 q).1, (q2 q).2.1, (q2 q).2.2.1, fun j hj => ?_⟩⟩
  have hb := (W s' h4).2 q
  by_cases c : s' = s.toNat ∧ j = i.toNat
  · obtain ⟨rfl, rfl⟩ := c
    rw [up_same, show 40 * s.toNat + i.toNat = (40 * s + i).toNat by omega, up_same]
  · rw [up_ne (by omega), up_ne (by omega)]; exact (q2 q).2.2.2 j hj
theorem mm_cell {i v : Int} (H : Shm x M) (W : WS x) (h0 : ¬ okN s → Q (-2) M) (h1 : okN s → x 3 s.toNat = -1 → Q (-11) M) (h2 : okN s → x 3 s.toNat ≠ -1 → ¬ (0 ≤ i ∧ i < x 4 s.toNat) → Q (-12) M) (h3 : okN s → x 3 s.toNat ≠ -1 → (0 ≤ i ∧ i < x 4 s.toNat) → ∀ M', Fp sS M M' → Shm (up x (5 + s.toNat) i.toNat (wrV (x 3 s.toNat) v)) M' → Q 1 M') : Con (n + 3) md_X10_cell [vR 51, vI s, vI i, vI v] M Q := g_X10_cell (by
  unfold B_X10_cell
  refine mm_isSheet ?_
  by_cases cs : okN s
  · rw [if_pos cs]
    have cs' : 0 ≤ s ∧ s < 4 := cs
    refine ⟨fun e => by omega, fun _ => ⟨cs', ?_⟩⟩
    by_cases cm : x 3 s.toNat = -1
    · rw [H.no cs cm]; exact ⟨fun _ => h1 cs cm, fun e => absurd rfl e⟩
    · obtain ⟨r1, r2, r3, r4⟩ := H.at cs cm
      have hb := (W s.toNat (by omega)).2 cm
      rw [r1, r3, w32_id (x := x 4 s.toNat - 1) (by omega)]
      refine ⟨fun e => by omega, fun _ => ⟨cs', c_in ?_⟩⟩
      by_cases ci : 0 ≤ i ∧ i < x 4 s.toNat
      · rw [if_pos (by omega), w32_id (x := 40 * s) (by omega), w32_id (x := 40 * s + i) (by omega)]
        have hq := h3 cs cm ci
        unfold wrV at hq
        rw [r2]
        refine ⟨fun e => by omega, fun _ => ⟨cs', fun e => ⟨by omega, fun M1 e1 => ?_⟩, fun e0 => ⟨cs', fun e => ⟨by omega, fun M1 e1 => ?_⟩, fun e2 => ⟨by omega, fun M1 e1 => ?_⟩⟩⟩⟩
        · rw [if_pos e] at hq; rw [e1]; exact hq _ (Fp.rf.up (by unfold sS; omega)) (H.wr W cs (by omega))
        · rw [if_neg e0, if_pos e] at hq; rw [e1]; exact hq _ (Fp.rf.up (by unfold sS; omega)) (H.wr W cs (by omega))
        · rw [if_neg e0, if_neg e2] at hq; rw [e1]; exact hq _ (Fp.rf.up (by unfold sS; omega)) (H.wr W cs (by omega))
      · rw [if_neg (by omega)]
        exact ⟨fun _ => h2 cs cm ci, fun e => absurd rfl e⟩
  · rw [if_neg cs]
    exact ⟨fun _ => h0 cs, fun e => absurd rfl e⟩)
theorem mm_copy {i t j k : Int} (H : Shm x M) (W : WS x) (hk : k ≤ 2147483647) (h0 : ¬ (okN s ∧ okN t) → Q (-2) M) (h1 : okN s → okN t → (x 3 s.toNat = -1 ∨ x 3 t.toNat = -1) → Q (-11) M) (h2 : okN s → okN t → x 3 s.toNat ≠ -1 → x 3 t.toNat ≠ -1 → x 3 s.toNat ≠ x 3 t.toNat → Q (-13) M) (h3 : okN s → okN t → x 3 s.toNat ≠ -1 → x 3 s.toNat = x 3 t.toNat → ¬ okC x s i t j k → Q (-12) M)
    (h4 : okN s → okN t → x 3 s.toNat ≠ -1 → x 3 s.toNat = x 3 t.toNat → okC x s i t j k → ∀ M', Fp sS M M' → Shm (cpX x s.toNat i.toNat t.toNat j.toNat k.toNat) M' → Q k M') : Con (n + 3) md_X10_copy [vR 51, vI s, vI i, vI t, vI j, vI k] M Q := g_X10_copy (by
  intro K hK
  unfold B_X10_copy
  refine mm_isSheet ?_
  by_cases cs : okN s
  · rw [if_pos cs]
    have cs' : 0 ≤ s ∧ s < 4 := cs
    refine ⟨fun e => by omega, fun _ => mm_isSheet ?_⟩
    by_cases ct : okN t
    · rw [if_pos ct]
      have ct' : 0 ≤ t ∧ t < 4 := ct
      refine ⟨fun e => by omega, fun _ => ⟨cs', ?_⟩⟩
      by_cases cm : x 3 s.toNat = -1
      · rw [H.no cs cm]; exact ⟨fun _ => h1 cs ct (Or.inl cm), fun e => absurd rfl e⟩
      · obtain ⟨r1, r2, r3, r4⟩ := H.at cs cm
        rw [r1]
        refine ⟨fun e => by omega, fun _ => ⟨ct', ?_⟩⟩
        by_cases cm2 : x 3 t.toNat = -1
        · rw [H.no ct cm2]; exact ⟨fun _ => h1 cs ct (Or.inr cm2), fun e => absurd rfl e⟩
        · obtain ⟨p1, p2, p3, p4⟩ := H.at ct cm2
          rw [p1, r2, p2, r3, p3]
          refine ⟨fun e => by omega, fun _ => ⟨cs', ct', fun e => ?_, fun e => h2 cs ct cm cm2 e⟩⟩
          have hb := (W s.toNat (by omega)).2 cm
          have hb2 := (W t.toNat (by omega)).2 cm2
          have no : ¬ okC x s i t j k → Q (-12) M := h3 cs ct cm e
          refine ⟨fun q => no (fun c => by have := c.1; omega), fun k0 => ⟨fun q => no (fun c => by have := c.2.1; omega), fun i0 => ⟨fun q => no (fun c => by have := c.2.2.1; omega), fun j0 => ?_⟩⟩⟩
          rw [w32_id (x := x 4 s.toNat - k) (by omega), w32_id (x := x 4 t.toNat - k) (by omega)]
          refine ⟨cs', fun q => no (fun c => by have := c.2.2.2.1; omega), fun i1 => ⟨ct', fun j1 => ?_, fun q => no (fun c => by have := c.2.2.2.2; omega)⟩⟩
          have oc : okC x s i t j k := ⟨by omega, by omega, by omega, by omega, by omega⟩
          have hq := h4 cs ct cm e oc
          obtain ⟨kk, rfl⟩ : ∃ kk : Nat, k = (kk : Int) := ⟨k.toNat, by omega⟩
          obtain ⟨ii, rfl⟩ : ∃ ii : Nat, i = (ii : Int) := ⟨i.toNat, by omega⟩
          obtain ⟨jj, rfl⟩ : ∃ jj : Nat, j = (jj : Int) := ⟨j.toNat, by omega⟩
          obtain ⟨ss, rfl⟩ : ∃ ss : Nat, s = (ss : Int) := ⟨s.toNat, by omega⟩
          obtain ⟨tt, rfl⟩ : ∃ tt : Nat, t = (tt : Int) := ⟨t.toNat, by omega⟩
          simp only [Int.toNat_natCast] at *
          have fin : ∀ M', (∀ o p, M' o p = if o = 67 ∧ 40 * tt + jj ≤ p ∧ p < 40 * tt + jj + kk then M 67 (p - (40 * tt + jj) + (40 * ss + ii)) else M o p) → Q (kk : Int) M' := fun M' he => hq M' (fun o p hp => by rw [he, if_neg (by unfold sS at hp; omega)]) (fun s' h4' => by
            obtain ⟨q1, q2⟩ := H s' h4'
            rw [cpX_o (by omega), cpX_o (by omega), he 64, if_neg (by omega), he 65, if_neg (by omega), he 66, if_neg (by omega)]
            refine ⟨q1, fun q => ⟨(q2 q).1, (q2 q).2.1, (q2 q).2.2.1, fun p hp => ?_⟩⟩
            have hb3 := (W s' h4').2 q
            rw [he]
            by_cases c : s' = tt
            · subst c
              have ec : cpX x ss ii s' jj kk (5 + s') p = if jj ≤ p ∧ p < jj + kk then x (5 + ss) (ii + (p - jj)) else x (5 + s') p := by
                unfold cpX upr; rw [if_pos rfl]
              rw [ec]
              by_cases c2 : jj ≤ p ∧ p < jj + kk
              · rw [if_pos (by omega), if_pos c2]
                have := (H ss (by omega)).2 cm
                rw [show 40 * s' + p - (40 * s' + jj) + (40 * ss + ii) = 40 * ss + (ii + (p - jj)) by omega]
                exact this.2.2.2 _ (by omega)
              · rw [if_neg (by omega), if_neg c2]; exact (q2 q).2.2.2 p hp
            · rw [if_neg (by omega), cpX_o (by omega)]; exact (q2 q).2.2.2 p hp)
          have fwd : (ss ≠ tt ∨ jj ≤ ii) → K 0 0 M := fun hc => loopUp (P := fun q => ∀ M', (∀ o p, M' o p = if o = 67 ∧ 40 * tt + jj ≤ p ∧ p < 40 * tt + jj + q then M 67 (p - (40 * tt + jj) + (40 * ss + ii)) else M o p) → K 0 (q : Int) M') kk (fun M' he => hK _ _ _ (by
              unfold B_X10_copy_121
              exact ⟨fun _ => fin M' he, fun e => absurd (Int.le_refl _) e⟩))
            (fun q hq' ih M' he => hK _ _ _ (by
              unfold B_X10_copy_121
              rw [w32_id (x := (q : Int) + 1) (by omega), w32_id (x := 40 * (ss : Int)) (by omega), w32_id (x := 40 * (ss : Int) + ii) (by omega), w32_id (x := 40 * (ss : Int) + ii + q) (by omega), w32_id (x := 40 * (tt : Int)) (by omega), w32_id (x := 40 * (tt : Int) + jj) (by omega), w32_id (x := 40 * (tt : Int) + jj + q) (by omega)]
              refine ⟨fun e => by omega, fun _ => ⟨fun _ => ⟨by omega, by omega, fun M1 e1 => ih M1 (fun o p => ?_)⟩, fun e => absurd rfl e⟩⟩
              rw [show (40 * (ss : Int) + ii + q).toNat = 40 * ss + ii + q by omega, show (40 * (tt : Int) + jj + q).toNat = 40 * tt + jj + q by omega, he 67 (40 * ss + ii + q), if_neg (by omega)] at e1
              by_cases c : o = 67 ∧ p = 40 * tt + jj + q
              · obtain ⟨rfl, rfl⟩ := c
                rw [e1, up_same, if_pos (by omega)]
                congr 1; omega
              · rw [e1, up_ne (by omega), he]
                by_cases c2 : o = 67 ∧ 40 * tt + jj ≤ p ∧ p < 40 * tt + jj + q
                · rw [if_pos c2, if_pos (by omega)]
                · rw [if_neg c2, if_neg (by omega)])) 0 (Nat.zero_le _) M (fun o p => by rw [if_neg (by omega)])
          have bwd : ss = tt → ii < jj → K 1 0 M := fun hc hc2 => loopUp (P := fun q => ∀ M', (∀ o p, M' o p = if o = 67 ∧ 40 * tt + jj + kk ≤ p + q ∧ p < 40 * tt + jj + kk then M 67 (p - (40 * tt + jj) + (40 * ss + ii)) else M o p) → K 1 (q : Int) M') kk (fun M' he => hK _ _ _ (by
              unfold B_X10_copy_121
              refine ⟨fun _ => fin M' (fun o p => ?_), fun e => absurd (Int.le_refl _) e⟩
              rw [he]
              by_cases c2 : o = 67 ∧ 40 * tt + jj ≤ p ∧ p < 40 * tt + jj + kk
              · rw [if_pos c2, if_pos (by omega)]
              · rw [if_neg c2, if_neg (by omega)]))
            (fun q hq' ih M' he => hK _ _ _ (by
              unfold B_X10_copy_121
              rw [w32_id (x := (q : Int) + 1) (by omega), w32_id (x := (kk : Int) - 1) (by omega), w32_id (x := (kk : Int) - 1 - q) (by omega), w32_id (x := 40 * (ss : Int)) (by omega), w32_id (x := 40 * (ss : Int) + ii) (by omega), w32_id (x := 40 * (ss : Int) + ii + ((kk : Int) - 1 - q)) (by omega), w32_id (x := 40 * (tt : Int)) (by omega), w32_id (x := 40 * (tt : Int) + jj) (by omega), w32_id (x := 40 * (tt : Int) + jj + ((kk : Int) - 1 - q)) (by omega)]
              refine ⟨fun e => by omega, fun _ => ⟨fun e => by omega, fun _ => ⟨by omega, by omega, fun M1 e1 => ih M1 (fun o p => ?_)⟩⟩⟩
              rw [show (40 * (ss : Int) + ii + ((kk : Int) - 1 - q)).toNat = 40 * ss + ii + (kk - 1 - q) by omega, show (40 * (tt : Int) + jj + ((kk : Int) - 1 - q)).toNat = 40 * tt + jj + (kk - 1 - q) by omega, he 67 (40 * ss + ii + (kk - 1 - q)), if_neg (by omega)] at e1
              by_cases c : o = 67 ∧ p = 40 * tt + jj + (kk - 1 - q)
              · obtain ⟨rfl, rfl⟩ := c
                rw [e1, up_same, if_pos (by omega)]
                congr 1; omega
              · rw [e1, up_ne (by omega), he]
                by_cases c2 : o = 67 ∧ 40 * tt + jj + kk ≤ p + q ∧ p < 40 * tt + jj + kk
                · rw [if_pos c2, if_pos (by omega)]
                · rw [if_neg c2, if_neg (by omega)])) 0 (Nat.zero_le _) M (fun o p => by rw [if_neg (by omega)])
          exact ⟨fun e => ⟨fun e2 => fwd (by omega), fun e2 => bwd (by omega) (by omega)⟩, fun e => fwd (by omega)⟩
    · rw [if_neg ct]
      exact ⟨fun _ => h0 (fun q => ct q.2), fun e => absurd rfl e⟩
  · rw [if_neg cs]
    exact ⟨fun _ => h0 (fun q => cs q.1), fun e => absurd rfl e⟩)
theorem mm_flowers {so a k : Int} (Hh : Hm h M) (Wh : Wf h) (H : Shm x M) (W : WS x) (ha : r32 a) (h0 : ¬ (okN s ∧ (0 ≤ so ∧ so ≤ 2) ∧ (0 ≤ k ∧ k ≤ 6)) → Q (-2) M) (h1 : okN s → (0 ≤ so ∧ so ≤ 2) → (0 ≤ k ∧ k ≤ 6) → x 3 s.toNat = -1 → Q (-11) M) (h2 : okN s → (0 ≤ so ∧ so ≤ 2) → (0 ≤ k ∧ k ≤ 6) → x 3 s.toNat ≠ -1 → x 3 s.toNat ≠ so → Q (-13) M)
    (h3 : okN s → (0 ≤ so ∧ so ≤ 2) → (0 ≤ k ∧ k ≤ 6) → x 3 s.toNat ≠ -1 → x 3 s.toNat = so → ∀ M', Fp sH M M' → Hm (fsS x s.toNat a k.toNat 0 h 0).2 M' → Q (fsS x s.toNat a k.toNat 0 h 0).1 M') : Con (n + 3) md_X10_flowers [vR 51, vI s, vI so, vI a, vI k] M Q := g_X10_flowers (by
  intro K hK
  unfold B_X10_flowers
  refine mm_isSheet ?_
  by_cases cs : okN s
  · rw [if_pos cs]
    have cs' : 0 ≤ s ∧ s < 4 := cs
    refine ⟨fun e => by omega, fun _ => c_in ?_⟩
    by_cases co : 0 ≤ so ∧ so ≤ 2
    · rw [if_pos co]
      refine ⟨fun e => by omega, fun _ => c_in ?_⟩
      by_cases ck : 0 ≤ k ∧ k ≤ 6
      · rw [if_pos ck]
        refine ⟨fun e => by omega, fun _ => ⟨cs', ?_⟩⟩
        by_cases cm : x 3 s.toNat = -1
        · rw [H.no cs cm]; exact ⟨fun _ => ⟨cs', fun _ => h1 cs co ck cm, fun e => absurd rfl e⟩, fun e => absurd rfl e⟩
        · obtain ⟨r1, r2, r3, r4⟩ := H.at cs cm
          rw [r1, r2]
          refine ⟨fun e => by omega, fun _ => ⟨cs', fun e => ⟨cs', fun e => by omega, fun _ => ?_⟩, fun e => h2 cs co ck cm e⟩⟩
          have hb := (W s.toNat (by omega)).2 cm
          have hq := h3 cs co ck cm e
          obtain ⟨T, hT⟩ : ∃ T, T = fsS x s.toNat a k.toNat 0 h 0 := ⟨_, rfl⟩
          rw [← hT] at hq
          have key : ∀ (d i : Nat) (g : Mem) (c : Int) (M' : Mem), (i : Int) + d = k → (0 ≤ c ∧ c ≤ i) → Fp sH M M' → Hm g M' → Wf g → fsS x s.toNat a d i g c = T → K c (i : Int) M' := by
            intro d
            induction d with
            | zero =>
              intro i g c M' hi hc F Hg Wg he
              apply hK
              unfold B_X10_flowers_75
              unfold fsS at he
              rw [← he] at hq
              exact ⟨fun _ => hq M' F Hg, fun e => by omega⟩
            | succ d ih =>
              intro i g c M' hi hc F Hg Wg he
              apply hK
              unfold B_X10_flowers_75
              have H' := H.fr F sHS
              obtain ⟨p1, p2, p3, p4⟩ := H'.at cs cm
              unfold fsS at he
              unfold r32 at ha
              refine ⟨fun e => by omega, fun _ => ⟨fun ea => ?_, fun ea => ⟨cs', ?_⟩⟩⟩
              · rw [if_neg (by omega)] at he
                rw [← he] at hq
                exact hq M' F Hg
              · rw [p3, w32_id (x := 2 * (i : Int)) (by omega), w32_id (x := x 4 s.toNat - 2 * (i : Int)) (by omega), w32_id (x := x 4 s.toNat - 2 * (i : Int) - 2) (by omega)]
                refine ⟨fun el => ?_, fun el => ?_⟩
                · rw [if_pos (by omega)] at he
                  rw [w32_id (x := 40 * s) (by omega), w32_id (x := 40 * s + a) (by omega), w32_id (x := 40 * s + a + 2 * (i : Int)) (by omega), w32_id (x := 40 * s + a + 2 * (i : Int) + 1) (by omega)]
                  have v1 := p4 (a + 2 * (i : Int)) (by omega) (by omega)
                  have v2 := p4 (a + 2 * (i : Int) + 1) (by omega) (by omega)
                  rw [show 40 * s + (a + 2 * (i : Int)) = 40 * s + a + 2 * (i : Int) by omega] at v1
                  rw [show 40 * s + (a + 2 * (i : Int) + 1) = 40 * s + a + 2 * (i : Int) + 1 by omega] at v2
                  rw [v1, v2]
                  generalize x (5 + s.toNat) (a + 2 * (i : Int)).toNat = kd at he ⊢
                  generalize x (5 + s.toNat) (a + 2 * (i : Int) + 1).toNat = nu at he ⊢
                  rw [w32_id (x := c + 0) (by omega), w32_id (x := c + 1) (by omega), w32_id (x := (i : Int) + 1) (by omega), Int.add_zero]
                  have g3 := Wg.2.2.1
                  refine ⟨by omega, by omega, mm_flower Hg Wg (fun q => ?_) (fun q1 q2 => ?_) (fun q1 q2 M2 F2 H2 => ?_)⟩
                  · rw [if_neg (fun r => q r.1)] at he
                    exact ⟨fun _ => ih (i + 1) g c M' (by omega) (by omega) F Hg Wg he, fun e => by omega⟩
                  · rw [if_neg (fun r => q2 r.2)] at he
                    exact ⟨fun _ => ih (i + 1) g c M' (by omega) (by omega) F Hg Wg he, fun e => by omega⟩
                  · rw [if_pos ⟨q1, q2⟩] at he
                    exact ⟨fun e => by omega, fun _ => ih (i + 1) _ (c + 1) M2 (by omega) (by omega) (F.tr F2) H2 (flH_wf Wg q2 q1.1 q1.2) he⟩
                · rw [if_neg (by omega)] at he
                  rw [← he] at hq
                  exact hq M' F Hg
          exact key k.toNat 0 h 0 M (by omega) (by omega) Fp.rf Hh Wh hT.symm
      · rw [if_neg ck]
        exact ⟨fun _ => h0 (fun q => ck q.2.2), fun e => absurd rfl e⟩
    · rw [if_neg co]
      exact ⟨fun _ => h0 (fun q => co q.2.1), fun e => absurd rfl e⟩
  · rw [if_neg cs]
    exact ⟨fun _ => h0 (fun q => cs q.1), fun e => absurd rfl e⟩)
end MS
