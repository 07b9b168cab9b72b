/-! THE PROGRAM'S text -/
section RT
variable {B : Nat → Int} {N n : Nat} {M : Mem} {Q : Int → Mem → Prop}
theorem tkc_end {p : Nat} (h : tkc B N p = 13) : tkc B N (nxt B N p) = 13 := by
  have hb : bt B N (sta B N p) = -1 := by
    apply Classical.byContradiction
    intro c
    unfold tkc at h
    have hr := wc_r (B := B) (N := N) (s := sta B N p) (e := ruE le B N (sta B N p))
    rw [if_neg c] at h
    by_cases c2 : le (bt B N (sta B N p)) = true
    · rw [if_pos c2] at h; omega
    · rw [if_neg c2] at h
      by_cases c3 : di (bt B N (sta B N p)) = true
      · rw [if_pos c3] at h
        by_cases c4 : ruE di B N (sta B N p) - sta B N p ≤ 4
        · rw [if_pos c4] at h; omega
        · rw [if_neg c4] at h; omega
      · rw [if_neg c3] at h
        by_cases c4 : sg (bt B N (sta B N p))
        · rw [if_pos c4] at h; unfold sg at c4; omega
        · rw [if_neg c4] at h; omega
  have hn : nxt B N p = sta B N p := if_pos hb
  have hs : sta B N (sta B N p) = sta B N p := by
    show ruE bl B N (sta B N p) = sta B N p
    exact ruE_f (by rw [hb]; rfl)
  unfold tkc
  rw [hn, hs, if_pos hb]
theorem c_readTape (hL : JL) (hC : JC) (T : TB B N M) (hq : ∀ M', Fr sX M M' → (∀ f, rE B N = .inl f → M' 33 5 = f ∧ f ≠ -1) → (∀ q, rE B N = .inr q → M' 33 5 = -1 ∧ Cc q.1 M' ∧ M' 35 0 = (cd (rT B N 1)).length ∧ M' 35 1 = (cd (rT B N 2)).length ∧ M' 35 2 = (cd (rT B N 3)).length) → Q (M' 33 5) M') : Con (n + 49) md_X4_readTape [vR 33] M Q := g_X4_readTape (fun K hK => by
  unfold B_X4_readTape
  intro M10 e10 M11 e11 M12 e12
  have F12 : Fr sX M M12 := by rw [e12, e11, e10]; exact ((Fr.rf.up (by decide)).up (by decide)).up (by decide)
  have st : ∀ (k : Nat) (r : RR) (M' : Mem), k < 3 → Fr sX M M' → CS B N r M' → (∀ M'', Fr sX M M'' → CS B N (pt B N (k : Int) r) M'' → (∀ j, j ≠ k → M'' 35 j = M' 35 j) → (∀ q, pt B N (k : Int) r = .inr q → M'' 35 k = q.1.length) → K ((k : Int) + 1) M'') → K (k : Int) M' := fun k r M' hk F C hn => hK _ _ (by
    unfold B_X4_readTape_21
    rw [w32_id (x := 6 + (k : Int)) (by omega), w32_id (x := (k : Int) + 1) (by omega)]
    have T' : TB B N M' := T.fr F
    refine ⟨fun e => by omega, fun _ => c_ex hL hC T' C (by omega) (fun M4 F4 C4 => ?_)⟩
    have T4 : TB B N M4 := T'.fr (F4.mono (by decide))
    have cor := (cx_lvl (B := B) (N := N) hL hC 5 (by omega)).2.2 n
    rw [show 6 * 5 + n + 18 = n + 48 by omega] at cor
    refine cor M4 _ _ T4 C4 (fun M6 F6 C6 => c_ex hL hC (T4.Y F6) C6 (by decide) (fun M8 F8 C8 => ⟨by omega, fun M9 e9 => ?_⟩))
    have F08 : Fr sX M M8 := F.tr ((F4.mono (by decide)).tr ((F6.mono (by decide)).tr (F8.mono (by decide))))
    have g : ∀ o k', o ≠ 35 → M9 o k' = M8 o k' := fun o k' ho => by rw [e9, up_ne (by omega)]
    refine hn M9 (by rw [e9]; exact F08.up (by decide)) ?_ (fun j hj => ?_) (fun q hq' => ?_)
    · show CS B N (pt B N (k : Int) r) M9
      have C8' : CS B N (pt B N (k : Int) r) M8 := C8
      match hr : pt B N (k : Int) r, C8' with
      | .inl f, C8' =>
        obtain ⟨q1, q2, q3, q4, q5⟩ := C8'
        exact ⟨by rw [g 33 5 (by decide)]; exact q1, q2, by rw [g 33 6 (by decide)]; exact q3, by rw [g 33 3 (by decide)]; exact q4, by rw [g 33 3 (by decide)]; exact q5⟩
      | .inr q, C8' =>
        obtain ⟨q1, q2, q3, q4, q5, q6, q7⟩ := C8'
        exact ⟨by rw [g 33 6 (by decide)]; exact q1, by rw [g 33 7 (by decide)]; exact q2, by rw [g 33 4 (by decide)]; exact q3, by rw [g 33 8 (by decide)]; exact q4, by rw [g 33 5 (by decide)]; exact q5, q6.fr (g 33 3 (by decide)) (fun i => g 34 i (by decide)), q7⟩
    · rw [e9, up_ne (by omega), F8 35 j (by decide), F6 35 j (by decide), F4 35 j (by decide)]
    · have C8' : CS B N (pt B N (k : Int) r) M8 := C8
      rw [hq'] at C8'
      rw [e9, show (k : Int).toNat = k from rfl, up_same]
      exact C8'.2.2.2.2.2.1.1)
  refine c_adv0 hL hC (c := []) (p := 0) (T.fr F12) (by rw [e12, up_ne (by omega), e11, up_same]; rfl) (by rw [e12, up_same]) ⟨by rw [e12, up_ne (by omega), e11, up_ne (by omega), e10, up_same]; rfl, fun i hi => by simp at hi⟩ (by simp) (fun M14 F14 C14 => ?_)
  have F014 : Fr sX M M14 := F12.tr (F14.mono (by decide))
  refine st 0 _ M14 (by omega) F014 C14 (fun M1 F1 C1 g1 l1 => st 1 _ M1 (by omega) F1 C1 (fun M2 F2 C2 g2 l2 => st 2 _ M2 (by omega) F2 C2 (fun M3 F3 C3 g3 l3 => hK _ _ ?_)))
  unfold B_X4_readTape_21
  refine ⟨fun _ => c_ex hL hC (T.fr F3) C3 (by decide) (fun M4 F4 C4 => ?_), fun e => absurd (by decide) e⟩
  have C4' : CS B N (rE B N) M4 := C4
  refine hq M4 (F3.tr (F4.mono (by decide))) (fun f hf => ?_) (fun q hq' => ?_)
  · rw [hf] at C4'; exact ⟨C4'.1, C4'.2.1⟩
  · obtain ⟨q1, q2, q3, h1, h2, h3, -, -, -, t13, -, eq⟩ := rE_ok hq'
    rw [hq'] at C4'
    obtain ⟨c1, c2, c3, c4, c5, c6, c7⟩ := C4'
    have t14 : tkc B N q.2 ≠ 14 := by rw [eq]; show tkc B N (nxt B N q3.2) ≠ 14; rw [tkc_end t13]; decide
    rw [if_neg t14] at c5
    have a1 := l1 q1 h1
    have a2 := l2 q2 h2
    have a3 := l3 q3 h3
    refine ⟨c5, c6, ?_, ?_, ?_⟩
    · rw [F4 35 0 (by decide), g3 0 (by decide), g2 0 (by decide), h1]; exact a1
    · rw [F4 35 1 (by decide), g3 1 (by decide), h2]; exact a2
    · rw [F4 35 2 (by decide), h3]; exact a3)
def tau1 (τ : Int → Int → (Nat → Int) → Int) (B : Nat → Int) (N : Nat) (z : Int) : Int → Int → (Nat → Int) → Int := fun t p e => if t = z then valP B N p e else τ t p e
abbrev sZ : List Nat := [15, 17, 19, 20, 21, 22, 23, 24, 26, 27, 28, 29, 30, 31, 33, 34, 35]
theorem cp0 (A : Mem) (s d : Nat) (m : Int) (o k : Nat) : cpM A s d 0 0 m o k = if o = d then (if k < m.toNat then A s k else A d k) else A o k := by
  unfold cpM upr
  by_cases e : o = d
  · rw [if_pos e, if_pos e]
    show (if _ then _ else _) = _
    simp
  · rw [if_neg e, if_neg e]
theorem getD_app {a b : List Int} {j : Nat} : (a ++ b).getD (a.length + j) 0 = b.getD j 0 := by simp [List.getD, List.getElem?_append_right (Nat.le_add_right a.length j)]
theorem getD_left {a b : List Int} {j : Nat} (h : j < a.length) : (a ++ b).getD j 0 = a.getD j 0 := by simp [List.getD, List.getElem?_append_left h]
theorem x_text (hL : JL) (hC : JC) {τ : Int → Int → (Nat → Int) → Int} {x : Mem} (Ht : Tpc x M) (h16 : 0 ≤ x 1 0 ∧ x 1 0 ≤ 160) (TT : TC τ M) (h0 : ¬ M 17 0 < 6 → Q (-4) M) (h1 : M 17 0 < 6 → ∀ f, rE (x 2) (x 1 0).toNat = .inl f → ∀ M', Fr sZ M M' → M' 15 1 = 0 → M' 17 0 = M 17 0 → TC τ M' → Q (w32 (-100 - f)) M')
    (h2 : M 17 0 < 6 → ∀ q, rE (x 2) (x 1 0).toNat = .inr q → ∀ M', Fr sZ M M' → M' 15 1 = 0 → M' 17 0 = M 17 0 + 1 → TC (tau1 τ (x 2) (x 1 0).toNat (M 17 0)) M' → Q (M 17 0) M') : Con (n + 50) md_X9_text [vR 0] M Q := g_X9_text (by
  unfold B_X9_text
  have t6 := TT.1
  obtain ⟨B, hB⟩ : ∃ B, B = x 2 := ⟨_, rfl⟩
  obtain ⟨N, hN⟩ : ∃ N, N = (x 1 0).toNat := ⟨_, rfl⟩
  rw [← hB, ← hN] at h1 h2
  have isF : ∀ M' : Mem, ∀ Q' : Int → Mem → Prop, (M' 17 0 < 6 → Q' 0 M') → (¬ M' 17 0 < 6 → Q' 1 M') → Con (n + 49) md_X7_isFull [vR 17] M' Q' := fun M' Q' q1 q2 => g_X7_isFull (by unfold B_X7_isFull; exact ⟨q1, q2⟩)
  refine isF _ _ (fun l6 => ⟨fun _ => ?_, fun e => absurd rfl e⟩) (fun l6 => ⟨fun e => by omega, fun _ => h0 l6⟩)
  have T : TB B N M := ⟨by rw [Ht.1, hN]; omega, by omega, fun i hi => by rw [Ht.2 i (by omega), hB]⟩
  refine c_readTape hL hC T (fun M4 F4 c1 c2 => g_X6_clear ?_)
  unfold B_X6_clear
  intro M6 e6
  have F6 : Fr [15, 33, 34, 35] M M6 := by rw [e6]; exact (F4.mono (by decide)).up (by decide)
  have T6 : TC τ M6 := TT.fr F6 (by simp; omega)
  have n17 : M6 17 0 = M 17 0 := F6 17 0 (by decide)
  match hr : rE B N with
  | .inl f =>
    obtain ⟨e5, f1⟩ := c1 f hr
    rw [e5]
    exact ⟨fun e => absurd e f1, fun _ => h1 l6 f hr M6 (F6.mono (by decide)) (by rw [e6, up_same]) n17 T6⟩
  | .inr q =>
    obtain ⟨e5, cc, l0, l1, l2⟩ := c2 q hr
    obtain ⟨q1, q2, q3, r1, r2, r3, s0, s1, s2, t13, hv, eq⟩ := rE_ok hr
    rw [e5]
    refine ⟨fun _ => g_X7_add ?_, fun e => absurd rfl e⟩
    unfold B_X7_add
    refine (by
      have := isF M6
      exact g_X7_isFull (by
        unfold B_X7_isFull
        rw [n17]
        refine ⟨fun _ => ⟨fun _ => ⟨by omega, fun M7 e7 => ?_⟩, fun e => absurd rfl e⟩, fun e => absurd l6 e⟩
        have m7 : M7 17 0 = M 17 0 := by rw [e7, cp0, if_neg (by omega)]; exact n17
        rw [m7]
        refine ⟨by omega, fun M8 e8 M9 e9 => ?_⟩
        have m8 : M8 17 0 = M 17 0 := by rw [e8, cp0, if_neg (by omega)]; exact m7
        rw [m8, w32_id (by omega)] at e9
        have m9 : M9 17 0 = M 17 0 + 1 := by rw [e9, up_same]
        rw [m9, w32_id (by omega), show M 17 0 + 1 - 1 = M 17 0 by omega]
        obtain ⟨z, hz⟩ : ∃ z : Nat, (z : Int) = M 17 0 := ⟨(M 17 0).toNat, by omega⟩
        have hzN : (M 17 0).toNat = z := by omega
        rw [n17, hzN] at e7
        rw [hzN] at e8
        have v9 : ∀ o k, M9 o k = if o = 17 ∧ k = 0 then M 17 0 + 1 else if o = 26 + z then (if k < 3 then M6 35 k else M6 (26 + z) k) else if o = 19 + z then (if k < 160 then M6 34 k else M6 (19 + z) k) else M6 o k := fun o k => by
          by_cases c : o = 17 ∧ k = 0
          · rw [if_pos c]; obtain ⟨rfl, rfl⟩ := c; exact m9
          · rw [if_neg c, e9, up_ne (by omega), e8, cp0]
            by_cases c2 : o = 26 + z
            · rw [if_pos c2, if_pos c2]
              show (if k < 3 then M7 35 k else M7 (26 + z) k) = _
              have a35 : M7 35 k = M6 35 k := by rw [e7, cp0, if_neg (by omega)]
              have a26 : M7 (26 + z) k = M6 (26 + z) k := by rw [e7, cp0, if_neg (by omega)]
              rw [a35, a26]
            · rw [if_neg c2, if_neg c2, e7, cp0]
              by_cases c3 : o = 19 + z
              · rw [if_pos c3, if_pos c3]; rfl
              · rw [if_neg c3, if_neg c3]
        refine h2 l6 q hr M9 (fun o k ho => ?_) ?_ m9 ⟨by omega, fun t p g1 g2 g3 g4 => ?_⟩
        · simp [sZ] at ho
          rw [v9, if_neg (by omega), if_neg (by omega), if_neg (by omega)]; exact F6 o k (by simp; omega)
        · rw [v9, if_neg (by omega), if_neg (by omega), if_neg (by omega), e6, up_same]
        · rw [m9] at g2
          by_cases ct : t = M 17 0
          · have ht : t.toNat = z := by omega
            rw [ht]
            have lens : cd (rT B N 1) = q1.1 ∧ cd (rT B N 2) = q2.1 ∧ cd (rT B N 3) = q3.1 := by rw [r1, r2, r3]; exact ⟨rfl, rfl, rfl⟩
            rw [lens.1] at l0
            rw [lens.2.1] at l1
            rw [lens.2.2] at l2
            have w3 : q3.1.length ≤ 160 := by
              have : WR N 0 (rT B N 3) := pt_W _ _ (pt_W _ _ (pt_W _ _ (fun q e => by cases e; simp)))
              have := this q3 r3
              have := T.2.1
              omega
            have le2 : q2.1.length = q1.1.length + (seg B N 1).length := by rw [s1]; simp
            have le3 : q3.1.length = q2.1.length + (seg B N 2).length := by rw [s2]; simp
            have row : ∀ k, k < q3.1.length → M9 (19 + z) k = q3.1.getD k 0 := fun k hk => by
              rw [v9, if_neg (by omega), if_neg (by omega), if_pos rfl, if_pos (by omega), e6, up_ne (by omega)]
              have := cc.2 k (by rw [eq]; exact hk)
              rw [this, eq]
            have ends : ∀ j, j < 3 → M9 (26 + z) j = M4 35 j := fun j hj => by
              rw [v9, if_neg (by omega), if_pos rfl, if_pos hj, e6, up_ne (by omega)]
            have E0 := ends 0 (by omega)
            have E1 := ends 1 (by omega)
            have E2 := ends 2 (by omega)
            rw [l0] at E0
            rw [l1] at E1
            rw [l2] at E2
            have tv : ∀ e, tau1 τ B N (M 17 0) t p e = valP B N p e := fun e => if_pos ct
            rcases (show p = 0 ∨ p = 1 ∨ p = 2 by omega) with e | e | e <;> subst e
            · refine ⟨0, q1.1.length, by omega, by omega, fun _ => rfl, fun e => absurd rfl e, E0, fun e => ?_⟩
              rw [tv, ← hv e 0, ← s0, Nat.sub_zero]
              refine rn_rl q1.1 0 [] (fun j hj => ?_)
              rw [Nat.zero_add, row j (by omega), s2, s1, getD_left (by simp; omega), getD_left hj]
            · refine ⟨q1.1.length, q2.1.length, by omega, by omega, fun e => by omega, fun _ => E0, E1, fun e => ?_⟩
              rw [tv, ← hv e 1, show q2.1.length - q1.1.length = (seg B N 1).length by omega]
              refine rn_rl _ _ [] (fun j hj => ?_)
              rw [row _ (by omega), s2, getD_left (by rw [s1]; simp; omega), s1, getD_app]
            · refine ⟨q2.1.length, q3.1.length, by omega, by omega, fun e => by omega, fun _ => E1, E2, fun e => ?_⟩
              rw [tv, ← hv e 2, show q3.1.length - q2.1.length = (seg B N 2).length by omega]
              refine rn_rl _ _ [] (fun j hj => ?_)
              rw [row _ (by omega), s2, getD_app]
          · obtain ⟨f, g, k1, k2, k3, k4, k5, k6⟩ := TT.2 t p g1 (by omega) g3 g4
            have old : ∀ o, (o = 26 + t.toNat ∨ o = 19 + t.toNat) → M9 o = M o := fun o ho => funext fun k => by
              rw [v9, if_neg (by omega), if_neg (by omega), if_neg (by omega)]; exact F6 o k (by simp; omega)
            refine ⟨f, g, k1, k2, k3, ?_, ?_, ?_⟩
            · rw [old _ (Or.inl rfl)]; exact k4
            · rw [old _ (Or.inl rfl)]; exact k5
            · rw [old _ (Or.inr rfl)]
              intro e
              have : tau1 τ B N (M 17 0) t p e = τ t p e := if_neg ct
              rw [this]; exact k6 e)))
end RT
