/-! THE PROGRAM'S TEXTS -/
def PVx (X : RR → RR) : Prop := ∀ (e : Nat → Int) (c0 : List Int) (p : Nat), ∃ v, PV e c0 (X (.inr (c0, p))) v
def biS (st : Int → Int) : Prop := st 14 = 0 ∧ ∀ t, st t ≠ 0 → st t = -17 ∨ st t = -16 ∨ st t = -15 ∨ st t = -11 ∨ st t = -10
theorem st1_bi {e : Nat → Int} {c a b : Int} {s : List Int} (hc : c = -17 ∨ c = -16 ∨ c = -15 ∨ c = -14 ∨ c = -13 ∨ c = -11 ∨ c = -10) : st1 e c (b :: a :: s) = some (o2 c a b :: s) := by
  unfold st1; rw [if_neg (by omega), if_neg (by omega)]
theorem st1_un {e : Nat → Int} {c a : Int} {s : List Int} (hc : c = -12 ∨ c = -18) : st1 e c (a :: s) = some (o1 c a :: s) := by
  unfold st1; rw [if_neg (by omega), if_pos hc]
section PQ
variable {B : Nat → Int} {N : Nat}
theorem lp_PV {X : RR → RR} {st : Int → Int} (hX : PVx X) (hs : biS st) {e : Nat → Int} {c0 : List Int} : ∀ (f : Nat) (r : RR) (v : Int), PV e c0 r v → ∃ v', PV e c0 (lp B N X st f r) v'
  | 0, r, v, h => ⟨v, h⟩
  | f + 1, r, v, h => by
    by_cases c : st (tok B N r) = 0
    · rw [lp_0 c]; exact ⟨v, h⟩
    · rw [lp_1 c]
      match r, h, c with
      | .inl g, h, c => exact absurd hs.1 c
      | .inr q, h, c =>
        obtain ⟨b, hb⟩ := hX e q.1 (nxt B N q.2)
        exact lp_PV hX hs f _ _ (PV.bin h hb (fun s => st1_bi (by have := hs.2 _ c; omega)))
theorem stT_b : biS stT := ⟨rfl, fun t => by unfold stT; split <;> omega⟩
theorem stS_b : biS stS := ⟨rfl, fun t => by unfold stS; split <;> (try split) <;> omega⟩
theorem stA_b : biS stA := ⟨rfl, fun t => by unfold stA; split <;> omega⟩
theorem stO_b : biS stO := ⟨rfl, fun t => by unfold stO; split <;> omega⟩
theorem tkc_nn {p : Nat} : 0 ≤ tkc B N p := by
  unfold tkc
  have hr := wc_r (B := B) (N := N) (s := sta B N p) (e := ruE le B N (sta B N p))
  repeat' split
  all_goals first | omega | (rename_i c; unfold sg at c; omega)
theorem tvl_nn {p : Nat} (h : tkc B N p = 12) : 0 ≤ tvl B N p := by
  have hd : ∀ i, sta B N p ≤ i → i < ruE di B N (sta B N p) → di (bt B N i) = true := ruE_in rfl _ _ rfl
  have h4 : ruE di B N (sta B N p) - sta B N p ≤ 4 := by
    unfold tkc at h
    have hr := wc_r (B := B) (N := N) (s := sta B N p) (e := ruE le B N (sta B N p))
    by_cases c1 : bt B N (sta B N p) = -1
    · rw [if_pos c1] at h; omega
    · rw [if_neg c1] at h
      by_cases c2 : le (bt B N (sta B N p)) = true
      · rw [if_pos c2] at h; omega
      · rw [if_neg c2] at h
        by_cases c3 : di (bt B N (sta B N p)) = true
        · rw [if_pos c3] at h
          by_cases c4 : ruE di B N (sta B N p) - sta B N p ≤ 4
          · exact c4
          · rw [if_neg c4] at h; omega
        · rw [if_neg c3] at h
          by_cases c4 : sg (bt B N (sta B N p))
          · rw [if_pos c4] at h; unfold sg at c4; omega
          · rw [if_neg c4] at h; omega
  exact (numv_b _ (by omega) (fun j hj => hd _ (by omega) (by omega))).1
theorem one_PV {d0 : Bool} {A O : RR → RR} (hA : d0 = true → PVx A) (hO : d0 = true → PVx O) : PVx (oneS B N d0 A O) := fun e c0 p => by
  unfold oneS
  by_cases c1 : tok B N (.inr (c0, p)) = 12
  · rw [if_pos c1]
    have hv := tvl_nn (B := B) (N := N) (p := p) c1
    exact ⟨tvl B N p, (PV.one (c := c0) (a := tvl B N p) (p := p) (fun s => by unfold st1; rw [if_pos (by omega), if_pos hv])).adv⟩
  · rw [if_neg c1]
    by_cases c2 : 0 ≤ tok B N (.inr (c0, p)) ∧ tok B N (.inr (c0, p)) < 6
    · rw [if_pos c2]
      have c2' : 0 ≤ tkc B N p ∧ tkc B N p < 6 := c2
      exact ⟨e (-1 - (-1 - tkc B N p)).toNat, (PV.one (c := c0) (a := -1 - tkc B N p) (p := p) (fun s => by unfold st1; rw [if_pos (by omega), if_neg (by omega)])).adv⟩
    · rw [if_neg c2]
      by_cases c3 : tok B N (.inr (c0, p)) = 45 ∧ d0 = true
      · rw [if_pos c3]
        obtain ⟨a, ha⟩ := hA c3.2 e c0 (nxt B N p)
        exact ⟨_, PV.un ha (fun s => st1_un (Or.inr rfl))⟩
      · rw [if_neg c3]
        by_cases c4 : tok B N (.inr (c0, p)) = 40 ∧ d0 = true
        · rw [if_pos c4]
          obtain ⟨a, ha⟩ := hO c4.2 e c0 (nxt B N p)
          exact ⟨a, PV.ex ha⟩
        · rw [if_neg c4]; exact ⟨0, PV.fl⟩
theorem term_PV {A : RR → RR} (hA : PVx A) : PVx (termS B N A) := fun e c0 p => by
  obtain ⟨v, hv⟩ := hA e c0 p
  exact lp_PV hA stT_b 160 _ v hv
theorem sum_PV {A : RR → RR} (hA : PVx A) : PVx (sumS B N A) := fun e c0 p => by
  obtain ⟨v, hv⟩ := term_PV (B := B) (N := N) hA e c0 p
  exact lp_PV (term_PV hA) stS_b 160 _ v hv
theorem cmp_PV {A : RR → RR} (hA : PVx A) {e : Nat → Int} {c0 : List Int} {r : RR} {v : Int} (h : PV e c0 r v) : ∃ v', PV e c0 (cmpS B N A r) v' := by
  unfold cmpS
  match r, h with
  | .inl f, h => exact ⟨v, by rw [if_neg (by show ¬ (14 : Int) = 60; decide), if_neg (by show ¬ (14 : Int) = 61; decide)]; exact h⟩
  | .inr q, h =>
    obtain ⟨b, hb⟩ := sum_PV (B := B) (N := N) hA e q.1 (nxt B N q.2)
    split
    · exact ⟨_, PV.bin h hb (fun s => st1_bi (by omega))⟩
    · split
      · exact ⟨_, PV.bin h hb (fun s => st1_bi (by omega))⟩
      · exact ⟨v, h⟩
theorem not_PV {d0 : Bool} {Nn A : RR → RR} (hN : d0 = true → PVx Nn) (hA : PVx A) : PVx (notS B N d0 Nn A) := fun e c0 p => by
  unfold notS
  by_cases c : tok B N (.inr (c0, p)) = 11 ∧ d0 = true
  · rw [if_pos c]
    obtain ⟨a, ha⟩ := hN c.2 e c0 (nxt B N p)
    exact ⟨_, PV.un ha (fun s => st1_un (Or.inl rfl))⟩
  · rw [if_neg c]
    obtain ⟨v, hv⟩ := sum_PV (B := B) (N := N) hA e c0 p
    exact cmp_PV hA hv
theorem and_PV {A : RR → RR} (hA : PVx A) : PVx (andS B N A) := fun e c0 p => by
  obtain ⟨v, hv⟩ := hA e c0 p
  exact lp_PV hA stA_b 160 _ v hv
theorem or_PV {A : RR → RR} (hA : PVx A) : PVx (orQ B N A) := fun e c0 p => by
  obtain ⟨v, hv⟩ := and_PV (B := B) (N := N) hA e c0 p
  exact lp_PV (and_PV hA) stO_b 160 _ v hv
theorem pN_PV : ∀ d : Nat, PVx (pN B N d).1 ∧ PVx (pN B N d).2
  | 0 => ⟨one_PV (fun q => by cases q) (fun q => by cases q), not_PV (fun q => by cases q) (one_PV (fun q => by cases q) (fun q => by cases q))⟩
  | d + 1 => ⟨one_PV (fun _ => (pN_PV d).1) (fun _ => or_PV (pN_PV d).2), not_PV (fun _ => (pN_PV d).2) (one_PV (fun _ => (pN_PV d).1) (fun _ => or_PV (pN_PV d).2))⟩
theorem pt_PV {k : Int} : PVx (pt B N k) := fun e c0 p => by
  unfold pt
  by_cases c : tok B N (.inr (c0, p)) = 6 + k
  · have e1 : ex B N (6 + k) (.inr (c0, p)) = .inr (c0, nxt B N p) := if_pos c
    rw [e1]
    obtain ⟨v, hv⟩ := or_PV (B := B) (N := N) (pN_PV 5).2 e c0 (nxt B N p)
    exact ⟨v, PV.ex hv⟩
  · have e1 : ex B N (6 + k) (.inr (c0, p)) = .inl ((sta B N p : Nat) : Int) := if_neg c
    rw [e1]
    have il : ∀ (X : RR → RR) (st : Int → Int), st 14 = 0 → (∀ f, X (.inl f) = .inl f) → ∀ (k : Nat) (f : Int), lp B N X st k (.inl f) = .inl f := fun X st h0 hX k f => by
      match k with
      | 0 => rfl
      | k + 1 => exact lp_0 h0
    refine ⟨0, fun q hq => ?_⟩
    have o1 : ∀ f, (pN B N 5).1 (.inl f) = .inl f := fun f => rfl
    have o2 : ∀ f, termS B N (pN B N 5).1 (.inl f) = .inl f := fun f => rfl
    have o3 : ∀ f, sumS B N (pN B N 5).1 (.inl f) = .inl f := fun f => rfl
    have o4 : ∀ f, (pN B N 5).2 (.inl f) = .inl f := fun f => rfl
    have o5 : ∀ f, orQ B N (pN B N 5).2 (.inl f) = .inl f := fun f => rfl
    rw [o5] at hq
    cases hq
end PQ
def cd : RR → List Int
  | .inl _ => []
  | .inr q => q.1
def seg (B : Nat → Int) (N : Nat) (p : Int) : List Int := if p = 0 then cd (rT B N 1) else if p = 1 then (cd (rT B N 2)).drop (cd (rT B N 1)).length else (cd (rT B N 3)).drop (cd (rT B N 2)).length
def vl (e : Nat → Int) (c : List Int) : Int := match rl e c [] with
  | some (v :: _) => v
  | _ => 0
def valP (B : Nat → Int) (N : Nat) (p : Int) (e : Nat → Int) : Int := vl e (seg B N p)
theorem rn_rl {row e : Nat → Int} : ∀ (c : List Int) (i : Nat) (s : List Int), (∀ j, j < c.length → row (i + j) = c.getD j 0) → rn row e c.length i s = rl e c s
  | [], i, s, h => rfl
  | a :: c, i, s, h => by
    show (st1 e (row i) s).bind (rn row e c.length (i + 1)) = (st1 e a s).bind (rl e c)
    have h0 := h 0 (by simp)
    have h0' : row i = a := by simpa using h0
    rw [h0']
    congr 1
    funext s'
    exact rn_rl c (i + 1) s' (fun j hj => by
      have := h (j + 1) (by simp; omega)
      rw [show i + 1 + j = i + (j + 1) by omega, this]; simp)
theorem PV_vl {e : Nat → Int} {c0 c : List Int} {p : Nat} {v : Int} (h : PV e c0 (.inr (c0 ++ c, p)) v) : rl e c [] = some [vl e c] ∧ vl e c = v := by
  obtain ⟨c', h1, h2⟩ := h _ rfl
  have e1 : c = c' := List.append_cancel_left h1
  subst e1
  have h3 := h2 []
  unfold vl
  rw [h3]; exact ⟨rfl, rfl⟩
section PR
variable {B : Nat → Int} {N : Nat}
theorem ex_inl {k f : Int} : ex B N k (.inl f) = .inl f := by unfold ex; split <;> rfl
theorem pt_inl {k f : Int} : pt B N k (.inl f) = .inl f := by unfold pt; rw [ex_inl]; rfl
/-- a text that is read well -/
theorem rE_ok {q : List Int × Nat} (h : rE B N = .inr q) : ∃ q1 q2 q3, rT B N 1 = .inr q1 ∧ rT B N 2 = .inr q2 ∧ rT B N 3 = .inr q3 ∧ q1.1 = seg B N 0 ∧ q2.1 = q1.1 ++ seg B N 1 ∧ q3.1 = q2.1 ++ seg B N 2 ∧ tkc B N q3.2 = 13 ∧ (∀ e p, rl e (seg B N p) [] = some [valP B N p e]) ∧ q = (q3.1, nxt B N q3.2) := by
  have ha : ∃ q3, rT B N 3 = .inr q3 := by
    unfold rE at h
    match hr : rT B N 3, h with
    | .inl f, h => cases h
    | .inr q3, h => exact ⟨q3, rfl⟩
  obtain ⟨q3, h3⟩ := ha
  have hb : ∃ q2, rT B N 2 = .inr q2 := by
    have h3' : pt B N 2 (rT B N 2) = .inr q3 := h3
    match hr : rT B N 2, h3' with
    | .inl f, h3' => cases h3'
    | .inr q2, h3' => exact ⟨q2, rfl⟩
  obtain ⟨q2, h2⟩ := hb
  have hc : ∃ q1, rT B N 1 = .inr q1 := by
    have h2' : pt B N 1 (rT B N 1) = .inr q2 := h2
    match hr : rT B N 1, h2' with
    | .inl f, h2' => cases h2'
    | .inr q1, h2' => exact ⟨q1, rfl⟩
  obtain ⟨q1, h1⟩ := hc
  have p1 : pt B N 0 (.inr ([], 0)) = .inr q1 := h1
  have p2 : pt B N 1 (.inr q1) = .inr q2 := by rw [← h1]; exact h2
  have p3 : pt B N 2 (.inr q2) = .inr q3 := by rw [← h2]; exact h3
  have e1 : ∀ e, ∃ v, PV e [] (.inr q1) v := fun e => by rw [← p1]; exact pt_PV e [] 0
  have e2 : ∀ e, ∃ v, PV e q1.1 (.inr q2) v := fun e => by rw [← p2]; exact pt_PV e q1.1 q1.2
  have e3 : ∀ e, ∃ v, PV e q2.1 (.inr q3) v := fun e => by rw [← p3]; exact pt_PV e q2.1 q2.2
  have s0 : seg B N 0 = q1.1 := by unfold seg; rw [if_pos rfl, h1]; rfl
  obtain ⟨c2, hc2, -⟩ := (e2 (fun _ => 0)).choose_spec q2 rfl
  obtain ⟨c3, hc3, -⟩ := (e3 (fun _ => 0)).choose_spec q3 rfl
  have s1 : seg B N 1 = c2 := by unfold seg; rw [if_neg (by decide), if_pos rfl, h1, h2]; show q2.1.drop q1.1.length = c2; rw [hc2]; simp
  have s2 : ∀ p : Int, p ≠ 0 → p ≠ 1 → seg B N p = c3 := fun p n0 n1 => by unfold seg; rw [if_neg n0, if_neg n1, h2, h3]; show q3.1.drop q2.1.length = c3; rw [hc3]; simp
  have t13 : tkc B N q3.2 = 13 := by
    apply Classical.byContradiction
    intro hn
    have : rE B N = .inl ((sta B N q3.2 : Nat) : Int) := by
      unfold rE ex
      rw [h3]
      show (if tkc B N q3.2 = 13 then _ else _) = _
      rw [if_neg hn]; rfl
    rw [this] at h; cases h
  refine ⟨q1, q2, q3, h1, h2, h3, s0.symm, by rw [s1]; exact hc2, by rw [s2 2 (by decide) (by decide)]; exact hc3, t13, fun e p => ?_, ?_⟩
  · unfold valP
    by_cases c0 : p = 0
    · subst c0
      obtain ⟨v, hv⟩ := e1 e
      rw [s0]
      exact (PV_vl (c0 := []) (p := q1.2) hv).1
    · by_cases c1 : p = 1
      · subst c1
        obtain ⟨v, hv⟩ := e2 e
        rw [s1]
        exact (PV_vl (c0 := q1.1) (c := c2) (p := q2.2) (v := v) (by rw [← hc2]; exact hv)).1
      · obtain ⟨v, hv⟩ := e3 e
        rw [s2 p c0 c1]
        exact (PV_vl (c0 := q2.1) (c := c3) (p := q3.2) (v := v) (by rw [← hc3]; exact hv)).1
  · have : rE B N = .inr (q3.1, nxt B N q3.2) := by
      unfold rE ex
      rw [h3]
      show (if tkc B N q3.2 = 13 then _ else _) = _
      rw [if_pos t13]; rfl
    rw [this] at h; cases h; rfl
end PR
