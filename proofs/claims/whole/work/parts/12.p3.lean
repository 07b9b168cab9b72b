/-! TEXTS AS STEPS FOR A STACK -/
def o1 (c a : Int) : Int := if c = -18 then w32 (-a) else if a = 0 then 1 else 0
def o2 (c a b : Int) : Int := if c = -17 then w32 (a * b) else if c = -16 then w32 (a - b) else if c = -15 then w32 (a + b) else if c = -14 then (if a = b then 1 else 0) else if c = -13 then (if a < b then 1 else 0) else if c = -11 then (if a ≠ 0 ∧ b ≠ 0 then 1 else 0) else if c = -10 then (if a ≠ 0 ∨ b ≠ 0 then 1 else 0) else 0
def st1 (e : Nat → Int) (c : Int) (s : List Int) : Option (List Int) :=
  if -6 ≤ c then some ((if 0 ≤ c then c else e (-1 - c).toNat) :: s)
  else if c = -12 ∨ c = -18 then (match s with | a :: t => some (o1 c a :: t) | [] => none)
  else match s with | b :: a :: t => some (o2 c a b :: t) | _ => none
def rn (row : Nat → Int) (e : Nat → Int) : Nat → Nat → List Int → Option (List Int)
  | 0, _, s => some s
  | k + 1, i, s => (st1 e (row i) s).bind (rn row e k (i + 1))
theorem st1_congr {e e' : Nat → Int} (h : ∀ k, k < 6 → e k = e' k) (c : Int) (s : List Int) : st1 e c s = st1 e' c s := by
  unfold st1
  split
  · by_cases h0 : 0 ≤ c
    · simp [h0]
    · rw [h (-1 - c).toNat (by omega)]
  · rfl
theorem rn_congr {row e e' : Nat → Int} (h : ∀ k, k < 6 → e k = e' k) : ∀ k i s, rn row e k i s = rn row e' k i s
  | 0, _, _ => rfl
  | k + 1, i, s => by
    unfold rn
    rw [st1_congr h]
    congr 1
    funext s'
    exact rn_congr h k (i + 1) s'
def Sk (m : Nat → Int) : List Int → Prop
  | [] => True
  | a :: t => m t.length = a ∧ Sk m t
theorem Sk.up {m m' : Nat → Int} : ∀ {s : List Int}, Sk m s → (∀ j, j < s.length → m' j = m j) → Sk m' s
  | [], _, _ => trivial
  | a :: t, h, hk => ⟨(hk t.length (by simp)).trans h.1, h.2.up (fun j hj => hk j (by simp; omega))⟩
/-- the texts of the program, and what they say -/
def TC (τ : Int → Int → (Nat → Int) → Int) (M : Mem) : Prop := (1 ≤ M 17 0 ∧ M 17 0 ≤ 6) ∧ ∀ t p : Int, 0 ≤ t → t < M 17 0 → 0 ≤ p → p ≤ 2 → ∃ f g : Nat, f ≤ g ∧ g ≤ 160 ∧ (p = 0 → f = 0) ∧ (p ≠ 0 → M (26 + t.toNat) (p - 1).toNat = f) ∧ M (26 + t.toNat) p.toNat = g ∧ ∀ e, rn (M (19 + t.toNat)) e (g - f) f [] = some [τ t p e]
theorem TC.fr {τ : Int → Int → (Nat → Int) → Int} {M M' : Mem} {S : List Nat} (T : TC τ M) (hf : Fr S M M') (hs : ∀ o, 17 ≤ o → o ≤ 31 → o ∉ S) : TC τ M' := by
  have e : ∀ o, 17 ≤ o → o ≤ 31 → M' o = M o := fun o h1 h2 => funext fun k => hf o k (hs o h1 h2)
  refine ⟨by rw [e 17 (by omega) (by omega)]; exact T.1, fun t p h1 h2 h3 h4 => ?_⟩
  rw [e 17 (by omega) (by omega)] at h2
  have h6 := T.1
  obtain ⟨f, g, q⟩ := T.2 t p h1 h2 h3 h4
  refine ⟨f, g, ?_⟩
  rw [e (26 + t.toNat) (by omega) (by omega), e (19 + t.toNat) (by omega) (by omega)]
  exact q
theorem TC.env {τ : Int → Int → (Nat → Int) → Int} {M : Mem} (T : TC τ M) {t p : Int} (h1 : 0 ≤ t) (h2 : t < M 17 0) (h3 : 0 ≤ p) (h4 : p ≤ 2) {e e' : Nat → Int} (he : ∀ k, k < 6 → e k = e' k) : τ t p e = τ t p e' := by
  obtain ⟨f, g, -, -, -, -, -, q⟩ := T.2 t p h1 h2 h3 h4
  have q1 := q e
  rw [rn_congr he, q e'] at q1
  simpa using q1.symm
theorem c_isOfOne {n : Nat} {c : Int} {M : Mem} {Q : Int → Mem → Prop} (h : Q (if c = -12 ∨ c = -18 then 1 else 0) M) : Con (n + 1) md_X7_isOfOne [vI c] M Q := g_X7_isOfOne (by unfold B_X7_isOfOne; grind)
theorem c_ofOne {n : Nat} {c a : Int} {M : Mem} {Q : Int → Mem → Prop} (h : Q (o1 c a) M) : Con (n + 1) md_X7_ofOne [vI c, vI a] M Q := g_X7_ofOne (by unfold B_X7_ofOne; unfold o1 at h; grind)
theorem c_ofTwo {n : Nat} {c a b : Int} {M : Mem} {Q : Int → Mem → Prop} (h : Q (o2 c a b) M) : Con (n + 1) md_X7_ofTwo [vI c, vI a, vI b] M Q := g_X7_ofTwo (by
  unfold B_X7_ofTwo; unfold o2 at h
  refine ⟨?_, ?_, ?_, ?_, ?_, ?_, ?_, ?_⟩ <;> intro e <;> grind)
theorem c_has {n : Nat} {t : Int} {M : Mem} {Q : Int → Mem → Prop} (h : Q (if 0 ≤ t ∧ t < M 17 0 then 1 else 0) M) : Con (n + 1) md_X7_has [vR 17, vI t] M Q := g_X7_has (by unfold B_X7_has; grind)
theorem up_same {M : Mem} {o k : Nat} {v : Int} : up M o k v o k = v := by unfold up; simp
theorem up_ne {M : Mem} {o k o' k' : Nat} {v : Int} (h : o' ≠ o ∨ k' ≠ k) : up M o k v o' k' = M o' k' := by unfold up; rw [if_neg (fun q => h.elim (fun h => h q.1) (fun h => h q.2))]
theorem isI_steps {t : Int} (h : 0 ≤ t ∧ t < 6) : isI (19 + t.toNat) 160 := gri_18 h
theorem c_valueOf {n : Nat} {τ : Int → Int → (Nat → Int) → Int} {t p : Int} {e : Nat → Int} {M : Mem} {Q : Int → Mem → Prop} (T : TC τ M) (ht : 0 ≤ t ∧ t < M 17 0) (hp : 0 ≤ p ∧ p ≤ 2) (he : ∀ k, k < 6 → M 37 k = e k) (hq : ∀ M', Fr [32] M M' → Q (τ t p e) M') : Con (n + 2) md_X7_valueOf [vR 17, vI t, vI p, vR 37] M Q := g_X7_valueOf (by
  intro K hK
  have h6 := T.1
  obtain ⟨f, g, hfg, hg, hf0, hf1, hg1, hrn⟩ := T.2 t p ht.1 ht.2 hp.1 hp.2
  have hrn := hrn (M 37)
  rw [T.env ht.1 ht.2 hp.1 hp.2 he] at hrn
  have key : ∀ (k i : Nat) (s : List Int) (M' : Mem), i + k = g → f ≤ i → s.length ≤ i - f → Fr [32] M M' → Sk (M' 32) s → rn (M (19 + t.toNat)) (M 37) k i s = some [τ t p e] → K (19 + t.toNat) (f : Int) (g : Int) (s.length : Int) (i : Int) M' := by
    intro k
    induction k with
    | zero =>
      intro i s M' hi hfi hl hF hS hr
      apply hK
      unfold B_X7_valueOf_81
      refine ⟨isI_steps (by omega), fun _ => ?_, fun e => by omega⟩
      have hs : s = [τ t p e] := by simpa [rn] using hr
      subst hs
      have h0 : M' 32 0 = τ t p e := hS.1
      show Q (M' 32 0) M'
      rw [h0]
      exact hq M' hF
    | succ k ih =>
      intro i s M' hi hfi hl hF hS hr
      apply hK
      unfold B_X7_valueOf_81
      have er : M' (19 + t.toNat) i = M (19 + t.toNat) i := hF _ _ (by simp; omega)
      have en : M' 37 = M 37 := funext fun k => hF 37 k (by decide)
      refine ⟨isI_steps (by omega), fun e => by omega, fun _ => ⟨by omega, ?_⟩⟩
      rw [show (i : Int).toNat = i from rfl, er, en]
      unfold rn at hr
      generalize hc : M (19 + t.toNat) i = c at hr ⊢
      rw [w32_id (x := (i : Int) + 1) (by omega)]
      refine ⟨fun hlt => ?_, fun hge => ?_⟩
      · refine c_isOfOne ?_
        unfold st1 at hr
        rw [if_neg (by omega)] at hr
        by_cases h1 : c = -12 ∨ c = -18
        · rw [if_pos h1] at hr ⊢
          match s, hl, hS, hr with
          | a :: u, hl, hS, hr =>
            simp only [List.length_cons] at hl ⊢
            refine ⟨fun e => by omega, fun _ => ⟨fun e => by omega, fun _ => ?_⟩⟩
            rw [w32_id (x := ((u.length + 1 : Nat) : Int) - 1) (by omega), show (((u.length + 1 : Nat) : Int) - 1).toNat = u.length by omega]
            refine ⟨by omega, c_ofOne ⟨by omega, fun M2 hM2 => ?_⟩⟩
            rw [hS.1] at hM2
            have hr' : rn (M (19 + t.toNat)) (M 37) k (i + 1) (o1 c a :: u) = some [τ t p e] := hr
            exact ih (i + 1) (o1 c a :: u) M2 (by omega) (by omega) (by simp only [List.length_cons]; omega) (by rw [hM2]; exact hF.up (by decide)) (by rw [hM2]; exact ⟨up_same, hS.2.up (fun j hj => up_ne (Or.inr (by omega)))⟩) hr'
        · rw [if_neg h1] at hr ⊢
          match s, hl, hS, hr with
          | b :: a :: u, hl, hS, hr =>
            simp only [List.length_cons] at hl ⊢
            refine ⟨fun _ => ⟨fun e => by omega, fun _ => ?_⟩, fun e => absurd trivial e⟩
            rw [w32_id (x := ((u.length + 1 + 1 : Nat) : Int) - 1) (by omega), w32_id (x := ((u.length + 1 + 1 : Nat) : Int) - 2) (by omega), w32_id (x := ((u.length + 1 + 1 : Nat) : Int) + (-1)) (by omega), show (((u.length + 1 + 1 : Nat) : Int) - 1).toNat = u.length + 1 by omega, show (((u.length + 1 + 1 : Nat) : Int) - 2).toNat = u.length by omega]
            have hb : M' 32 (u.length + 1) = b := hS.1
            rw [hb, hS.2.1]
            refine ⟨by omega, by omega, c_ofTwo ⟨by omega, fun M2 hM2 => ?_⟩⟩
            have hr' : rn (M (19 + t.toNat)) (M 37) k (i + 1) (o2 c a b :: u) = some [τ t p e] := hr
            rw [show ((u.length + 1 + 1 : Nat) : Int) + (-1) = (((o2 c a b :: u).length : Nat) : Int) by simp only [List.length_cons]; omega]
            exact ih (i + 1) (o2 c a b :: u) M2 (by omega) (by omega) (by simp only [List.length_cons]; omega) (by rw [hM2]; exact hF.up (by decide)) (by rw [hM2]; exact ⟨up_same, hS.2.2.up (fun j hj => up_ne (Or.inr (by omega)))⟩) hr'
      · unfold st1 at hr
        rw [if_pos (by omega)] at hr
        refine ⟨fun e => by omega, fun _ => ?_⟩
        rw [w32_id (x := (s.length : Int) + 1) (by omega), show ((s.length : Nat) : Int).toNat = s.length from rfl]
        refine ⟨fun hneg => ?_, fun hpos => ?_⟩
        · rw [if_neg (by omega)] at hr
          rw [w32_id (x := (-1) - c) (by omega)]
          refine ⟨by omega, by omega, fun M2 hM2 => ?_⟩
          have hr' : rn (M (19 + t.toNat)) (M 37) k (i + 1) (M 37 (-1 - c).toNat :: s) = some [τ t p e] := hr
          exact ih (i + 1) (M 37 (-1 - c).toNat :: s) M2 (by omega) (by omega) (by simp only [List.length_cons]; omega) (by rw [hM2]; exact hF.up (by decide)) (by rw [hM2]; exact ⟨up_same, hS.up (fun j hj => up_ne (Or.inr (by omega)))⟩) hr'
        · rw [if_pos (by omega)] at hr
          refine ⟨by omega, fun M2 hM2 => ?_⟩
          have hr' : rn (M (19 + t.toNat)) (M 37) k (i + 1) (c :: s) = some [τ t p e] := hr
          exact ih (i + 1) (c :: s) M2 (by omega) (by omega) (by simp only [List.length_cons]; omega) (by rw [hM2]; exact hF.up (by decide)) (by rw [hM2]; exact ⟨up_same, hS.up (fun j hj => up_ne (Or.inr (by omega)))⟩) hr'
  unfold B_X7_valueOf
  refine c_has ?_
  rw [if_pos ht]
  refine ⟨fun e => by omega, fun _ => ⟨fun e => by omega, fun _ => ⟨fun e => by omega, fun _ => ⟨fun _ => ⟨by omega, fun h0 => ?_, fun h0 => ?_⟩, fun e => absurd (by decide) e⟩⟩⟩⟩
  · refine ⟨by omega, by omega, c_min ?_⟩
    rw [hg1, show min (160 : Int) (g : Int) = g by omega]
    have hf := hf0 h0
    subst hf
    exact key g 0 [] M (by omega) (by omega) (by simp) Fr.rf trivial (by simpa using hrn)
  · refine ⟨by omega, ?_⟩
    rw [w32_id (x := p - 1) (by omega), hf1 h0]
    refine ⟨by omega, c_max ?_⟩
    rw [show max (0 : Int) (f : Int) = f by omega]
    refine ⟨by omega, by omega, c_min ?_⟩
    rw [hg1, show min (160 : Int) (g : Int) = g by omega]
    exact key (g - f) f [] M (by omega) (by omega) (by simp) Fr.rf trivial hrn)
