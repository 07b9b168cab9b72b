/-! THE MODEL'S SUMS OVER PAIRS -/
theorem sm_swap {g : Nat → Nat → Int} (m : Nat) : ∀ k : Nat, sm (fun a => sm (fun b => g a b) m) k = sm (fun b => sm (fun a => g a b) k) m
  | 0 => (sm_zero m).symm
  | k + 1 => by
    have e : sm (fun b => sm (fun a => g a b) (k + 1)) m = sm (fun b => sm (fun a => g a b) k + g k b) m := rfl
    show sm (fun a => sm (fun b => g a b) m) k + sm (fun b => g k b) m = _
    rw [sm_swap m k, e, sm_add]
theorem sm_lt {f : Nat → Int} {b : Nat} : ∀ n : Nat, b ≤ n → sm (fun a => if a < b then f a else 0) n = sm f b
  | 0, h => by have : b = 0 := by omega
               subst this; rfl
  | n + 1, h => by
    show sm (fun a => if a < b then f a else 0) n + (if n < b then f n else 0) = sm f b
    by_cases e : b = n + 1
    · subst e
      have : sm (fun a => if a < n + 1 then f a else 0) n = sm f n := sm_congr (fun s hs => by rw [if_pos (by omega)])
      rw [this, if_pos (by omega)]; rfl
    · rw [sm_lt n (by omega), if_neg (by omega), Int.add_zero]
theorem sm_pick {f : Nat → Int} {k : Nat} : ∀ n : Nat, k < n → sm (fun a => if a = k then f a else 0) n = f k
  | 0, h => by omega
  | n + 1, h => by
    unfold sm
    by_cases e : k = n
    · subst e
      have : sm (fun a => if a = k then f a else 0) k = sm (fun _ => 0) k := sm_congr (fun s hs => by rw [if_neg (by omega)])
      rw [this, sm_zero, if_pos rfl]; omega
    · rw [sm_pick n (by omega), if_neg (by omega), Int.add_zero]
theorem sm_sub {f g : Nat → Int} : ∀ n : Nat, sm (fun s => f s - g s) n = sm f n - sm g n
  | 0 => rfl
  | n + 1 => by unfold sm; rw [sm_sub n]; omega
/-- two stems touch -/
abbrev tcP (h : Mem) (a b : Nat) : Prop := coS h a = coS h b ∧ ((h 6 a - h 6 b) % 16 < 2 ∨ (h 6 a - h 6 b) % 16 = 15)
def t1 (h : Mem) (a b : Nat) : Int := if tcP h a b then 1 else 0
theorem t1_sym (h : Mem) (a b : Nat) : t1 h a b = t1 h b a := by
  unfold t1
  by_cases c : tcP h a b
  · rw [if_pos c, if_pos ⟨c.1.symm, by have := c.2; omega⟩]
  · rw [if_neg c, if_neg (fun q => c ⟨q.1.symm, by have := q.2; omega⟩)]
theorem t1_self (h : Mem) (a : Nat) : t1 h a a = 1 := by unfold t1; rw [if_pos ⟨rfl, by omega⟩]
theorem nb_t1 {h : Mem} {n b : Nat} (hb : ∀ s, s < n → 0 ≤ h 6 s ∧ h 6 s ≤ 15) : nbS h n (coS h b) (h 6 b) = sm (fun a => t1 h a b) n := by
  unfold nbS lyS
  rw [← sm_add, ← sm_add]
  apply sm_congr
  intro s hs
  have := hb s hs
  unfold t1
  by_cases c1 : coS h s = coS h b
  · by_cases c2 : (h 6 s - h 6 b) % 16 < 2 ∨ (h 6 s - h 6 b) % 16 = 15
    · rw [if_pos (c := tcP h s b) ⟨c1, c2⟩]
      by_cases q1 : h 6 s = (h 6 b - 1) % 16
      · rw [if_pos ⟨c1, q1⟩, if_neg (by omega), if_neg (by omega)]; rfl
      · by_cases q2 : h 6 s = h 6 b % 16
        · rw [if_neg (fun q => q1 q.2), if_pos ⟨c1, q2⟩, if_neg (by omega)]; rfl
        · rw [if_neg (fun q => q1 q.2), if_neg (fun q => q2 q.2), if_pos ⟨c1, by omega⟩]; rfl
    · rw [if_neg (c := tcP h s b) (fun q => c2 q.2), if_neg (by omega), if_neg (by omega), if_neg (by omega)]; rfl
  · rw [if_neg (c := tcP h s b) (fun q => c1 q.1), if_neg (fun q => c1 q.1), if_neg (fun q => c1 q.1), if_neg (fun q => c1 q.1)]; rfl
/-- pairs, but for those of one stem -/
def pr (h : Mem) (k : Int) (a b : Nat) : Int := if (a : Int) ≠ k ∧ (b : Int) ≠ k then t1 h a b else 0
def prN (h : Mem) (k : Int) (n : Nat) : Int := sm (fun a => sm (fun b => if a < b then pr h k a b else 0) n) n
theorem prN_m1 {h : Mem} (n : Nat) (hb : ∀ s, s < n → 0 ≤ h 6 s ∧ h 6 s ≤ 15) : prN h (-1) n = tcS h n := by
  have e : ∀ m : Nat, m ≤ n → sm (fun b => sm (fun a => t1 h a b) b) m = tcS h m := by
    intro m
    induction m with
    | zero => intro _; rfl
    | succ m ih =>
      intro hm
      unfold sm tcS
      rw [ih (by omega), nb_t1 (fun s hs => hb s (by omega))]
  unfold prN
  rw [sm_swap, ← e n (Nat.le_refl n)]
  apply sm_congr
  intro b hbn
  have : sm (fun a => if a < b then pr h (-1) a b else 0) n = sm (fun a => if a < b then t1 h a b else 0) n := sm_congr (fun a _ => by
    unfold pr; rw [if_pos (c := (a : Int) ≠ -1 ∧ (b : Int) ≠ -1) ⟨by omega, by omega⟩])
  rw [this, sm_lt n (by omega)]
theorem prN_k {h : Mem} (n k : Nat) (hk : k < n) (hb : ∀ s, s < n → 0 ≤ h 6 s ∧ h 6 s ≤ 15) : prN h (k : Int) n = tcS h n - (nbS h n (coS h k) (h 6 k) - 1) := by
  rw [← prN_m1 n hb, nb_t1 hb]
  have e1 : ∀ a b : Nat, (if a < b then pr h (k : Int) a b else 0) = (if a < b then pr h (-1) a b else 0) - ((if a = k then (if a < b then t1 h a b else 0) else 0) + (if b = k then (if a < b then t1 h a b else 0) else 0)) := fun a b => by
    unfold pr
    by_cases c : a < b
    · rw [if_pos c, if_pos c, if_pos c]
      rw [if_pos (c := (a : Int) ≠ -1 ∧ (b : Int) ≠ -1) ⟨by omega, by omega⟩]
      by_cases c1 : a = k
      · rw [if_pos c1, if_neg (c := b = k) (by omega), if_neg (by omega)]; omega
      · by_cases c2 : b = k
        · rw [if_neg c1, if_pos c2, if_neg (by omega)]; omega
        · rw [if_neg c1, if_neg c2, if_pos ⟨by omega, by omega⟩]; omega
    · rw [if_neg c, if_neg c, if_neg c]; split <;> split <;> rfl
  have e2 : prN h (k : Int) n = prN h (-1) n - (sm (fun a => if a = k then sm (fun b => if a < b then t1 h a b else 0) n else 0) n + sm (fun a => (if a < k then t1 h a k else 0)) n) := by
    unfold prN
    rw [← sm_add, ← sm_sub]
    apply sm_congr
    intro a _
    have e3 : sm (fun b => if a < b then pr h (k : Int) a b else 0) n = sm (fun b => (if a < b then pr h (-1) a b else 0) - ((if a = k then (if a < b then t1 h a b else 0) else 0) + (if b = k then (if a < b then t1 h a b else 0) else 0))) n := sm_congr (fun b _ => e1 a b)
    rw [e3, sm_sub, sm_add, sm_pick (f := fun b => if a < b then t1 h a b else 0) n hk]
    congr 2
    by_cases c : a = k
    · rw [if_pos c]; exact sm_congr (fun b _ => by rw [if_pos c])
    · rw [if_neg c]; exact (sm_congr (fun b _ => by rw [if_neg c])).trans (sm_zero n)
  rw [e2, sm_pick (f := fun a => sm (fun b => if a < b then t1 h a b else 0) n) n hk, ← sm_add]
  have e4 : sm (fun s => (if k < s then t1 h k s else 0) + (if s < k then t1 h s k else 0)) n = sm (fun s => t1 h s k - (if s = k then 1 else 0)) n := sm_congr (fun s _ => by
    by_cases c : s = k
    · subst c; rw [if_neg (by omega), if_pos rfl, t1_self]; rfl
    · by_cases c1 : k < s
      · rw [if_pos c1, if_neg (by omega), if_neg c, t1_sym]; omega
      · rw [if_neg c1, if_pos (by omega), if_neg c]; omega)
  rw [e4, sm_sub, sm_pick (f := fun _ => 1) n hk]
section MT
variable {n : Nat} {τ : Int → Int → (Nat → Int) → Int} {h M : Mem} {Q : Int → Mem → Prop}
theorem mm_touch {a b : Nat} (H : Hm h M) (W : Wf h) (ha : (a : Int) < h 0 8) (hb : (b : Int) < h 0 8) (hq : Q (t1 h a b) M) : Con (n + 2) md_X10_touch [vR 51, vI (a : Int), vI (b : Int)] M Q := g_X10_touch (by
  unfold B_X10_touch
  have h3 := W.2.2.1
  have h8 := W.2.2.2.1
  have wa := W.2.2.2.2.2 a ha
  have wb := W.2.2.2.2.2 b hb
  have va := H.2.2.2.2.2.2 a ha
  have vb := H.2.2.2.2.2.2 b hb
  have ca := H.fl wa.1
  have cb := H.fl wb.1
  rw [show (a : Int).toNat = a from rfl, show (b : Int).toNat = b from rfl, va.2, vb.2]
  refine ⟨by omega, by omega, ?_⟩
  rw [w32_id (x := h 6 a - h 6 b) (by omega)]
  refine mm_round (by omega) ?_
  rw [va.1, vb.1, w32_id (x := 3 * h 5 a) (by omega), w32_id (x := 3 * h 5 b) (by omega), w32_id (x := 3 * h 5 a + 1) (by omega), w32_id (x := 3 * h 5 b + 1) (by omega), ca.2.2.1, cb.2.2.1]
  unfold t1 at hq
  show _ ∧ _ ∧ _ ∧ _ ∧ (coS h a = coS h b → _) ∧ (¬ coS h a = coS h b → _)
  refine ⟨by omega, by omega, by omega, by omega, fun e => ⟨fun e1 => ?_, fun e1 => ⟨fun e2 => ?_, fun e2 => ?_⟩⟩, fun e => ?_⟩
  · rw [if_pos ⟨e, Or.inl e1⟩] at hq; exact hq
  · rw [if_pos ⟨e, Or.inr e2⟩] at hq; exact hq
  · rw [if_neg (fun q => q.2.elim e1 e2)] at hq; exact hq
  · rw [if_neg (fun q => e q.1)] at hq; exact hq)
theorem pr01 (h : Mem) (k : Int) (a b : Nat) : 0 ≤ pr h k a b ∧ pr h k a b ≤ 1 := by unfold pr t1; split <;> (try split) <;> omega
theorem mm_touching {k : Int} (H : Hm h M) (W : Wf h) (hq : Q (prN h k (h 0 8).toNat) M) : Con (n + 3) md_X10_touching [vR 51, vI k] M Q := g_X10_touching (by
  intro K4 K17 h4 h17
  unfold B_X10_touching
  have h8 := W.2.2.2.1
  obtain ⟨N, hN⟩ : ∃ N : Nat, (N : Int) = h 0 8 := ⟨(h 0 8).toNat, by omega⟩
  have hN' : (h 0 8).toNat = N := by omega
  rw [hN'] at hq
  have bnd : ∀ a, 0 ≤ sm (fun a => sm (fun b => if a < b then pr h k a b else 0) N) a ∧ sm (fun a => sm (fun b => if a < b then pr h k a b else 0) N) a ≤ 40 * a := by
    intro a
    induction a with
    | zero => unfold sm; omega
    | succ a ih =>
      have := sm_b (f := fun b => if a < b then pr h k a b else 0) (n := N) (fun s _ => by have := pr01 h k a s; split <;> omega)
      unfold sm; omega
  have key := loopUp (P := fun a => K4 (sm (fun a => sm (fun b => if a < b then pr h k a b else 0) N) a) (a : Int) M) N
    (h4 _ _ _ (by
      unfold B_X10_touching_4
      rw [H.2.2.2.2.1]
      exact ⟨fun _ => hq, fun e => by omega⟩))
    (fun a ha ih => h4 _ _ _ (by
      unfold B_X10_touching_4
      rw [H.2.2.2.2.1, w32_id (x := (a : Int) + 1) (by omega)]
      refine ⟨fun e => by omega, fun _ => ?_⟩
      have b0 := bnd a
      have in0 : sm (fun b => if a < b then pr h k a b else 0) (a + 1) = 0 := by
        exact (sm_congr (fun s hs => by rw [if_neg (by omega)])).trans (sm_zero (a + 1))
      have inn := loopUp (P := fun b => a + 1 ≤ b → K17 (sm (fun a => sm (fun b => if a < b then pr h k a b else 0) N) a + sm (fun b => if a < b then pr h k a b else 0) b) (a : Int) (b : Int) M) N
        (fun _ => h17 _ _ _ _ (by
          unfold B_X10_touching_17
          rw [H.2.2.2.2.1, w32_id (x := (a : Int) + 1) (by omega)]
          exact ⟨fun _ => ih, fun e => by omega⟩))
        (fun b hb ih2 hab => h17 _ _ _ _ (by
          unfold B_X10_touching_17
          have b1 := sm_b (f := fun b => if a < b then pr h k a b else 0) (n := b) (fun s _ => by have := pr01 h k a s; split <;> omega)
          have ih2 := ih2 (by omega)
          have e0 : sm (fun b => if a < b then pr h k a b else 0) (b + 1) = sm (fun b => if a < b then pr h k a b else 0) b + pr h k a b := by
            show _ + (if a < b then _ else _) = _; rw [if_pos (by omega)]
          rw [e0, ← Int.add_assoc] at ih2
          obtain ⟨S0, hS0⟩ : ∃ S0, S0 = sm (fun a => sm (fun b => if a < b then pr h k a b else 0) N) a + sm (fun b => if a < b then pr h k a b else 0) b := ⟨_, rfl⟩
          rw [← hS0] at ih2 ⊢
          rw [H.2.2.2.2.1, w32_id (x := (b : Int) + 1) (by omega), w32_id (x := S0 + 0) (by omega), w32_id (x := S0 + 1) (by omega), Int.add_zero]
          unfold pr at ih2
          refine ⟨fun e => by omega, fun _ => ⟨fun e1 => ?_, fun e1 => ⟨fun e2 => ?_, fun e2 => mm_touch H W (by omega) (by omega) ?_⟩⟩⟩
          · rw [if_neg (c := (a : Int) ≠ k ∧ (b : Int) ≠ k) (fun q => q.1 e1), Int.add_zero] at ih2; exact ih2
          · rw [if_neg (c := (a : Int) ≠ k ∧ (b : Int) ≠ k) (fun q => q.2 e2), Int.add_zero] at ih2; exact ih2
          · rw [if_pos (c := (a : Int) ≠ k ∧ (b : Int) ≠ k) ⟨e1, e2⟩] at ih2
            unfold t1 at ih2 ⊢
            by_cases ct : tcP h a b
            · rw [if_pos ct] at ih2 ⊢
              exact ⟨fun e => by omega, fun _ => ih2⟩
            · rw [if_neg ct] at ih2 ⊢
              rw [Int.add_zero] at ih2
              exact ⟨fun _ => ih2, fun e => absurd rfl e⟩)) (a + 1) (by omega) (Nat.le_refl _)
      rw [in0, Int.add_zero] at inn
      exact inn)) 0 (Nat.zero_le _)
  exact key)
theorem stb (W : Wf h) : ∀ s, s < (h 0 8).toNat → 0 ≤ h 6 s ∧ h 6 s ≤ 15 := fun s hs => (W.2.2.2.2.2 s (by omega)).2
theorem mm_touching1 (H : Hm h M) (W : Wf h) (hq : Q (tcH h) M) : Con (n + 3) md_X10_touching [vR 51, vI (-1)] M Q := mm_touching H W (by rw [prN_m1 _ (stb W)]; exact hq)
theorem mm_quarter {q : Int} (H : Hm h M) (W : Wf h) (hq : Q (quH h q) M) : Con (n + 1) md_X10_quarter [vR 51, vI q] M Q := g_X10_quarter (by
  intro K hK
  unfold B_X10_quarter
  have h8 := W.2.2.2.1
  refine loopUp (P := fun s => K (sm (fun s => if h 6 s / 4 = q then 1 else 0) s) (s : Int) M) (h 0 8).toNat ?_ ?_ 0 (Nat.zero_le _)
  · apply hK
    unfold B_X10_quarter_4
    rw [H.2.2.2.2.1]
    exact ⟨fun _ => hq, fun e => absurd (show h 0 8 ≤ (((h 0 8).toNat : Nat) : Int) by omega) e⟩
  · intro s hs ih
    apply hK
    unfold B_X10_quarter_4
    have hb := sm01 (fun s => h 6 s / 4 = q) inferInstance s
    have hst := W.2.2.2.2.2 s (by omega)
    rw [H.2.2.2.2.1, w32_id (x := (s : Int) + 1) (by omega), show (s : Int).toNat = s from rfl, (H.2.2.2.2.2.2 s (by omega)).2, Int.tdiv_eq_ediv_of_nonneg hst.2.1, w32_id (x := h 6 s / 4) (by omega), w32_id (x := _ + 0) (by omega), w32_id (x := _ + 1) (by omega)]
    unfold sm at ih
    refine ⟨fun e => by omega, fun _ => ⟨by omega, fun e => ?_, fun e => ?_⟩⟩
    · rw [if_pos e] at ih; exact ih
    · rw [if_neg e] at ih; exact ih)
theorem mm_ofColours {c : Int} (H : Hm h M) (W : Wf h) (hq : Q (ccH h c) M) : Con (n + 1) md_X10_ofColours [vR 51, vI c] M Q := g_X10_ofColours (by
  intro K hK
  unfold B_X10_ofColours
  have h3 := W.2.2.1
  have h8 := W.2.2.2.1
  refine loopUp (P := fun s => K (sm (fun s => if coS h s = c then 1 else 0) s) (s : Int) M) (h 0 8).toNat ?_ ?_ 0 (Nat.zero_le _)
  · apply hK
    unfold B_X10_ofColours_4
    rw [H.2.2.2.2.1]
    exact ⟨fun _ => hq, fun e => absurd (show h 0 8 ≤ (((h 0 8).toNat : Nat) : Int) by omega) e⟩
  · intro s hs ih
    apply hK
    unfold B_X10_ofColours_4
    have hb := sm01 (fun s => coS h s = c) inferInstance s
    have hst := W.2.2.2.2.2 s (by omega)
    rw [H.2.2.2.2.1, w32_id (x := (s : Int) + 1) (by omega), show (s : Int).toNat = s from rfl, (H.2.2.2.2.2.2 s (by omega)).1, w32_id (x := 3 * h 5 s) (by omega), w32_id (x := 3 * h 5 s + 1) (by omega), (H.fl hst.1).2.2.1, w32_id (x := _ + 0) (by omega), w32_id (x := sm _ s + 1) (by omega)]
    unfold sm at ih
    show _ ∧ (_ → _ ∧ _ ∧ (coS h s = c → _) ∧ (¬ coS h s = c → _))
    refine ⟨fun e => by omega, fun _ => ⟨by omega, by omega, fun e => ?_, fun e => ?_⟩⟩
    · rw [if_pos e] at ih; exact ih
    · rw [if_neg e] at ih; exact ih)
theorem mm_even (H : Hm h M) (W : Wf h) (hq : Q (evnH h) M) : Con (n + 2) md_X10_even [vR 51] M Q := g_X10_even (by
  intro K hK
  unfold B_X10_even
  have b0 := quH_b W 0
  have b1 := quH_b W 1
  have b2 := quH_b W 2
  have b3 := quH_b W 3
  have st : ∀ (x1 x2 : Int) (k : Nat), k < 4 → K (min x1 (quH h k)) (max x2 (quH h k)) ((k : Int) + 1) M → K x1 x2 (k : Int) M := fun x1 x2 k hk ih => hK _ _ _ _ (by
    unfold B_X10_even_7
    refine ⟨fun e => by omega, fun _ => mm_quarter H W ?_⟩
    rw [w32_id (by omega)]
    refine ⟨fun c => ⟨fun d => ?_, fun d => ?_⟩, fun c => ⟨fun d => ?_, fun d => ?_⟩⟩
    · rw [show min x1 (quH h k) = x1 by omega, show max x2 (quH h k) = x2 by omega] at ih; exact ih
    · rw [show min x1 (quH h k) = x1 by omega, show max x2 (quH h k) = quH h k by omega] at ih; exact ih
    · rw [show min x1 (quH h k) = quH h k by omega, show max x2 (quH h k) = x2 by omega] at ih; exact ih
    · rw [show min x1 (quH h k) = quH h k by omega, show max x2 (quH h k) = quH h k by omega] at ih; exact ih)
  refine st 40 0 0 (by omega) (st _ _ 1 (by omega) (st _ _ 2 (by omega) (st _ _ 3 (by omega) (hK _ _ _ _ ?_))))
  unfold B_X10_even_7
  refine ⟨fun _ => ?_, fun e => absurd (by decide) e⟩
  unfold evnH at hq
  rw [w32_id (by
    show -2147483648 ≤ max (max (max (max 0 (quH h 0)) (quH h 1)) (quH h 2)) (quH h 3) - min (min (min (min 40 (quH h 0)) (quH h 1)) (quH h 2)) (quH h 3) ∧ max (max (max (max 0 (quH h 0)) (quH h 1)) (quH h 2)) (quH h 3) - min (min (min (min 40 (quH h 0)) (quH h 1)) (quH h 2)) (quH h 3) ≤ 2147483647
    omega)]
  exact hq)
theorem mm_cost (H : Hm h M) (W : Wf h) (R : RD τ M) (hr : 0 ≤ h 0 2 ∧ h 0 2 < M 51 3) (hq : ∀ M', Fp sL M M' → Q (csH τ h) M') : Con (n + 82) md_X10_cost [vR 51] M Q := g_X10_cost (by
  intro K hK
  unfold B_X10_cost
  have h8 := W.2.2.2.1
  have bnd : ∀ s : Nat, (s : Int) ≤ h 0 8 → 0 ≤ sm (fun s => coH τ h (h 5 s)) s ∧ sm (fun s => coH τ h (h 5 s)) s ≤ 1998 * s := by
    intro s
    induction s with
    | zero => intro _; unfold sm; omega
    | succ s ih =>
      intro hs
      have h1 := ih (by omega)
      have h2 := coH_b (τ := τ) W (W.2.2.2.2.2 s (by omega)).1
      unfold sm; omega
  refine loopUp (P := fun s => ∀ M', Fp sL M M' → K (sm (fun s => coH τ h (h 5 s)) s) (s : Int) M') (h 0 8).toNat ?_ ?_ 0 (Nat.zero_le _) M Fp.rf
  · intro M' F
    apply hK
    unfold B_X10_cost_4
    rw [(H.fr F sL51 sL58).2.2.2.2.1]
    exact ⟨fun _ => hq M' F, fun e => absurd (show h 0 8 ≤ (((h 0 8).toNat : Nat) : Int) by omega) e⟩
  · intro s hs ih M' F
    apply hK
    unfold B_X10_cost_4
    have H' := H.fr F sL51 sL58
    have hst := W.2.2.2.2.2 s (by omega)
    have b1 := bnd (s + 1) (by omega)
    rw [H'.2.2.2.2.1, w32_id (x := (s : Int) + 1) (by omega), show (s : Int).toNat = s from rfl, (H'.2.2.2.2.2.2 s (by omega)).1]
    refine ⟨fun e => by omega, fun _ => ⟨by omega, mm_looks H' W hst.1 (fun M2 F2 E2 => ⟨by omega, ?_⟩)⟩⟩
    have F02 := F.tr F2
    have H2 := H.fr F02 sL51 sL58
    rw [(H2.2.2.2.2.2.2 s (by omega)).1]
    refine mm_costsOf H2 W (R.fr F02 sL3) (by rw [F02 51 3 (by unfold sL; omega)]; exact hr) hst.1 E2 rfl (fun M4 F4 => ?_)
    have := ih M4 (F02.tr (F4.mono (fun o k q => by unfold sR at q; unfold sL; omega)))
    unfold sm at this b1
    show K (w32 (sm _ s + coH τ h (h 5 s))) _ _
    rw [w32_id (by omega)]; exact this)
end MT
