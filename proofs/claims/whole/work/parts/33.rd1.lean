/-! THE PROGRAM READS -/
def JL : Prop := ∀ (n : Nat) (M : Mem) (Q : Int → Mem → Prop), Q 64 M → Con (n + 4) md_J0_length_8abf5 [vR 68] M Q
def JC : Prop := ∀ (n i : Nat) (M : Mem) (Q : Int → Mem → Prop), i < 64 → Q (ws i) M → Con (n + 8) md_J0_charAt_5068e [vR 68, vI (i : Int)] M Q
/-- the tape that is read -/
def TB (B : Nat → Int) (N : Nat) (M : Mem) : Prop := M 15 1 = N ∧ N ≤ 160 ∧ ∀ i, i < N → M 16 i = B i
theorem TB.fr {B : Nat → Int} {N : Nat} {M M' : Mem} (T : TB B N M) (hf : Fr [33, 34, 35] M M') : TB B N M' := ⟨(hf 15 1 (by decide)).trans T.1, T.2.1, fun i hi => (hf 16 i (by decide)).trans (T.2.2 i hi)⟩
def Cc (c : List Int) (M : Mem) : Prop := M 33 3 = c.length ∧ ∀ i, i < c.length → M 34 i = c.getD i 0
def CS (B : Nat → Int) (N : Nat) (r : RR) (M : Mem) : Prop := match r with
  | .inl f => M 33 5 = f ∧ f ≠ -1 ∧ M 33 6 = 14 ∧ 0 ≤ M 33 3 ∧ M 33 3 ≤ 160
  | .inr q => M 33 6 = tkc B N q.2 ∧ M 33 7 = (sta B N q.2 : Nat) ∧ M 33 4 = (nxt B N q.2 : Nat) ∧ (tkc B N q.2 = 12 → M 33 8 = tvl B N q.2) ∧ M 33 5 = (if tkc B N q.2 = 14 then ((sta B N q.2 : Nat) : Int) else -1) ∧ Cc q.1 M ∧ q.1.length ≤ q.2 ∧ q.2 ≤ N
abbrev sX : List Nat := [33, 34, 35]
theorem numv_b {B : Nat → Int} {N s : Nat} : ∀ k, k ≤ 6 → (∀ j, j < k → di (bt B N (s + j)) = true) → 0 ≤ numv B N s k ∧ numv B N s k < pw k
  | 0, _, _ => by unfold numv pw; omega
  | k + 1, hk, h => by
    have ih := numv_b (B := B) (N := N) (s := s) k (by omega) (fun j hj => h j (by omega))
    have hd : 48 ≤ bt B N (s + k) ∧ bt B N (s + k) ≤ 57 := of_decide_eq_true (h k (by omega))
    unfold numv pw; omega
section RA
variable {B : Nat → Int} {N n : Nat} {M : Mem} {Q : Int → Mem → Prop}
theorem c_byteAt {i : Nat} (T : TB B N M) (hq : Q (bt B N i) M) : Con (n + 1) md_X6_byteAt [vR 15, vI (i : Int)] M Q := g_X6_byteAt (by
  unfold B_X6_byteAt
  obtain ⟨t1, t2, t3⟩ := T
  rw [t1]
  unfold bt at hq
  refine ⟨fun e => by omega, fun _ => ⟨fun e => ?_, fun e => ⟨fun e2 => by omega, fun _ => ⟨by omega, ?_⟩⟩⟩⟩
  · rw [if_neg (by omega)] at hq; exact hq
  · rw [if_pos (by omega)] at hq; rw [show (i : Int).toNat = i from rfl, t3 i (by omega)]; exact hq)
theorem c_isBlank {x : Int} (hq : Q (if bl x then 1 else 0) M) : Con (n + 1) md_X4_isBlank [vI x] M Q := g_X4_isBlank (by unfold B_X4_isBlank; unfold bl at hq; simp only [decide_eq_true_eq] at hq; grind)
theorem c_isLetter {x : Int} (hq : Q (if le x then 1 else 0) M) : Con (n + 1) md_X4_isLetter [vI x] M Q := g_X4_isLetter (by unfold B_X4_isLetter; unfold le at hq; simp only [decide_eq_true_eq] at hq; grind)
theorem c_isDigit {x : Int} (hq : Q (if di x then 1 else 0) M) : Con (n + 1) md_X4_isDigit [vI x] M Q := g_X4_isDigit (by unfold B_X4_isDigit; unfold di at hq; simp only [decide_eq_true_eq] at hq; grind)
theorem c_isSign {x : Int} (hq : Q (if sg x then 1 else 0) M) : Con (n + 1) md_X4_isSign [vI x] M Q := g_X4_isSign (by
  unfold B_X4_isSign
  refine ⟨fun e => ?_, fun e => ?_⟩
  · rw [if_neg (by unfold sg; omega)] at hq; exact hq
  · rw [if_pos (by unfold sg; omega)] at hq; exact hq)
/-- a fault where none was, or one that stays -/
theorem c_Rfail (hq : ∀ M', M' = up (if M 33 5 = -1 then up M 33 5 (M 33 7) else M) 33 6 14 → Q 0 M') : Con (n + 1) md_X4_fail [vR 33] M Q := g_X4_fail (by
  unfold B_X4_fail
  refine ⟨fun e M2 e2 M3 e3 => hq M3 (by rw [if_pos e, e3, e2]), fun e M1 e1 => hq M1 (by rw [if_neg e, e1])⟩)
theorem Cc.fr {c : List Int} {M' : Mem} (h : Cc c M) (h3 : M' 33 3 = M 33 3) (h34 : ∀ i, M' 34 i = M 34 i) : Cc c M' := ⟨h3.trans h.1, fun i hi => (h34 i).trans (h.2 i hi)⟩
theorem CS_tok {r : RR} (h : CS B N r M) : M 33 6 = tok B N r := by
  match r, h with
  | .inl f, h => exact h.2.2.1
  | .inr q, h => exact h.1
theorem c_fl {r : RR} (h : CS B N r M) (hN : N ≤ 160) (hq : ∀ M', Fr [33] M M' → CS B N (fl B N r) M' → Q 0 M') : Con (n + 1) md_X4_fail [vR 33] M Q := c_Rfail (fun M' e => by
  have F : Fr [33] M M' := by
    rw [e]; split
    · exact (Fr.rf.up (by decide)).up (by decide)
    · exact Fr.rf.up (by decide)
  refine hq M' F ?_
  match r, h with
  | .inl f, h =>
    obtain ⟨h1, h2, h3, h4, h5⟩ := h
    rw [if_neg (by rw [h1]; exact h2)] at e
    exact ⟨by rw [e, up_ne (by omega)]; exact h1, h2, by rw [e, up_same], by rw [e, up_ne (by omega)]; exact h4, by rw [e, up_ne (by omega)]; exact h5⟩
  | .inr q, h =>
    obtain ⟨h1, h2, h3, h4, h5, h6, h7, h8⟩ := h
    have g3 : M' 33 3 = M 33 3 := by
      rw [e, up_ne (by omega)]; split
      · rw [up_ne (by omega)]
      · rfl
    have g5 : M' 33 5 = (sta B N q.2 : Nat) := by
      rw [e, up_ne (by omega)]
      by_cases c : M 33 5 = -1
      · rw [if_pos c, up_same, h2]
      · rw [if_neg c]
        rw [h5] at c ⊢
        by_cases c2 : tkc B N q.2 = 14
        · rw [if_pos c2]
        · rw [if_neg c2] at c; exact absurd rfl c
    have h61 := h6.1
    exact ⟨g5, by omega, by rw [e, up_same], by rw [g3]; omega, by rw [g3]; omega⟩)
theorem c_mk {r : RR} {s : Int} (h : CS B N r M) (hN : N ≤ 160) (hW : WR N 1 r) (hq : ∀ M', Fr [33, 34] M M' → CS B N (mk s r) M' → Q 0 M') : Con (n + 1) md_X4_make [vR 33, vI s] M Q := g_X4_make (by
  unfold B_X4_make
  match r, h, hW, hq with
  | .inl f, h, hW, hq =>
    obtain ⟨h1, h2, h3, h4, h5⟩ := h
    refine ⟨fun e => hq M Fr.rf ⟨h1, h2, h3, h4, h5⟩, fun e => ⟨by omega, fun M1 e1 M2 e2 => ?_⟩⟩
    have a : M1 33 3 = M 33 3 := by rw [e1, up_ne (by omega)]
    rw [a, w32_id (by omega)] at e2
    refine hq M2 (by rw [e2, e1]; exact (Fr.rf.up (by decide)).up (by decide)) ⟨by rw [e2, up_ne (by omega), e1, up_ne (by omega)]; exact h1, h2, by rw [e2, up_ne (by omega), e1, up_ne (by omega)]; exact h3, by rw [e2, up_same]; omega, by rw [e2, up_same]; omega⟩
  | .inr q, h, hW, hq =>
    obtain ⟨h1, h2, h3, h4, h5, h6, h7, h8⟩ := h
    have hW := hW q rfl
    rw [h6.1]
    refine ⟨fun e => by omega, fun e => ⟨by omega, fun M1 e1 M2 e2 => ?_⟩⟩
    have a : M1 33 3 = q.1.length := by rw [e1, up_ne (by omega)]; exact h6.1
    rw [a, w32_id (by omega)] at e2
    have g : ∀ k, k ≠ 3 → M2 33 k = M 33 k := fun k hk => by rw [e2, up_ne (by omega), e1, up_ne (by omega)]
    refine hq M2 (by rw [e2, e1]; exact (Fr.rf.up (by decide)).up (by decide)) ⟨by rw [g 6 (by decide)]; exact h1, by rw [g 7 (by decide)]; exact h2, by rw [g 4 (by decide)]; exact h3, by rw [g 8 (by decide)]; exact h4, by rw [g 5 (by decide)]; exact h5, ⟨?_, fun i hi => ?_⟩, ?_, h8⟩
    · rw [e2, up_same]; show _ = (((q.1 ++ [s]).length : Nat) : Int); simp
    · have hi' : i < q.1.length + 1 := by
        have : (q.1 ++ [s]).length = q.1.length + 1 := by simp
        have hi : i < (q.1 ++ [s]).length := hi
        omega
      show M2 34 i = (q.1 ++ [s]).getD i 0
      rw [e2, up_ne (by omega), e1, show ((q.1.length : Nat) : Int).toNat = q.1.length from rfl]
      by_cases c : i = q.1.length
      · subst c; rw [up_same]; simp
      · rw [up_ne (by omega), h6.2 i (by omega)]
        simp [List.getD, List.getElem?_append_left (show i < q.1.length by omega)]
    · show (q.1 ++ [s]).length ≤ q.2; simp; omega)
end RA
section RB
variable {B : Nat → Int} {N n : Nat} {M : Mem} {Q : Int → Mem → Prop}
theorem c_stands (hL : JL) (hC : JC) {s e b i : Nat} (T : TB B N M) (h7 : M 33 7 = s) (h4 : M 33 4 = e) (hse : s ≤ e ∧ e ≤ 160) (hb : b ≤ i ∧ i < 64) (hq : Q (if weq B N s e b i then 1 else 0) M) : Con (n + 9) md_X4_standsAtStart [vR 33, vI (b : Int), vI (i : Int)] M Q := g_X4_standsAtStart (by
  intro K hK
  unfold B_X4_standsAtStart
  rw [h7, h4, w32_id (by omega), w32_id (by omega)]
  refine ⟨fun el => ?_, fun el => by rw [if_neg (fun q => by have := q.1; omega)] at hq; exact hq⟩
  have key := loopUp (P := fun j => b ≤ j → (∀ j', j' < j - b → ws (b + j') = bt B N (s + j')) → K (j : Int) M) i (fun _ hp => hK _ _ ?_) (fun j hj ih hbj hp => hK _ _ ?_) b hb.1 (Nat.le_refl _) (fun j' hj' => by omega)
  · exact key
  · unfold B_X4_standsAtStart_19
    refine ⟨fun e => by omega, fun _ => ⟨fun _ => ?_, fun e => absurd (Int.le_refl _) e⟩⟩
    rw [if_pos ⟨by omega, hp⟩] at hq; exact hq
  · unfold B_X4_standsAtStart_19
    refine ⟨fun e => by omega, fun _ => ⟨fun e => by omega, fun _ => hL _ M _ ⟨fun e => by omega, fun _ => hC _ j M _ (by omega) ?_⟩⟩⟩
    rw [h7, w32_id (x := (s : Int) + j) (by omega), w32_id (x := (s : Int) + j - b) (by omega), w32_id (x := (j : Int) + 1) (by omega), show (s : Int) + j - b = ((s + (j - b) : Nat) : Int) by omega]
    refine c_byteAt T ⟨fun e => ih (by omega) (fun j' hj' => ?_), fun e => ?_⟩
    · by_cases c : j' = j - b
      · subst c; rw [show b + (j - b) = j by omega]; exact e
      · exact hp j' (by omega)
    · rw [if_neg (fun q => e (by have := q.2 (j - b) (by omega); rw [show b + (j - b) = j by omega] at this; exact this))] at hq
      exact hq)
end RB
