/-! THE MODEL READS: THE LOOPS -/
section MO
variable {B : Nat → Int} {N t n : Nat} {o : Int}
/-- behind one step of a loop -/
theorem lp_next {X : RR → RR} {e : Nat → Int} {c0 : List Int} {q' : List Int × Nat} {x1 v s : Int} {i : Nat} (hN : N ≤ 160) (WX : ∀ k r, WR N k r → WR N k (X r)) (W : WR N 0 (.inr q')) (t1 : tkc B N q'.2 ≠ 13) (t2 : tkc B N q'.2 ≠ 14) (hi : i ≤ q'.1.length) (P : PV e c0 (.inr q') x1) (Pv : PV e q'.1 (X (adv B N (.inr q'))) v) (hs : s = -17 ∨ s = -16 ∨ s = -15 ∨ s = -14 ∨ s = -13 ∨ s = -11 ∨ s = -10) :
    PV e c0 (mk s (X (adv B N (.inr q')))) (o2 s x1 v) ∧ WR N 0 (mk s (X (adv B N (.inr q')))) ∧ ∀ q, mk s (X (adv B N (.inr q'))) = .inr q → i + 1 ≤ q.1.length :=
  ⟨PV.bin P Pv (fun _ => st1_bi hs), mk_W (WX _ _ (adv_W1 W t1 t2)), mk_len (fun q hq => Nat.le_trans hi (PV_len Pv q hq))⟩
theorem mx_term {A : RR → RR} (hA : MX B N t A md_X10_atom o (n + 5)) (WA : ∀ k r, WR N k r → WR N k (A r)) : MX B N t (termS B N A) md_X10_term o (n + 6) := fun M Q e q T h E hl hq => g_X10_term (fun K hK => by
  unfold B_X10_term
  have hN := T.2.2.1
  unfold termS at hq
  refine hA M _ e q T h E hl (fun v M0 F0 C0 P0 => ?_)
  have key : ∀ (f i : Nat) (r' : RR) (x1 : Int) (M' : Mem), i + f = 160 → Fp sV M M' → MS B N o r' M' → PV e q.1 r' x1 → WR N 0 r' → (∀ q', r' = .inr q' → i ≤ q'.1.length) → lp B N A stT f r' = lp B N A stT 160 (A (.inr q)) → K x1 M' := by
    intro f
    induction f with
    | zero =>
      intro i r' x1 M' hi F C P W hl' he
      apply hK
      unfold B_X10_term_5
      have z := lp_stop (B := B) (st := stT) hN W (fun q' hq' => by have := hl' q' hq'; omega) rfl rfl
      have nt : ¬ tok B N r' = 42 := fun c => by rw [c] at z; exact absurd z (by decide)
      refine mm_isSign (x := 42) (by unfold sg; omega) C ?_
      rw [if_neg nt]
      exact ⟨fun _ => hq x1 M' F (by rw [← he]; exact C) (by rw [← he]; exact P), fun e => absurd rfl e⟩
    | succ f ih =>
      intro i r' x1 M' hi F C P W hl' he
      apply hK
      unfold B_X10_term_5
      refine mm_isSign (x := 42) (by unfold sg; omega) C ?_
      by_cases c : tok B N r' = 42
      · rw [if_pos c]
        refine ⟨fun e => by omega, fun _ => ?_⟩
        match r', C, P, W, hl', he, c with
        | .inr q', C, P, W, hl', he, c =>
          have c' : tkc B N q'.2 = 42 := c
          have es : stT (tok B N (.inr q')) = -17 := by show stT (tkc B N q'.2) = -17; rw [c']; rfl
          rw [lp_1 (by rw [es]; decide), es] at he
          have nb := nxt_b (B := B) (W q' rfl).2
          refine mm_adv (T.fr F) C (fun M2 F2 C2 => hA M2 _ e _ ((T.fr F).fr F2) C2 ((E.V F).V F2) (by have := W q' rfl; show q'.1.length ≤ nxt B N q'.2; omega) (fun v M4 F4 C4 P4 => ?_))
          obtain ⟨n1, n2, n3⟩ := lp_next (s := -17) hN WA W (by rw [c']; decide) (by rw [c']; decide) (hl' q' rfl) P P4 (by omega)
          exact ih (i + 1) _ _ M4 (by omega) (F.tr (F2.tr F4)) (MS_mk C4) n1 n2 n3 he
      · rw [if_neg c]
        have es : stT (tok B N r') = 0 := if_neg c
        rw [lp_0 es] at he
        exact ⟨fun _ => hq x1 M' F (by rw [← he]; exact C) (by rw [← he]; exact P), fun e => absurd rfl e⟩
  exact key 160 0 (A (.inr q)) v M0 (by omega) F0 C0 P0 (WA _ _ (fun q' e' => by cases e'; exact ⟨hl, h.2.2.2.2.1⟩)) (fun _ _ => Nat.zero_le _) rfl)
theorem mx_sum {A : RR → RR} (hA : MX B N t (termS B N A) md_X10_term o (n + 5)) (WA : ∀ k r, WR N k r → WR N k (A r)) : MX B N t (sumS B N A) md_X10_added o (n + 6) := fun M Q e q T h E hl hq => g_X10_added (fun K hK => by
  unfold B_X10_added
  have hN := T.2.2.1
  unfold sumS at hq
  refine hA M _ e q T h E hl (fun v M0 F0 C0 P0 => ?_)
  have key : ∀ (f i : Nat) (r' : RR) (x1 : Int) (M' : Mem), i + f = 160 → Fp sV M M' → MS B N o r' M' → PV e q.1 r' x1 → WR N 0 r' → (∀ q', r' = .inr q' → i ≤ q'.1.length) → lp B N (termS B N A) stS f r' = lp B N (termS B N A) stS 160 (termS B N A (.inr q)) → K x1 M' := by
    intro f
    induction f with
    | zero =>
      intro i r' x1 M' hi F C P W hl' he
      apply hK
      unfold B_X10_added_5
      have z := lp_stop (B := B) (st := stS) hN W (fun q' hq' => by have := hl' q' hq'; omega) rfl rfl
      have nt : ¬ tok B N r' = 43 := fun c => by rw [c] at z; exact absurd z (by decide)
      have nt2 : ¬ tok B N r' = 45 := fun c => by rw [c] at z; exact absurd z (by decide)
      refine mm_isSign (x := 43) (by unfold sg; omega) C ?_
      rw [if_neg nt]
      refine ⟨fun _ => mm_isSign (x := 45) (by unfold sg; omega) C ?_, fun e => absurd rfl e⟩
      rw [if_neg nt2]
      exact ⟨fun _ => hq x1 M' F (by rw [← he]; exact C) (by rw [← he]; exact P), fun e => absurd rfl e⟩
    | succ f ih =>
      intro i r' x1 M' hi F C P W hl' he
      apply hK
      unfold B_X10_added_5
      have go : ∀ s, stS (tok B N r') = s → (s = -15 ∨ s = -16) → tok B N r' ≠ 13 → tok B N r' ≠ 14 → Con (n + 5) md_X10_nextToken [vR 51] M' (fun _ M8 => Con (n + 5) md_X10_term [vR 51] M8 (fun r9 M10 => K (o2 s x1 r9) M10)) := fun s es s0 t1 t2 => by
        match r', C, P, W, hl', he, es, t1, t2 with
        | .inl g, C, P, W, hl', he, es, t1, t2 => exact absurd rfl t2
        | .inr q', C, P, W, hl', he, es, t1, t2 =>
          rw [lp_1 (by rw [es]; omega), es] at he
          have nb := nxt_b (B := B) (W q' rfl).2
          refine mm_adv (T.fr F) C (fun M2 F2 C2 => hA M2 _ e _ ((T.fr F).fr F2) C2 ((E.V F).V F2) (by have := W q' rfl; show q'.1.length ≤ nxt B N q'.2; omega) (fun v M4 F4 C4 P4 => ?_))
          obtain ⟨n1, n2, n3⟩ := lp_next (s := s) hN (termS_W WA) W t1 t2 (hl' q' rfl) P P4 (by omega)
          exact ih (i + 1) _ _ M4 (by omega) (F.tr (F2.tr F4)) (MS_mk C4) n1 n2 n3 he
      have w26 : ∀ x : Int, sg x → tok B N r' = x → M' 51 26 = x := fun x hx c => by
        match r', C, c with
        | .inl g, C, c => unfold sg at hx; have : (14 : Int) = x := c; omega
        | .inr q', C, c => exact ((KD_sign hx C.2.2.2.2.2).1 c).2
      refine mm_isSign (x := 43) (by unfold sg; omega) C ?_
      by_cases c : tok B N r' = 43
      · rw [if_pos c, lc0, w26 43 (by unfold sg; omega) c]
        have := go (-15) (by unfold stS; rw [if_pos c]) (Or.inl rfl) (by rw [c]; decide) (by rw [c]; decide)
        exact ⟨fun e => by omega, fun _ => ⟨fun _ => this.mono (fun r M2 _ _ hc => hc.mono (fun r3 M3 _ _ hk => ⟨fun e => by omega, fun _ => hk⟩)), fun e => absurd rfl e⟩⟩
      · rw [if_neg c]
        refine ⟨fun _ => mm_isSign (x := 45) (by unfold sg; omega) C ?_, fun e => absurd rfl e⟩
        by_cases c2 : tok B N r' = 45
        · rw [if_pos c2, lc0, w26 45 (by unfold sg; omega) c2]
          have := go (-16) (by unfold stS; rw [if_neg c, if_pos c2]) (Or.inr rfl) (by rw [c2]; decide) (by rw [c2]; decide)
          exact ⟨fun e => by omega, fun _ => ⟨fun e => by omega, fun _ => this.mono (fun r M2 _ _ hc => hc.mono (fun r3 M3 _ _ hk => ⟨fun _ => hk, fun e => absurd rfl e⟩))⟩⟩
        · rw [if_neg c2]
          have es : stS (tok B N r') = 0 := by unfold stS; rw [if_neg c, if_neg c2]
          rw [lp_0 es] at he
          exact ⟨fun _ => hq x1 M' F (by rw [← he]; exact C) (by rw [← he]; exact P), fun e => absurd rfl e⟩
  exact key 160 0 (termS B N A (.inr q)) v M0 (by omega) F0 C0 P0 (termS_W WA _ _ (fun q' e' => by cases e'; exact ⟨hl, h.2.2.2.2.1⟩)) (fun _ _ => Nat.zero_le _) rfl)
theorem mx_and {A : RR → RR} (hA : MX B N t A md_X10_not o (n + 5)) (WA : ∀ k r, WR N k r → WR N k (A r)) : MX B N t (andS B N A) md_X10_both o (n + 6) := fun M Q e q T h E hl hq => g_X10_both (fun K hK => by
  unfold B_X10_both
  have hN := T.2.2.1
  unfold andS at hq
  refine hA M _ e q T h E hl (fun v M0 F0 C0 P0 => ?_)
  have key : ∀ (f i : Nat) (r' : RR) (x1 : Int) (M' : Mem), i + f = 160 → Fp sV M M' → MS B N o r' M' → PV e q.1 r' x1 → WR N 0 r' → (∀ q', r' = .inr q' → i ≤ q'.1.length) → lp B N A stA f r' = lp B N A stA 160 (A (.inr q)) → K x1 M' := by
    intro f
    induction f with
    | zero =>
      intro i r' x1 M' hi F C P W hl' he
      apply hK
      unfold B_X10_both_5
      have z := lp_stop (B := B) (st := stA) hN W (fun q' hq' => by have := hl' q' hq'; omega) rfl rfl
      have nt : ¬ tok B N r' = (10 : Nat) := fun c => by rw [c] at z; exact absurd z (by decide)
      refine mm_isWord (k := 10) (by omega) (by decide) (T.fr F) C ?_
      rw [if_neg nt]
      exact ⟨fun _ => hq x1 M' F (by rw [← he]; exact C) (by rw [← he]; exact P), fun e => absurd rfl e⟩
    | succ f ih =>
      intro i r' x1 M' hi F C P W hl' he
      apply hK
      unfold B_X10_both_5
      refine mm_isWord (k := 10) (by omega) (by decide) (T.fr F) C ?_
      by_cases c : tok B N r' = (10 : Nat)
      · rw [if_pos c]
        refine ⟨fun e => by omega, fun _ => ?_⟩
        match r', C, P, W, hl', he, c with
        | .inr q', C, P, W, hl', he, c =>
          have c' : tkc B N q'.2 = 10 := c
          have es : stA (tok B N (.inr q')) = -11 := by show stA (tkc B N q'.2) = -11; rw [c']; rfl
          rw [lp_1 (by rw [es]; decide), es] at he
          have nb := nxt_b (B := B) (W q' rfl).2
          refine mm_adv (T.fr F) C (fun M2 F2 C2 => hA M2 _ e _ ((T.fr F).fr F2) C2 ((E.V F).V F2) (by have := W q' rfl; show q'.1.length ≤ nxt B N q'.2; omega) (fun v M4 F4 C4 P4 => ?_))
          obtain ⟨n1, n2, n3⟩ := lp_next (s := -11) hN WA W (by rw [c']; decide) (by rw [c']; decide) (hl' q' rfl) P P4 (by omega)
          have nx := ih (i + 1) _ _ M4 (by omega) (F.tr (F2.tr F4)) (MS_mk C4) n1 n2 n3 he
          have eo : o2 (-11) x1 v = if x1 ≠ 0 ∧ v ≠ 0 then 1 else 0 := rfl
          rw [eo] at nx
          refine ⟨fun e0 => ?_, fun e0 => ⟨fun e1 => ?_, fun e1 => ?_⟩⟩
          · rw [if_neg (fun q => q.1 e0)] at nx; exact nx
          · rw [if_neg (fun q => q.2 e1)] at nx; exact nx
          · rw [if_pos ⟨e0, e1⟩] at nx; exact nx
      · rw [if_neg c]
        have es : stA (tok B N r') = 0 := if_neg c
        rw [lp_0 es] at he
        exact ⟨fun _ => hq x1 M' F (by rw [← he]; exact C) (by rw [← he]; exact P), fun e => absurd rfl e⟩
  exact key 160 0 (A (.inr q)) v M0 (by omega) F0 C0 P0 (WA _ _ (fun q' e' => by cases e'; exact ⟨hl, h.2.2.2.2.1⟩)) (fun _ _ => Nat.zero_le _) rfl)
theorem mx_or {A : RR → RR} (hA : MX B N t (andS B N A) md_X10_both o (n + 5)) (WA : ∀ k r, WR N k r → WR N k (A r)) : MX B N t (orQ B N A) md_X10_either o (n + 6) := fun M Q e q T h E hl hq => g_X10_either (fun K hK => by
  unfold B_X10_either
  have hN := T.2.2.1
  unfold orQ at hq
  refine hA M _ e q T h E hl (fun v M0 F0 C0 P0 => ?_)
  have key : ∀ (f i : Nat) (r' : RR) (x1 : Int) (M' : Mem), i + f = 160 → Fp sV M M' → MS B N o r' M' → PV e q.1 r' x1 → WR N 0 r' → (∀ q', r' = .inr q' → i ≤ q'.1.length) → lp B N (andS B N A) stO f r' = lp B N (andS B N A) stO 160 (andS B N A (.inr q)) → K x1 M' := by
    intro f
    induction f with
    | zero =>
      intro i r' x1 M' hi F C P W hl' he
      apply hK
      unfold B_X10_either_5
      have z := lp_stop (B := B) (st := stO) hN W (fun q' hq' => by have := hl' q' hq'; omega) rfl rfl
      have nt : ¬ tok B N r' = (9 : Nat) := fun c => by rw [c] at z; exact absurd z (by decide)
      refine mm_isWord (k := 9) (by omega) (by decide) (T.fr F) C ?_
      rw [if_neg nt]
      exact ⟨fun _ => hq x1 M' F (by rw [← he]; exact C) (by rw [← he]; exact P), fun e => absurd rfl e⟩
    | succ f ih =>
      intro i r' x1 M' hi F C P W hl' he
      apply hK
      unfold B_X10_either_5
      refine mm_isWord (k := 9) (by omega) (by decide) (T.fr F) C ?_
      by_cases c : tok B N r' = (9 : Nat)
      · rw [if_pos c]
        refine ⟨fun e => by omega, fun _ => ?_⟩
        match r', C, P, W, hl', he, c with
        | .inr q', C, P, W, hl', he, c =>
          have c' : tkc B N q'.2 = 9 := c
          have es : stO (tok B N (.inr q')) = -10 := by show stO (tkc B N q'.2) = -10; rw [c']; rfl
          rw [lp_1 (by rw [es]; decide), es] at he
          have nb := nxt_b (B := B) (W q' rfl).2
          refine mm_adv (T.fr F) C (fun M2 F2 C2 => hA M2 _ e _ ((T.fr F).fr F2) C2 ((E.V F).V F2) (by have := W q' rfl; show q'.1.length ≤ nxt B N q'.2; omega) (fun v M4 F4 C4 P4 => ?_))
          obtain ⟨n1, n2, n3⟩ := lp_next (s := -10) hN (andS_W WA) W (by rw [c']; decide) (by rw [c']; decide) (hl' q' rfl) P P4 (by omega)
          have nx := ih (i + 1) _ _ M4 (by omega) (F.tr (F2.tr F4)) (MS_mk C4) n1 n2 n3 he
          have eo : o2 (-10) x1 v = if x1 ≠ 0 ∨ v ≠ 0 then 1 else 0 := rfl
          rw [eo] at nx
          refine ⟨fun e0 => ⟨fun e1 => ?_, fun e1 => ?_⟩, fun e0 => ?_⟩
          · rw [if_neg (fun q => q.elim (fun q => q e0) (fun q => q e1))] at nx; exact nx
          · rw [if_pos (Or.inr e1)] at nx; exact nx
          · rw [if_pos (Or.inl e0)] at nx; exact nx
      · rw [if_neg c]
        have es : stO (tok B N r') = 0 := if_neg c
        rw [lp_0 es] at he
        exact ⟨fun _ => hq x1 M' F (by rw [← he]; exact C) (by rw [← he]; exact P), fun e => absurd rfl e⟩
  exact key 160 0 (andS B N A (.inr q)) v M0 (by omega) F0 C0 P0 (andS_W WA _ _ (fun q' e' => by cases e'; exact ⟨hl, h.2.2.2.2.1⟩)) (fun _ _ => Nat.zero_le _) rfl)
end MO
