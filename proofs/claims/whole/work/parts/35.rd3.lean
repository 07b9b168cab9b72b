/-! THE PROGRAM READS: LEVEL BY LEVEL -/
abbrev sY : List Nat := [33, 34]
def CX (B : Nat → Int) (N : Nat) (X : RR → RR) (md : MD) (o : Int) (k : Nat) : Prop := ∀ (M : Mem) (Q : Int → Mem → Prop) (r : RR), TB B N M → CS B N r M → (∀ M', Fr sY M M' → CS B N (X r) M' → Q 0 M') → Con k md [vR 33, vI o] M Q
section RE
variable {B : Nat → Int} {N n : Nat} {o : Int}
theorem TB.Y {M M' : Mem} (T : TB B N M) (hf : Fr sY M M') : TB B N M' := T.fr (hf.mono (by decide))
theorem CS_W {r : RR} {M : Mem} (h : CS B N r M) : WR N 0 r := fun q e => by
  subst e
  obtain ⟨h1, h2, h3, h4, h5, h6, h7, h8⟩ := h
  exact ⟨h7, h8⟩
theorem lp_0 {X : RR → RR} {st : Int → Int} {f : Nat} {r : RR} (h : st (tok B N r) = 0) : lp B N X st (f + 1) r = r := if_pos h
theorem lp_1 {X : RR → RR} {st : Int → Int} {f : Nat} {r : RR} (h : st (tok B N r) ≠ 0) : lp B N X st (f + 1) r = lp B N X st f (mk (st (tok B N r)) (X (adv B N r))) := if_neg h
theorem cx_term (hL : JL) (hC : JC) {A : RR → RR} (hA : CX B N A md_X4_readOne o (n + 12)) (WA : ∀ k r, WR N k r → WR N k (A r)) : CX B N (termS B N A) md_X4_readTerm o (n + 13) := fun M Q r T h hq => g_X4_readTerm (fun K hK => by
  unfold B_X4_readTerm
  refine hA M _ r T h (fun M0 F0 C0 => ?_)
  unfold termS at hq
  have key : ∀ (f i : Nat) (r' : RR) (M' : Mem), i + f = 160 → Fr sY M M' → CS B N r' M' → lp B N A stT f r' = lp B N A stT 160 (A r) → K (i : Int) M' := by
    intro f
    induction f with
    | zero =>
      intro i r' M' hi F C he
      apply hK
      unfold B_X4_readTerm_7
      exact ⟨fun _ => hq M' F (by rw [← he]; exact C), fun e => by omega⟩
    | succ f ih =>
      intro i r' M' hi F C he
      apply hK
      unfold B_X4_readTerm_7
      rw [CS_tok C, w32_id (by omega)]
      refine ⟨fun e => by omega, fun _ => ⟨fun e => ?_, fun e => ?_⟩⟩
      · have es : stT (tok B N r') = -17 := if_pos e
        rw [lp_1 (by rw [es]; decide), es] at he
        refine c_adv hL hC (T.Y F) C (Or.inl (by rw [e]; decide)) (fun M2 F2 C2 => hA M2 _ _ ((T.Y F).Y (F2.mono (by decide))) C2 (fun M4 F4 C4 => c_mk C4 T.2.1 (WA _ _ (adv_W1 (CS_W C) (by rw [e]; decide) (by rw [e]; decide))) (fun M6 F6 C6 => ?_)))
        exact ih (i + 1) _ M6 (by omega) (F.tr ((F2.mono (by decide)).tr (F4.tr F6))) C6 he
      · have es : stT (tok B N r') = 0 := if_neg e
        rw [lp_0 es] at he
        exact hq M' F (by rw [← he]; exact C)
  exact key 160 0 (A r) M0 (by omega) F0 C0 rfl)
theorem cx_sum (hL : JL) (hC : JC) {A : RR → RR} (hA : CX B N (termS B N A) md_X4_readTerm o (n + 12)) (WA : ∀ k r, WR N k r → WR N k (A r)) : CX B N (sumS B N A) md_X4_readSum o (n + 13) := fun M Q r T h hq => g_X4_readSum (fun K hK => by
  unfold B_X4_readSum
  refine hA M _ r T h (fun M0 F0 C0 => ?_)
  unfold sumS at hq
  have key : ∀ (f i : Nat) (r' : RR) (M' : Mem), i + f = 160 → Fr sY M M' → CS B N r' M' → lp B N (termS B N A) stS f r' = lp B N (termS B N A) stS 160 (termS B N A r) → K (i : Int) M' := by
    intro f
    induction f with
    | zero =>
      intro i r' M' hi F C he
      apply hK
      unfold B_X4_readSum_7
      exact ⟨fun _ => hq M' F (by rw [← he]; exact C), fun e => by omega⟩
    | succ f ih =>
      intro i r' M' hi F C he
      apply hK
      unfold B_X4_readSum_7
      rw [CS_tok C, w32_id (by omega)]
      have go : ∀ s, stS (tok B N r') = s → s ≠ 0 → tok B N r' ≠ 13 → tok B N r' ≠ 14 → Con (n + 12) md_X4_advance [vR 33] M' (fun _ M2 => Con (n + 12) md_X4_readTerm [vR 33, vI o] M2 (fun _ M4 => Con (n + 12) md_X4_make [vR 33, vI s] M4 (fun _ M6 => K ((i : Int) + 1) M6))) := fun s es s0 t1 t2 => by
        rw [lp_1 (by rw [es]; exact s0), es] at he
        refine c_adv hL hC (T.Y F) C (Or.inl t2) (fun M2 F2 C2 => hA M2 _ _ ((T.Y F).Y (F2.mono (by decide))) C2 (fun M4 F4 C4 => c_mk C4 T.2.1 (termS_W WA _ _ (adv_W1 (CS_W C) t1 t2)) (fun M6 F6 C6 => ?_)))
        exact ih (i + 1) _ M6 (by omega) (F.tr ((F2.mono (by decide)).tr (F4.tr F6))) C6 he
      refine ⟨fun e => by omega, fun _ => ⟨fun e => ⟨fun _ => ?_, fun e' => absurd e e'⟩, fun e0 => ⟨fun e => ⟨fun e' => absurd e' e0, fun _ => ?_⟩, fun e => ?_⟩⟩⟩
      · exact go _ (if_pos e) (by decide) (by rw [e]; decide) (by rw [e]; decide)
      · exact go _ (by unfold stS; rw [if_neg e0, if_pos e]) (by decide) (by rw [e]; decide) (by rw [e]; decide)
      · have es : stS (tok B N r') = 0 := by unfold stS; rw [if_neg e0, if_neg e]
        rw [lp_0 es] at he
        exact hq M' F (by rw [← he]; exact C)
  exact key 160 0 (termS B N A r) M0 (by omega) F0 C0 rfl)
theorem cx_cmp (hL : JL) (hC : JC) {A : RR → RR} {M : Mem} {Q : Int → Mem → Prop} {r : RR} (hA : CX B N (sumS B N A) md_X4_readSum o (n + 12)) (WA : ∀ k r, WR N k r → WR N k (A r)) (T : TB B N M) (C : CS B N r M) (hq : ∀ M', Fr sY M M' → CS B N (cmpS B N A r) M' → Q 0 M') :
    (((M 33 6) = 60 → (((M 33 6) = 60 → Con (n + 12) md_X4_advance [vR 33] M (fun _ M36 => Con (n + 12) md_X4_readSum [vR 33, vI o] M36 (fun _ M38 => Con (n + 12) md_X4_make [vR 33, vI (-13)] M38 (fun _ M40 => Q 0 M40)))) ∧ (¬ (M 33 6) = 60 → Con (n + 12) md_X4_advance [vR 33] M (fun _ M30 => Con (n + 12) md_X4_readSum [vR 33, vI o] M30 (fun _ M32 => Con (n + 12) md_X4_make [vR 33, vI (-14)] M32 (fun _ M34 => Q 0 M34)))))) ∧ (¬ (M 33 6) = 60 → (((M 33 6) = 61 → (((M 33 6) = 60 → Con (n + 12) md_X4_advance [vR 33] M (fun _ M48 => Con (n + 12) md_X4_readSum [vR 33, vI o] M48 (fun _ M50 => Con (n + 12) md_X4_make [vR 33, vI (-13)] M50 (fun _ M52 => Q 0 M52)))) ∧ (¬ (M 33 6) = 60 → Con (n + 12) md_X4_advance [vR 33] M (fun _ M42 => Con (n + 12) md_X4_readSum [vR 33, vI o] M42 (fun _ M44 => Con (n + 12) md_X4_make [vR 33, vI (-14)] M44 (fun _ M46 => Q 0 M46)))))) ∧ (¬ (M 33 6) = 61 → Q 0 M)))) := by
  rw [CS_tok C]
  have go : ∀ s, cmpS B N A r = mk s (sumS B N A (adv B N r)) → tok B N r ≠ 13 → tok B N r ≠ 14 → Con (n + 12) md_X4_advance [vR 33] M (fun _ M2 => Con (n + 12) md_X4_readSum [vR 33, vI o] M2 (fun _ M4 => Con (n + 12) md_X4_make [vR 33, vI s] M4 (fun _ M6 => Q 0 M6))) := fun s es t1 t2 => by
    refine c_adv hL hC T C (Or.inl t2) (fun M2 F2 C2 => hA M2 _ _ (T.Y (F2.mono (by decide))) C2 (fun M4 F4 C4 => c_mk C4 T.2.1 (sumS_W WA _ _ (adv_W1 (CS_W C) t1 t2)) (fun M6 F6 C6 => ?_)))
    exact hq M6 ((F2.mono (by decide)).tr (F4.tr F6)) (by rw [es]; exact C6)
  refine ⟨fun e => ⟨fun _ => ?_, fun e' => absurd e e'⟩, fun e0 => ⟨fun e => ⟨fun e' => absurd e' e0, fun _ => ?_⟩, fun e => ?_⟩⟩
  · exact go _ (if_pos e) (by rw [e]; decide) (by rw [e]; decide)
  · exact go _ (by unfold cmpS; rw [if_neg e0, if_pos e]) (by rw [e]; decide) (by rw [e]; decide)
  · exact hq M Fr.rf (by unfold cmpS; rw [if_neg e0, if_neg e]; exact C)
theorem cx_not (hL : JL) (hC : JC) {d0 : Bool} {Nn A : RR → RR} (hA : CX B N (sumS B N A) md_X4_readSum o (n + 12)) (WA : ∀ k r, WR N k r → WR N k (A r)) (h0 : d0 = false → 5 ≤ o) (h1 : d0 = true → (0 ≤ o ∧ o < 5) ∧ CX B N Nn md_X4_readNot (o + 1) (n + 12) ∧ ∀ k r, WR N k r → WR N k (Nn r)) : CX B N (notS B N d0 Nn A) md_X4_readNot o (n + 13) := fun M Q r T h hq => g_X4_readNot (by
  unfold B_X4_readNot
  unfold notS at hq
  rw [CS_tok h]
  have sum : ¬ (tok B N r = 11 ∧ d0 = true) → ∀ M1 C1, Fr sY M M1 → C1 = sumS B N A r → CS B N C1 M1 → (∀ M', Fr sY M1 M' → CS B N (cmpS B N A C1) M' → Q 0 M') := fun c M1 C1 F1 e1 _ M' F' C' => hq M' (F1.tr F') (by rw [if_neg c]; rw [e1] at C'; exact C')
  refine ⟨fun e => ⟨fun e5 => ?_, fun e5 => ?_⟩, fun e => ?_⟩
  · have c : ¬ (tok B N r = 11 ∧ d0 = true) := fun q => by have := (h1 q.2).1; omega
    exact hA M _ r T h (fun M1 F1 C1 => cx_cmp hL hC hA WA (T.Y F1) C1 (sum c M1 _ F1 rfl C1))
  · have d1 : d0 = true := by
      cases hd : d0 with
      | true => rfl
      | false => exact absurd (h0 hd) e5
    obtain ⟨ho, hN, WN⟩ := h1 d1
    rw [if_pos ⟨e, d1⟩] at hq
    rw [w32_id (by omega)]
    refine c_adv hL hC T h (Or.inl (by rw [e]; decide)) (fun M2 F2 C2 => hN M2 _ _ (T.Y (F2.mono (by decide))) C2 (fun M4 F4 C4 => c_mk C4 T.2.1 (WN _ _ (adv_W1 (CS_W h) (by rw [e]; decide) (by rw [e]; decide))) (fun M6 F6 C6 => ?_)))
    exact hq M6 ((F2.mono (by decide)).tr (F4.tr F6)) C6
  · exact hA M _ r T h (fun M1 F1 C1 => cx_cmp hL hC hA WA (T.Y F1) C1 (sum (fun q => e q.1) M1 _ F1 rfl C1)))
theorem cx_and (hL : JL) (hC : JC) {A : RR → RR} (hA : CX B N A md_X4_readNot o (n + 12)) (WA : ∀ k r, WR N k r → WR N k (A r)) : CX B N (andS B N A) md_X4_readAnd o (n + 13) := fun M Q r T h hq => g_X4_readAnd (fun K hK => by
  unfold B_X4_readAnd
  refine hA M _ r T h (fun M0 F0 C0 => ?_)
  unfold andS at hq
  have key : ∀ (f i : Nat) (r' : RR) (M' : Mem), i + f = 160 → Fr sY M M' → CS B N r' M' → lp B N A stA f r' = lp B N A stA 160 (A r) → K (i : Int) M' := by
    intro f
    induction f with
    | zero =>
      intro i r' M' hi F C he
      apply hK
      unfold B_X4_readAnd_7
      exact ⟨fun _ => hq M' F (by rw [← he]; exact C), fun e => by omega⟩
    | succ f ih =>
      intro i r' M' hi F C he
      apply hK
      unfold B_X4_readAnd_7
      rw [CS_tok C, w32_id (by omega)]
      refine ⟨fun e => by omega, fun _ => ⟨fun e => ?_, fun e => ?_⟩⟩
      · have es : stA (tok B N r') = -11 := if_pos e
        rw [lp_1 (by rw [es]; decide), es] at he
        refine c_adv hL hC (T.Y F) C (Or.inl (by rw [e]; decide)) (fun M2 F2 C2 => hA M2 _ _ ((T.Y F).Y (F2.mono (by decide))) C2 (fun M4 F4 C4 => c_mk C4 T.2.1 (WA _ _ (adv_W1 (CS_W C) (by rw [e]; decide) (by rw [e]; decide))) (fun M6 F6 C6 => ?_)))
        exact ih (i + 1) _ M6 (by omega) (F.tr ((F2.mono (by decide)).tr (F4.tr F6))) C6 he
      · have es : stA (tok B N r') = 0 := if_neg e
        rw [lp_0 es] at he
        exact hq M' F (by rw [← he]; exact C)
  exact key 160 0 (A r) M0 (by omega) F0 C0 rfl)
theorem cx_or (hL : JL) (hC : JC) {A : RR → RR} (hA : CX B N (andS B N A) md_X4_readAnd o (n + 12)) (WA : ∀ k r, WR N k r → WR N k (A r)) : CX B N (orQ B N A) md_X4_readOr o (n + 13) := fun M Q r T h hq => g_X4_readOr (fun K hK => by
  unfold B_X4_readOr
  refine hA M _ r T h (fun M0 F0 C0 => ?_)
  unfold orQ at hq
  have key : ∀ (f i : Nat) (r' : RR) (M' : Mem), i + f = 160 → Fr sY M M' → CS B N r' M' → lp B N (andS B N A) stO f r' = lp B N (andS B N A) stO 160 (andS B N A r) → K (i : Int) M' := by
    intro f
    induction f with
    | zero =>
      intro i r' M' hi F C he
      apply hK
      unfold B_X4_readOr_7
      exact ⟨fun _ => hq M' F (by rw [← he]; exact C), fun e => by omega⟩
    | succ f ih =>
      intro i r' M' hi F C he
      apply hK
      unfold B_X4_readOr_7
      rw [CS_tok C, w32_id (by omega)]
      refine ⟨fun e => by omega, fun _ => ⟨fun e => ?_, fun e => ?_⟩⟩
      · have es : stO (tok B N r') = -10 := if_pos e
        rw [lp_1 (by rw [es]; decide), es] at he
        refine c_adv hL hC (T.Y F) C (Or.inl (by rw [e]; decide)) (fun M2 F2 C2 => hA M2 _ _ ((T.Y F).Y (F2.mono (by decide))) C2 (fun M4 F4 C4 => c_mk C4 T.2.1 (andS_W WA _ _ (adv_W1 (CS_W C) (by rw [e]; decide) (by rw [e]; decide))) (fun M6 F6 C6 => ?_)))
        exact ih (i + 1) _ M6 (by omega) (F.tr ((F2.mono (by decide)).tr (F4.tr F6))) C6 he
      · have es : stO (tok B N r') = 0 := if_neg e
        rw [lp_0 es] at he
        exact hq M' F (by rw [← he]; exact C)
  exact key 160 0 (andS B N A r) M0 (by omega) F0 C0 rfl)
theorem CS_num {r : RR} {M : Mem} (h : CS B N r M) (e : tok B N r = 12) : mk (M 33 8) r = mkv B N r := by
  match r, h, e with
  | .inr q, h, e =>
    obtain ⟨h1, h2, h3, h4, h5, h6, h7, h8⟩ := h
    show Sum.inr (q.1 ++ [M 33 8], q.2) = Sum.inr (q.1 ++ [tvl B N q.2], q.2)
    rw [h4 e]
theorem mk_tok {r : RR} {s : Int} : tok B N (mk s r) = tok B N r := by
  match r with
  | .inl f => rfl
  | .inr q => rfl
theorem c_mkadv (hL : JL) (hC : JC) {n : Nat} {M : Mem} {Q : Int → Mem → Prop} {q : List Int × Nat} {s : Int} (T : TB B N M) (h : CS B N (.inr q) M) (t1 : tkc B N q.2 ≠ 13) (t2 : tkc B N q.2 ≠ 14) (hq : ∀ M', Fr sY M M' → CS B N (.inr (q.1 ++ [s], nxt B N q.2)) M' → Q 0 M') : Con (n + 12) md_X4_make [vR 33, vI s] M (fun _ M58 => Con (n + 12) md_X4_advance [vR 33] M58 (fun _ M60 => Q 0 M60)) := g_X4_make (by
  unfold B_X4_make
  obtain ⟨h1, h2, h3, h4, h5, h6, h7, h8⟩ := h
  have n1 := nxt_s (B := B) h8 t1 t2
  have n2 := nxt_b (B := B) h8
  have hN := T.2.1
  rw [h6.1]
  refine ⟨fun e => by omega, fun e => ⟨by omega, fun M1 e1 M2 e2 => ?_⟩⟩
  have a : M1 33 3 = q.1.length := by rw [e1, up_ne (by omega)]; exact h6.1
  rw [a, w32_id (by omega)] at e2
  have g : ∀ k, k ≠ 3 → M2 33 k = M 33 k := fun k hk => by rw [e2, up_ne (by omega), e1, up_ne (by omega)]
  have F2 : Fr sY M M2 := by rw [e2, e1]; exact (Fr.rf.up (by decide)).up (by decide)
  rw [if_neg t2] at h5
  have el : (q.1 ++ [s]).length = q.1.length + 1 := by simp
  refine c_adv0 hL hC (c := q.1 ++ [s]) (T.Y F2) (by rw [g 4 (by decide)]; exact h3) (by rw [g 5 (by decide)]; exact h5) ⟨?_, fun i hi => ?_⟩ (by omega) (fun M' F' C' => hq M' (F2.tr (F'.mono (by decide))) C')
  · rw [e2, up_same, el]; omega
  · rw [e2, up_ne (by omega), e1, show ((q.1.length : Nat) : Int).toNat = q.1.length from rfl]
    by_cases c : i = q.1.length
    · subst c; rw [up_same]; simp
    · rw [up_ne (by omega), h6.2 i (by omega)]
      simp [List.getD, List.getElem?_append_left (show i < q.1.length by omega)])
theorem cx_one (hL : JL) (hC : JC) {d0 : Bool} {A O : RR → RR} (h0 : d0 = false → 5 ≤ o) (h1 : d0 = true → (0 ≤ o ∧ o < 5) ∧ CX B N A md_X4_readOne (o + 1) (n + 12) ∧ CX B N O md_X4_readOr (o + 1) (n + 12) ∧ ∀ k r, WR N k r → WR N k (A r)) : CX B N (oneS B N d0 A O) md_X4_readOne o (n + 13) := fun M Q r T h hq => g_X4_readOne (by
  unfold B_X4_readOne
  rw [CS_tok h]
  unfold oneS at hq
  refine ⟨fun e => ?_, fun e12 => ?_⟩
  · rw [if_pos e] at hq
    match r, h, e, hq with
    | .inr q, h, e, hq =>
      have e' : tkc B N q.2 = 12 := e
      have h48 : M 33 8 = tvl B N q.2 := h.2.2.2.1 e'
      rw [h48]
      exact c_mkadv hL hC T h (by rw [e']; decide) (by rw [e']; decide) hq
  · rw [if_neg e12] at hq
    have minus : tok B N r = 45 → ¬ 5 ≤ o → Con (n + 12) md_X4_advance [vR 33] M (fun _ M22 => Con (n + 12) md_X4_readOne [vR 33, vI (w32 (o + 1))] M22 (fun _ M24 => Con (n + 12) md_X4_make [vR 33, vI (-18)] M24 (fun _ M26 => Q 0 M26))) := fun e e5 => by
      have d1 : d0 = true := by
        cases hd : d0 with
        | true => rfl
        | false => exact absurd (h0 hd) e5
      obtain ⟨ho, hA, hO, WA⟩ := h1 d1
      rw [if_neg (by omega), if_pos ⟨e, d1⟩] at hq
      rw [w32_id (by omega)]
      refine c_adv hL hC T h (Or.inl (by rw [e]; decide)) (fun M2 F2 C2 => hA M2 _ _ (T.Y (F2.mono (by decide))) C2 (fun M4 F4 C4 => c_mk C4 T.2.1 (WA _ _ (adv_W1 (CS_W h) (by rw [e]; decide) (by rw [e]; decide))) (fun M6 F6 C6 => ?_)))
      exact hq M6 ((F2.mono (by decide)).tr (F4.tr F6)) C6
    have paren : tok B N r = 40 → ¬ 5 ≤ o → Con (n + 12) md_X4_advance [vR 33] M (fun _ M16 => Con (n + 12) md_X4_readOr [vR 33, vI (w32 (o + 1))] M16 (fun _ M18 => Con (n + 12) md_X4_expect [vR 33, vI 41] M18 (fun _ M20 => Q 0 M20))) := fun e e5 => by
      have d1 : d0 = true := by
        cases hd : d0 with
        | true => rfl
        | false => exact absurd (h0 hd) e5
      obtain ⟨ho, hA, hO, WA⟩ := h1 d1
      rw [if_neg (by omega), if_neg (by omega), if_pos ⟨e, d1⟩] at hq
      rw [w32_id (by omega)]
      refine c_adv hL hC T h (Or.inl (by rw [e]; decide)) (fun M2 F2 C2 => hO M2 _ _ (T.Y (F2.mono (by decide))) C2 (fun M4 F4 C4 => c_ex hL hC (T.Y ((F2.mono (by decide)).tr F4)) C4 (by decide) (fun M6 F6 C6 => ?_)))
      exact hq M6 ((F2.mono (by decide)).tr (F4.tr (F6.mono (by decide)))) C6
    have fail : ¬ (0 ≤ tok B N r ∧ tok B N r < 6) → ¬ (tok B N r = 45 ∧ ¬ 5 ≤ o) → ¬ (tok B N r = 40 ∧ ¬ 5 ≤ o) → Con (n + 12) md_X4_fail [vR 33] M (fun _ M14 => Q 0 M14) := fun n1 n2 n3 => by
      have nd : ∀ t : Int, ¬ (tok B N r = t ∧ ¬ 5 ≤ o) → ¬ (tok B N r = t ∧ d0 = true) := fun t q q' => q ⟨q'.1, by have := (h1 q'.2).1; omega⟩
      rw [if_neg n1, if_neg (nd _ n2), if_neg (nd _ n3)] at hq
      exact c_fl h T.2.1 (fun M' F' C' => hq M' (F'.mono (by decide)) C')
    refine ⟨fun en => ⟨fun e => by omega, fun _ => ⟨fun e => by omega, fun _ => fail (by omega) (by omega) (by omega)⟩⟩, fun en => ⟨fun e6 => ⟨fun e => ⟨fun e5 => ⟨fun e' => by omega, fun _ => fail (by omega) (fun q => q.2 e5) (by omega)⟩, fun e5 => minus e e5⟩, fun e45 => ⟨fun e => ⟨fun e5 => fail (by omega) (by omega) (fun q => q.2 e5), fun e5 => paren e e5⟩, fun e40 => fail (by omega) (by omega) (by omega)⟩⟩, fun e6 => ?_⟩⟩
    rw [if_pos (by omega)] at hq
    match r, h, e12, en, e6, hq with
    | .inl f, h, e12, en, e6, hq => exact absurd (show (6 : Int) ≤ 14 by decide) e6
    | .inr q, h, e12, en, e6, hq =>
      have en' : ¬ tkc B N q.2 < 0 := en
      have e6' : ¬ 6 ≤ tkc B N q.2 := e6
      show Con (n + 12) md_X4_make [vR 33, vI (w32 (-1 - tkc B N q.2))] M _
      rw [w32_id (by omega)]
      exact c_mkadv hL hC T h (by omega) (by omega) hq)
theorem cx_lvl (hL : JL) (hC : JC) : ∀ d : Nat, d ≤ 5 → (∀ n, CX B N (pN B N d).1 md_X4_readOne (5 - d : Int) (6 * d + n + 13)) ∧ (∀ n, CX B N (pN B N d).2 md_X4_readNot (5 - d : Int) (6 * d + n + 16)) ∧ (∀ n, CX B N (orQ B N (pN B N d).2) md_X4_readOr (5 - d : Int) (6 * d + n + 18)) := by
  intro d
  induction d with
  | zero =>
    intro _
    have one : ∀ n, CX B N (pN B N 0).1 md_X4_readOne (5 - (0 : Nat) : Int) (6 * 0 + n + 13) := fun n => cx_one hL hC (fun _ => by decide) (fun q => by cases q)
    have W := pN_W (B := B) (N := N) 0
    have not : ∀ n, CX B N (pN B N 0).2 md_X4_readNot (5 - (0 : Nat) : Int) (6 * 0 + n + 16) := fun n => cx_not hL hC (cx_sum hL hC (cx_term hL hC (one n) W.1) W.1) W.1 (fun _ => by decide) (fun q => by cases q)
    exact ⟨one, not, fun n => cx_or hL hC (cx_and hL hC (not n) W.2) W.2⟩
  | succ d ih =>
    intro hd
    obtain ⟨i1, i2, i3⟩ := ih (by omega)
    have W := pN_W (B := B) (N := N) (d + 1)
    have W0 := pN_W (B := B) (N := N) d
    have eo : (5 - ((d + 1 : Nat) : Int)) + 1 = 5 - (d : Int) := by omega
    have one : ∀ n, CX B N (pN B N (d + 1)).1 md_X4_readOne (5 - ((d + 1 : Nat) : Int)) (6 * (d + 1) + n + 13) := fun n => by
      rw [show 6 * (d + 1) + n + 13 = (6 * d + n + 6) + 13 by omega]
      refine cx_one hL hC (fun q => by cases q) (fun _ => ⟨by omega, ?_, ?_, W0.1⟩)
      · rw [eo, show 6 * d + n + 6 + 12 = 6 * d + (n + 5) + 13 by omega]; exact i1 (n + 5)
      · rw [eo, show 6 * d + n + 6 + 12 = 6 * d + n + 18 by omega]; exact i3 n
    have not : ∀ n, CX B N (pN B N (d + 1)).2 md_X4_readNot (5 - ((d + 1 : Nat) : Int)) (6 * (d + 1) + n + 16) := fun n => by
      refine cx_not hL hC (cx_sum hL hC (cx_term hL hC (one n) W.1) W.1) W.1 (fun q => by cases q) (fun _ => ⟨by omega, ?_, W0.2⟩)
      rw [eo, show 6 * (d + 1) + n + 3 + 12 = 6 * d + (n + 5) + 16 by omega]; exact i2 (n + 5)
    exact ⟨one, not, fun n => cx_or hL hC (cx_and hL hC (not n) W.2) W.2⟩
end RE
