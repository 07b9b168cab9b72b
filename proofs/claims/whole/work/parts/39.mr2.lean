/-! THE MODEL READS: WORDS AND SIGNS -/
theorem ws_n0 : ∀ i, i < 64 → ws i ≠ 0 := by decide
theorem wb_b : ∀ k, k < 12 → (wb k).1 ≤ (wb k).2 ∧ (wb k).2 < 64 ∧ (wb k).2 - (wb k).1 ≤ 8 := by decide
section MW
variable {B : Nat → Int} {N t n : Nat} {M : Mem} {Q : Int → Mem → Prop} {o : Int}
theorem mm_fl {r : RR} (h : MS B N o r M) (hq : ∀ M', Fp sV M M' → MS B N o (fl B N r) M' → Q 0 M') : Con (n + 1) md_X10_fail [vR 51] M Q := g_X10_fail (by
  unfold B_X10_fail
  match r, h, hq with
  | .inl f, h, hq => exact ⟨fun e => by rw [h.1] at e; omega, fun _ => hq M Fp.rf h⟩
  | .inr q, h, hq =>
    refine ⟨fun _ M1 e1 M2 e2 => ?_, fun e => absurd h.1 e⟩
    have a : M1 51 25 = (sta B N q.2 : Nat) := by rw [e1, up_ne (by omega)]; exact h.2.2.1
    rw [a] at e2
    refine hq M2 (by rw [e2, e1]; exact (Fp.rf.up (by unfold sV; omega)).up (by unfold sV; omega)) ⟨by rw [e2, up_ne (by omega), e1, up_same], by rw [e2, up_same], by rw [e2, up_ne (by omega), e1, up_ne (by omega)]; exact h.2.2.2.1⟩)
theorem KD_sign {p : Nat} {x : Int} (hx : sg x) (h : KD B N p M) : (tkc B N p = x ↔ M 51 24 = 3 ∧ M 51 26 = x) := by
  unfold KD at h
  unfold tkc
  have hr := wc_r (B := B) (N := N) (s := sta B N p) (e := ruE le B N (sta B N p))
  unfold sg at hx
  by_cases c1 : bt B N (sta B N p) = -1
  · rw [if_pos c1] at h ⊢; omega
  · rw [if_neg c1] at h ⊢
    by_cases c2 : le (bt B N (sta B N p)) = true
    · rw [if_pos c2] at h ⊢; omega
    · rw [if_neg c2] at h ⊢
      by_cases c3 : di (bt B N (sta B N p)) = true
      · rw [if_pos c3] at h ⊢
        by_cases c4 : ruE di B N (sta B N p) - sta B N p ≤ 4
        · rw [if_pos c4] at h ⊢; omega
        · rw [if_neg c4] at h ⊢; omega
      · rw [if_neg c3] at h ⊢
        by_cases c4 : sg (bt B N (sta B N p))
        · rw [if_pos c4] at h ⊢; omega
        · rw [if_neg c4] at h ⊢; omega
theorem KD_num {p : Nat} (h : KD B N p M) : (tkc B N p = 12 ↔ M 51 24 = 2) ∧ (M 51 24 = 2 → M 51 26 = tvl B N p) := by
  unfold KD at h
  unfold tkc
  have hr := wc_r (B := B) (N := N) (s := sta B N p) (e := ruE le B N (sta B N p))
  by_cases c1 : bt B N (sta B N p) = -1
  · rw [if_pos c1] at h ⊢; omega
  · rw [if_neg c1] at h ⊢
    by_cases c2 : le (bt B N (sta B N p)) = true
    · rw [if_pos c2] at h ⊢; omega
    · rw [if_neg c2] at h ⊢
      by_cases c3 : di (bt B N (sta B N p)) = true
      · rw [if_pos c3] at h ⊢
        by_cases c4 : ruE di B N (sta B N p) - sta B N p ≤ 4
        · rw [if_pos c4] at h ⊢; exact ⟨⟨fun _ => h.1, fun _ => rfl⟩, fun _ => h.2⟩
        · rw [if_neg c4] at h ⊢; omega
      · rw [if_neg c3] at h ⊢
        by_cases c4 : sg (bt B N (sta B N p))
        · rw [if_pos c4] at h ⊢; unfold sg at c4; omega
        · rw [if_neg c4] at h ⊢; omega
theorem KD_word {p : Nat} (h : KD B N p M) : (M 51 24 = 1 → bt B N (sta B N p) ≠ -1 ∧ le (bt B N (sta B N p)) = true ∧ tkc B N p = wc B N (sta B N p) (nxt B N p) ∧ nxt B N p = ruE le B N (sta B N p)) ∧ (M 51 24 ≠ 1 → ¬ (0 ≤ tkc B N p ∧ tkc B N p ≤ 11)) := by
  unfold KD at h
  unfold tkc nxt
  have hr := wc_r (B := B) (N := N) (s := sta B N p) (e := ruE le B N (sta B N p))
  by_cases c1 : bt B N (sta B N p) = -1
  · rw [if_pos c1] at h; rw [if_pos c1, if_pos c1]; exact ⟨fun e => by omega, fun _ => by omega⟩
  · rw [if_neg c1] at h; rw [if_neg c1, if_neg c1]
    by_cases c2 : le (bt B N (sta B N p)) = true
    · rw [if_pos c2] at h; rw [if_pos c2, if_pos c2]; exact ⟨fun _ => ⟨c1, c2, rfl, rfl⟩, fun e => absurd h e⟩
    · rw [if_neg c2] at h; rw [if_neg c2, if_neg c2]
      by_cases c3 : di (bt B N (sta B N p)) = true
      · rw [if_pos c3] at h; rw [if_pos c3, if_pos c3]
        by_cases c4 : ruE di B N (sta B N p) - sta B N p ≤ 4
        · rw [if_pos c4] at h; rw [if_pos c4]; exact ⟨fun e => by omega, fun _ => by omega⟩
        · rw [if_neg c4] at h; rw [if_neg c4]; exact ⟨fun e => by omega, fun _ => by omega⟩
      · rw [if_neg c3] at h; rw [if_neg c3, if_neg c3]
        by_cases c4 : sg (bt B N (sta B N p))
        · rw [if_pos c4] at h; rw [if_pos c4, if_pos c4]; unfold sg at c4; exact ⟨fun e => by omega, fun _ => by omega⟩
        · rw [if_neg c4] at h; rw [if_neg c4, if_neg c4]; exact ⟨fun e => by omega, fun _ => by omega⟩
theorem KD_end {p : Nat} (h : KD B N p M) : (tkc B N p = 13 ↔ M 51 24 = 0) := by
  unfold KD at h
  unfold tkc
  have hr := wc_r (B := B) (N := N) (s := sta B N p) (e := ruE le B N (sta B N p))
  by_cases c1 : bt B N (sta B N p) = -1
  · rw [if_pos c1] at h ⊢; omega
  · rw [if_neg c1] at h ⊢
    by_cases c2 : le (bt B N (sta B N p)) = true
    · rw [if_pos c2] at h ⊢; omega
    · rw [if_neg c2] at h ⊢
      by_cases c3 : di (bt B N (sta B N p)) = true
      · rw [if_pos c3] at h ⊢
        by_cases c4 : ruE di B N (sta B N p) - sta B N p ≤ 4
        · rw [if_pos c4] at h ⊢; omega
        · rw [if_neg c4] at h ⊢; omega
      · rw [if_neg c3] at h ⊢
        by_cases c4 : sg (bt B N (sta B N p))
        · rw [if_pos c4] at h ⊢; unfold sg at c4; omega
        · rw [if_neg c4] at h ⊢; omega
theorem lc0 (a b : Int) : l_c a b = 0 ↔ a = b := by
  unfold l_c
  by_cases c1 : b < a
  · rw [if_pos c1]; omega
  · rw [if_neg c1]
    by_cases c2 : a = b
    · rw [if_pos c2]; exact ⟨fun _ => c2, fun _ => rfl⟩
    · rw [if_neg c2]; exact ⟨fun e => by omega, fun e => absurd e c2⟩
theorem mm_isSign {r : RR} {x : Int} (hx : sg x) (h : MS B N o r M) (hq : Q (if tok B N r = x then 1 else 0) M) : Con (n + 1) md_X10_isSign [vR 51, vI x] M Q := g_X10_isSign (by
  unfold B_X10_isSign
  have hx' := hx
  unfold sg at hx'
  match r, h, hq with
  | .inl f, h, hq =>
    rw [if_neg (by show ¬ (14 : Int) = x; omega)] at hq
    exact ⟨fun e => by rw [h.1] at e; omega, fun _ => hq⟩
  | .inr q, h, hq =>
    have k := KD_sign hx h.2.2.2.2.2
    have hq : Q (if tkc B N q.2 = x then 1 else 0) M := hq
    rw [lc0]
    refine ⟨fun _ => ⟨fun e3 => ⟨fun e => ?_, fun e => ?_⟩, fun e3 => ?_⟩, fun e => absurd h.1 e⟩
    · rw [if_pos (k.2 ⟨e3, e⟩)] at hq; exact hq
    · rw [if_neg (fun c => e (k.1 c).2)] at hq; exact hq
    · rw [if_neg (fun c => e3 (k.1 c).1)] at hq; exact hq)
theorem mm_isLetter {s e i : Nat} {a : Int} (T : TX B N t M) (h25 : M 51 25 = s) (h23 : M 51 23 = e) (hs : s ≤ 160 ∧ e ≤ 160) (hi : i ≤ 8) (q0 : ¬ (if s + i < e then bt B N (s + i) = a else a = 0) → Q 0 M) (q1 : (if s + i < e then bt B N (s + i) = a else a = 0) → Q 1 M) : Con (n + 2) md_X10_isLetter [vR 51, vI (i : Int), vI a] M Q := g_X10_isLetter (by
  unfold B_X10_isLetter
  rw [h25, h23, w32_id (by omega)]
  refine ⟨fun c => ?_, fun c => ?_⟩
  · have ce : (if s + i < e then bt B N (s + i) = a else a = 0) = (a = 0) := if_neg (by omega)
    rw [ce] at q0 q1
    exact ⟨q1, q0⟩
  · have ce : (if s + i < e then bt B N (s + i) = a else a = 0) = (bt B N (s + i) = a) := if_pos (by omega)
    rw [ce] at q0 q1
    rw [show (s : Int) + i = ((s + i : Nat) : Int) by omega]
    exact mm_byteAt T (by omega) ⟨q1, q0⟩)
theorem mm_isWord {r : RR} {k : Nat} {a1 a2 a3 a4 a5 a6 a7 a8 : Int} (hk : k < 12) (ha : ∀ i, i < 8 → [a1, a2, a3, a4, a5, a6, a7, a8].getD i 0 = if i < (wb k).2 - (wb k).1 then ws ((wb k).1 + i) else 0) (T : TX B N t M) (h : MS B N o r M) (hq : Q (if tok B N r = (k : Int) then 1 else 0) M) : Con (n + 3) md_X10_isWord [vR 51, vI a1, vI a2, vI a3, vI a4, vI a5, vI a6, vI a7, vI a8] M Q := g_X10_isWord (by
  unfold B_X10_isWord
  match r, h, hq with
  | .inl f, h, hq =>
    rw [if_neg (by show ¬ (14 : Int) = k; omega)] at hq
    exact ⟨fun e => by rw [h.1] at e; omega, fun _ => hq⟩
  | .inr q, h, hq =>
    have hN := T.2.2.1
    have kd := KD_word h.2.2.2.2.2
    have sb := sta_b (B := B) h.2.2.2.2.1
    have nb := nxt_b (B := B) h.2.2.2.2.1
    have wbb := wb_b k hk
    obtain ⟨s, hs⟩ : ∃ s, s = sta B N q.2 := ⟨_, rfl⟩
    obtain ⟨e, he⟩ : ∃ e, e = nxt B N q.2 := ⟨_, rfl⟩
    have h25 : M 51 25 = s := by rw [hs]; exact h.2.2.1
    have h23 : M 51 23 = e := by rw [he]; exact h.2.1
    rw [← hs] at kd sb
    rw [← he] at kd nb
    have hq : Q (if tkc B N q.2 = (k : Int) then 1 else 0) M := hq
    refine ⟨fun _ => ⟨fun e1 => ?_, fun e1 => ?_⟩, fun e => absurd h.1 e⟩
    · obtain ⟨c1, cl, ew, en⟩ := kd.1 e1
      rw [ew] at hq
      have iff := wc_iff (B := B) (N := N) (s := s) (e := e) hk
      have hin : ∀ i, s ≤ i → i < e → 97 ≤ bt B N i ∧ bt B N i ≤ 122 := fun i i1 i2 => of_decide_eq_true (ruE_in (B := B) (N := N) (c := le) rfl (N - s) s rfl i i1 (by rw [← en]; exact i2))
      have hse : s ≤ e := by rw [en]; exact (ruE_b (B := B) sb.2).1
      rw [h25, h23, w32_id (by omega)]
      refine ⟨fun c8 => ?_, fun c8 => ?_⟩
      · rw [if_neg (fun c => by have := (iff.1 c).1; omega)] at hq; exact hq
      · have key : (∀ i, i < 8 → (if s + i < e then bt B N (s + i) = [a1, a2, a3, a4, a5, a6, a7, a8].getD i 0 else [a1, a2, a3, a4, a5, a6, a7, a8].getD i 0 = 0)) ↔ wc B N s e = (k : Int) := by
          rw [iff]
          constructor
          · intro hc
            have hlen : (wb k).2 - (wb k).1 = e - s := by
              apply Classical.byContradiction
              intro hne
              by_cases hl : (wb k).2 - (wb k).1 < e - s
              · have := hc ((wb k).2 - (wb k).1) (by omega)
                rw [if_pos (by omega), ha _ (by omega), if_neg (by omega)] at this
                have := hin (s + ((wb k).2 - (wb k).1)) (by omega) (by omega)
                omega
              · have := hc (e - s) (by omega)
                rw [if_neg (by omega), ha _ (by omega), if_pos (by omega)] at this
                exact ws_n0 _ (by omega) this
            refine ⟨hlen, fun j hj => ?_⟩
            have := hc j (by omega)
            rw [if_pos (by omega), ha j (by omega), if_pos hj] at this
            exact this.symm
          · intro hw i hi
            by_cases c : s + i < e
            · rw [if_pos c, ha i hi, if_pos (by have := hw.1; omega)]
              exact (hw.2 i (by have := hw.1; omega)).symm
            · rw [if_neg c, ha i hi, if_neg (by have := hw.1; omega)]
        have L : ∀ (i : Nat) (a : Int) (Q' : Int → Mem → Prop), i < 8 → [a1, a2, a3, a4, a5, a6, a7, a8].getD i 0 = a → (¬ (if s + i < e then bt B N (s + i) = a else a = 0) → Q' 0 M) → ((if s + i < e then bt B N (s + i) = a else a = 0) → Q' 1 M) → Con (n + 2) md_X10_isLetter [vR 51, vI (i : Int), vI a] M Q' := fun i a Q' hi hg q0 q1 => mm_isLetter T h25 h23 (by omega) (by omega) q0 q1
        have no : (∃ i, i < 8 ∧ ¬ (if s + i < e then bt B N (s + i) = [a1, a2, a3, a4, a5, a6, a7, a8].getD i 0 else [a1, a2, a3, a4, a5, a6, a7, a8].getD i 0 = 0)) → Q 0 M := fun ⟨i, hi, hc⟩ => by
          rw [if_neg (fun c => hc (key.2 c i hi))] at hq; exact hq
        refine L 0 a1 _ (by omega) rfl (fun c => ⟨fun _ => no ⟨0, by omega, c⟩, fun e => absurd rfl e⟩) (fun d0 => ⟨fun e => by omega, fun _ => ?_⟩)
        refine L 1 a2 _ (by omega) rfl (fun c => ⟨fun _ => no ⟨1, by omega, c⟩, fun e => absurd rfl e⟩) (fun d1 => ⟨fun e => by omega, fun _ => ?_⟩)
        refine L 2 a3 _ (by omega) rfl (fun c => ⟨fun _ => no ⟨2, by omega, c⟩, fun e => absurd rfl e⟩) (fun d2 => ⟨fun e => by omega, fun _ => ?_⟩)
        refine L 3 a4 _ (by omega) rfl (fun c => ⟨fun _ => no ⟨3, by omega, c⟩, fun e => absurd rfl e⟩) (fun d3 => ⟨fun e => by omega, fun _ => ?_⟩)
        refine L 4 a5 _ (by omega) rfl (fun c => ⟨fun _ => no ⟨4, by omega, c⟩, fun e => absurd rfl e⟩) (fun d4 => ⟨fun e => by omega, fun _ => ?_⟩)
        refine L 5 a6 _ (by omega) rfl (fun c => ⟨fun _ => no ⟨5, by omega, c⟩, fun e => absurd rfl e⟩) (fun d5 => ⟨fun e => by omega, fun _ => ?_⟩)
        refine L 6 a7 _ (by omega) rfl (fun c => ⟨fun _ => no ⟨6, by omega, c⟩, fun e => absurd rfl e⟩) (fun d6 => ⟨fun e => by omega, fun _ => ?_⟩)
        refine L 7 a8 _ (by omega) rfl (fun c => ⟨fun _ => no ⟨7, by omega, c⟩, fun e => absurd rfl e⟩) (fun d7 => ⟨fun e => by omega, fun _ => ?_⟩)
        have all : ∀ i, i < 8 → (if s + i < e then bt B N (s + i) = [a1, a2, a3, a4, a5, a6, a7, a8].getD i 0 else [a1, a2, a3, a4, a5, a6, a7, a8].getD i 0 = 0)
          | 0, _ => d0
          | 1, _ => d1
          | 2, _ => d2
          | 3, _ => d3
          | 4, _ => d4
          | 5, _ => d5
          | 6, _ => d6
          | 7, _ => d7
        rw [if_pos (key.1 all)] at hq; exact hq
    · rw [if_neg (fun c => kd.2 e1 (by omega))] at hq; exact hq)
theorem mm_adv {q : List Int × Nat} (T : TX B N t M) (h : MS B N o (.inr q) M) (hq : ∀ M', Fp sV M M' → MS B N o (adv B N (.inr q)) M' → Q 0 M') : Con (n + 2) md_X10_nextToken [vR 51] M Q := mm_tok (c := q.1) (p := nxt B N q.2) T (nxt_b (B := B) h.2.2.2.2.1).2 h.2.1 h.1 h.2.2.2.1 (fun M' F C => hq M' F.NV C)
theorem mm_opens1 {q : List Int × Nat} (T : TX B N t M) (h : MS B N o (.inr q) M) (ho : 0 ≤ o ∧ o < 5) (hq : ∀ M', Fp sV M M' → MS B N (o + 1) (adv B N (.inr q)) M' → Q 1 M') : Con (n + 3) md_X10_opens [vR 51] M Q := g_X10_opens (by
  unfold B_X10_opens
  rw [h.2.2.2.1]
  refine ⟨fun e => by omega, fun _ M1 e1 => ?_⟩
  rw [w32_id (by omega)] at e1
  have F1 : Fp sV M M1 := by rw [e1]; exact Fp.rf.up (by unfold sV; omega)
  refine mm_tok (c := q.1) (p := nxt B N q.2) (T.fr F1) (nxt_b (B := B) h.2.2.2.2.1).2 (by rw [e1, up_ne (by omega)]; exact h.2.1) (by rw [e1, up_ne (by omega)]; exact h.1) (by rw [e1, up_same]) (fun M' F C => hq M' (F1.tr F.NV) C))
theorem mm_opens0 {r : RR} (h : MS B N o r M) (ho : o = 5) (hq : ∀ M', Fp sV M M' → MS B N o (fl B N r) M' → Q 0 M') : Con (n + 3) md_X10_opens [vR 51] M Q := g_X10_opens (by
  unfold B_X10_opens
  have h27 : M 51 27 = o := by
    match r, h with
    | .inl f, h => exact h.2.2
    | .inr q, h => exact h.2.2.2.1
  rw [h27]
  exact ⟨fun _ => mm_fl h hq, fun e => absurd ho e⟩)
/-- one is shut again -/
theorem MS.shut {r : RR} {M' : Mem} (h : MS B N (o + 1) r M) (ho : 0 ≤ o ∧ o < 5) (e : M' = up M 51 27 (w32 (M 51 27 - 1))) : Fp sV M M' ∧ MS B N o r M' := by
  have h27 : M 51 27 = o + 1 := by
    match r, h with
    | .inl f, h => exact h.2.2
    | .inr q, h => exact h.2.2.2.1
  rw [h27, w32_id (by omega), show o + 1 - 1 = o by omega] at e
  have g : ∀ k, k ≠ 27 → M' 51 k = M 51 k := fun k hk => by rw [e, up_ne (by omega)]
  refine ⟨by rw [e]; exact Fp.rf.up (by unfold sV; omega), ?_⟩
  match r, h with
  | .inl f, h => exact ⟨by rw [g 28 (by decide)]; exact h.1, by rw [g 29 (by decide)]; exact h.2.1, by rw [e, up_same]⟩
  | .inr q, h =>
    obtain ⟨h1, h2, h3, h4, h5, h6⟩ := h
    refine ⟨by rw [g 28 (by decide)]; exact h1, by rw [g 23 (by decide)]; exact h2, by rw [g 25 (by decide)]; exact h3, by rw [e, up_same], h5, ?_⟩
    unfold KD at h6 ⊢
    rw [g 24 (by decide), g 26 (by decide)]; exact h6
end MW
