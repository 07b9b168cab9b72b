/-! THE MODEL READS: LEVEL BY LEVEL -/
def MX (B : Nat → Int) (N t : Nat) (X : RR → RR) (md : MD) (o : Int) (k : Nat) : Prop := ∀ (M : Mem) (Q : Int → Mem → Prop) (e : Nat → Int) (q : List Int × Nat), TX B N t M → MS B N o (.inr q) M → Ev M e → q.1.length ≤ q.2 → (∀ v M', Fp sV M M' → MS B N o (X (.inr q)) M' → PV e q.1 (X (.inr q)) v → Q v M') → Con k md [vR 51] M Q
section ML
variable {B : Nat → Int} {N t n : Nat} {o : Int}
theorem MS_mk {r : RR} {s : Int} {M : Mem} (h : MS B N o r M) : MS B N o (mk s r) M := by
  match r, h with
  | .inl f, h => exact h
  | .inr q, h => exact h
theorem Ev.V {M M' : Mem} {e : Nat → Int} (h : Ev M e) (F : Fp sV M M') : Ev M' e := fun k hk => (F 51 (15 + k) (by unfold sV; omega)).trans (h k hk)
theorem tkc_ge {p : Nat} (h : N ≤ p) : tkc B N p = 13 := by
  have hb : bt B N p = -1 := if_neg (by omega)
  have hs : sta B N p = p := ruE_f (by rw [hb]; rfl)
  unfold tkc
  rw [hs, if_pos hb]
theorem lp_stop {r : RR} {st : Int → Int} (hN : N ≤ 160) (W : WR N 0 r) (hl : ∀ q, r = .inr q → 160 ≤ q.1.length) (h13 : st 13 = 0) (h14 : st 14 = 0) : st (tok B N r) = 0 := by
  match r, W, hl with
  | .inl f, W, hl => exact h14
  | .inr q, W, hl =>
    have := W q rfl
    have := hl q rfl
    show st (tkc B N q.2) = 0
    rw [tkc_ge (by omega)]; exact h13
theorem lp_z {X : RR → RR} {st : Int → Int} {f : Nat} {r : RR} (h : st (tok B N r) = 0) : lp B N X st f r = r := by
  match f with
  | 0 => rfl
  | f + 1 => exact lp_0 h
theorem PV_len {e : Nat → Int} {c0 : List Int} {r : RR} {v : Int} (h : PV e c0 r v) : ∀ q, r = .inr q → c0.length ≤ q.1.length := fun q hq => by
  obtain ⟨c, h1, -⟩ := h q hq
  rw [h1]; simp
theorem mk_len {r : RR} {s : Int} {i : Nat} (h : ∀ q, r = .inr q → i ≤ q.1.length) : ∀ q, mk s r = .inr q → i + 1 ≤ q.1.length := fun q hq => by
  match r, h, hq with
  | .inr q', h, hq =>
    have := h q' rfl
    cases hq; simp; omega
theorem mm_name {M : Mem} {Q : Int → Mem → Prop} {e : Nat → Int} {q : List Int × Nat} (T : TX B N t M) (h : MS B N o (.inr q) M) (E : Ev M e) (h1 : ∀ k : Nat, k < 6 → tkc B N q.2 = (k : Int) → Q (e k) M) (h0 : ¬ (0 ≤ tkc B N q.2 ∧ tkc B N q.2 < 6) → ∀ M', Fp sV M M' → MS B N o (fl B N (.inr q)) M' → Q 0 M') : Con (n + 4) md_X10_name [vR 51] M Q := g_X10_name (by
  unfold B_X10_name
  have y : ∀ k : Nat, k < 6 → ∀ P : Int → Prop, (tkc B N q.2 = (k : Int) → P 1) → (¬ tkc B N q.2 = (k : Int) → P 0) → P (if tok B N (.inr q) = (k : Int) then 1 else 0) := fun k _ P p1 p0 => by
    by_cases c : tok B N (.inr q) = (k : Int)
    · rw [if_pos c]; exact p1 c
    · rw [if_neg c]; exact p0 c
  refine mm_isWord (k := 0) (by omega) (by decide) T h (y 0 (by omega) (fun r => (r = 0 → _) ∧ (¬ r = 0 → _)) (fun c => ⟨fun e => by omega, fun _ => ?_⟩) (fun c0 => ⟨fun _ => ?_, fun e => absurd rfl e⟩))
  · have := h1 0 (by omega) c; rw [← E 0 (by omega)] at this; exact this
  refine mm_isWord (k := 1) (by omega) (by decide) T h (y 1 (by omega) (fun r => (r = 0 → _) ∧ (¬ r = 0 → _)) (fun c => ⟨fun e => by omega, fun _ => ?_⟩) (fun c1 => ⟨fun _ => ?_, fun e => absurd rfl e⟩))
  · have := h1 1 (by omega) c; rw [← E 1 (by omega)] at this; exact this
  refine mm_isWord (k := 2) (by omega) (by decide) T h (y 2 (by omega) (fun r => (r = 0 → _) ∧ (¬ r = 0 → _)) (fun c => ⟨fun e => by omega, fun _ => ?_⟩) (fun c2 => ⟨fun _ => ?_, fun e => absurd rfl e⟩))
  · have := h1 2 (by omega) c; rw [← E 2 (by omega)] at this; exact this
  refine mm_isWord (k := 3) (by omega) (by decide) T h (y 3 (by omega) (fun r => (r = 0 → _) ∧ (¬ r = 0 → _)) (fun c => ⟨fun e => by omega, fun _ => ?_⟩) (fun c3 => ⟨fun _ => ?_, fun e => absurd rfl e⟩))
  · have := h1 3 (by omega) c; rw [← E 3 (by omega)] at this; exact this
  refine mm_isWord (k := 4) (by omega) (by decide) T h (y 4 (by omega) (fun r => (r = 0 → _) ∧ (¬ r = 0 → _)) (fun c => ⟨fun e => by omega, fun _ => ?_⟩) (fun c4 => ⟨fun _ => ?_, fun e => absurd rfl e⟩))
  · have := h1 4 (by omega) c; rw [← E 4 (by omega)] at this; exact this
  refine mm_isWord (k := 5) (by omega) (by decide) T h (y 5 (by omega) (fun r => (r = 0 → _) ∧ (¬ r = 0 → _)) (fun c => ⟨fun e => by omega, fun _ => ?_⟩) (fun c5 => ⟨fun _ => ?_, fun e => absurd rfl e⟩))
  · have := h1 5 (by omega) c; rw [← E 5 (by omega)] at this; exact this
  exact mm_fl h (h0 (by omega)))
/-- a test of one sign or word -/
theorem ite01 {c : Prop} [Decidable c] {P : Int → Prop} (h1 : c → P 1) (h0 : ¬ c → P 0) : P (if c then 1 else 0) := by
  by_cases q : c
  · rw [if_pos q]; exact h1 q
  · rw [if_neg q]; exact h0 q
theorem mx_one {d0 : Bool} {A O : RR → RR} (h0 : d0 = false → o = 5) (h1 : d0 = true → (0 ≤ o ∧ o < 5) ∧ MX B N t A md_X10_atom (o + 1) (n + 5) ∧ MX B N t O md_X10_either (o + 1) (n + 5)) : MX B N t (oneS B N d0 A O) md_X10_atom o (n + 6) := fun M Q e q T h E hl hq => g_X10_atom (by
  unfold B_X10_atom
  have hN := T.2.2.1
  have k := h.2.2.2.2.2
  unfold oneS at hq
  have tk : tok B N (.inr q) = tkc B N q.2 := rfl
  rw [tk] at hq
  have nb := nxt_b (B := B) h.2.2.2.2.1
  refine mm_isSign (x := 45) (by unfold sg; omega) h (ite01 (P := fun r => (r = 0 → _) ∧ (¬ r = 0 → _)) (fun c => ⟨fun e => by omega, fun _ => ?_⟩) (fun c45 => ⟨fun _ => mm_isSign (x := 40) (by unfold sg; omega) h (ite01 (P := fun r => (r = 0 → _) ∧ (¬ r = 0 → _)) (fun c => ⟨fun e => by omega, fun _ => ?_⟩) (fun c40 => ⟨fun _ => ?_, fun e => absurd rfl e⟩)), fun e => absurd rfl e⟩))
  · have c : tkc B N q.2 = 45 := c
    have n1 := nxt_s (B := B) h.2.2.2.2.1 (by rw [c]; decide) (by rw [c]; decide)
    rw [if_neg (by omega), if_neg (by omega)] at hq
    cases hd : d0 with
    | true =>
      obtain ⟨ho, hA, hO⟩ := h1 hd
      rw [if_pos ⟨c, hd⟩] at hq
      refine mm_opens1 T h ho (fun M2 F2 C2 => ⟨fun e => by omega, fun _ => hA M2 _ e _ (T.fr F2) C2 (E.V F2) (by show q.1.length ≤ nxt B N q.2; omega) (fun v M4 F4 C4 P4 M41 e41 => ?_)⟩)
      obtain ⟨F5, C5⟩ := C4.shut ho e41
      refine hq _ M41 (F2.tr (F4.tr F5)) (MS_mk C5) ?_
      exact PV.un P4 (fun s => st1_un (Or.inr rfl))
    | false =>
      rw [if_neg (fun q => by rw [hd] at q; cases q.2), if_neg (fun q => by rw [hd] at q; cases q.2)] at hq
      exact mm_opens0 h (h0 hd) (fun M2 F2 C2 => ⟨fun _ => hq 0 M2 F2 C2 PV.fl, fun e => absurd rfl e⟩)
  · have c : tkc B N q.2 = 40 := c
    rw [if_neg (by omega), if_neg (by omega), if_neg (by omega)] at hq
    cases hd : d0 with
    | true =>
      obtain ⟨ho, hA, hO⟩ := h1 hd
      rw [if_pos ⟨c, hd⟩] at hq
      refine mm_opens1 T h ho (fun M2 F2 C2 => ⟨fun e => by omega, fun _ => hO M2 _ e _ (T.fr F2) C2 (E.V F2) (by show q.1.length ≤ nxt B N q.2; omega) (fun v M4 F4 C4 P4 => mm_isSign (x := 41) (by unfold sg; omega) C4 (ite01 (P := fun r => (r = 0 → _) ∧ (¬ r = 0 → _)) (fun c41 => ⟨fun e => by omega, fun _ M29 e29 => ?_⟩) (fun c41 => ⟨fun _ => mm_fl C4 (fun M33 F33 C33 M34 e34 => ?_), fun e => absurd rfl e⟩)))⟩)
      · obtain ⟨F5, C5⟩ := C4.shut ho e29
        have ee : ex B N 41 (O (adv B N (.inr q))) = adv B N (O (adv B N (.inr q))) := if_pos c41
        rw [ee] at hq
        match hr : O (adv B N (.inr q)), C5, P4, hq, c41 with
        | .inl f, C5, P4, hq, c41 => exact absurd c41 (by show ¬ (14 : Int) = 41; decide)
        | .inr q', C5, P4, hq, c41 =>
          have F25 := F2.tr (F4.tr F5)
          refine ⟨fun _ => mm_adv (T.fr F25) C5 (fun M6 F6 C6 => hq v M6 (F25.tr F6) C6 P4.adv), fun e => absurd C5.1 e⟩
      · obtain ⟨F5, C5⟩ := C33.shut ho e34
        have ee : ex B N 41 (O (adv B N (.inr q))) = fl B N (O (adv B N (.inr q))) := if_neg c41
        rw [ee] at hq
        have F25 := F2.tr (F4.tr (F33.tr F5))
        match hr : fl B N (O (adv B N (.inr q))), C5, hq with
        | .inl f, C5, hq => exact ⟨fun e => by rw [C5.1] at e; omega, fun _ => hq v M34 F25 C5 (fun q' e' => by cases e')⟩
        | .inr q', C5, hq =>
          exfalso
          match O (adv B N (.inr q)), hr with
          | .inl f, hr => cases hr
          | .inr q'', hr => cases hr
    | false =>
      rw [if_neg (fun q => by rw [hd] at q; cases q.2)] at hq
      exact mm_opens0 h (h0 hd) (fun M2 F2 C2 => ⟨fun _ => hq 0 M2 F2 C2 PV.fl, fun e => absurd rfl e⟩)
  · have c45 : ¬ tkc B N q.2 = 45 := c45
    have c40 : ¬ tkc B N q.2 = 40 := c40
    have kn := KD_num k
    have kw := KD_word k
    have nm : (M 51 24 = 1 → Con (n + 5) md_X10_name [vR 51] M (fun r17 M18 => (((M18 51 28) = 0 → Con (n + 5) md_X10_nextToken [vR 51] M18 (fun _ M20 => Q r17 M20)) ∧ (¬ (M18 51 28) = 0 → Q r17 M18)))) := fun k1 => by
      refine mm_name T h E (fun i hi ci => ⟨fun _ => ?_, fun e => absurd h.1 e⟩) (fun cn M' F' C' => ⟨fun e => by rw [C'.1] at e; omega, fun _ => ?_⟩)
      · rw [if_neg (by omega), if_pos (by omega), ci] at hq
        refine mm_adv T h (fun M' F' C' => hq _ M' F' C' ?_)
        exact (PV.one (c := q.1) (a := -1 - (i : Int)) (p := q.2) (fun s => by
          unfold st1; rw [if_pos (by omega), if_neg (by omega), show (-1 - (-1 - (i : Int))).toNat = i by omega])).adv
      · have n12 : ¬ tkc B N q.2 = 12 := fun c => by have := kn.1.1 c; omega
        rw [if_neg n12, if_neg cn, if_neg (fun q => c45 q.1), if_neg (fun q => c40 q.1)] at hq
        exact hq 0 M' F' C' PV.fl
    have fa : M 51 24 ≠ 2 → M 51 24 ≠ 1 → Con (n + 5) md_X10_fail [vR 51] M (fun _ M16 => Q 0 M16) := fun k2 k1 => by
      have n12 : ¬ tkc B N q.2 = 12 := fun c => k2 (kn.1.1 c)
      have := kw.2 k1
      rw [if_neg n12, if_neg (by omega), if_neg (fun q => c45 q.1), if_neg (fun q => c40 q.1)] at hq
      exact mm_fl h (fun M' F' C' => hq 0 M' F' C' PV.fl)
    refine ⟨fun _ => ⟨fun k2 => ?_, fun k2 => ⟨fun _ => ⟨nm, fa k2⟩, fun e => absurd h.1 e⟩⟩, fun e => absurd h.1 e⟩
    have t12 := kn.1.2 k2
    rw [if_pos t12] at hq
    rw [kn.2 k2]
    have hv := tvl_nn (B := B) (N := N) (p := q.2) t12
    have hv2 : tvl B N q.2 < 10000 := by
      have hd : ∀ i, sta B N q.2 ≤ i → i < ruE di B N (sta B N q.2) → di (bt B N i) = true := ruE_in rfl _ _ rfl
      have h4 : ruE di B N (sta B N q.2) - sta B N q.2 ≤ 4 := by
        apply Classical.byContradiction
        intro c4
        unfold tkc at t12
        have hr := wc_r (B := B) (N := N) (s := sta B N q.2) (e := ruE le B N (sta B N q.2))
        by_cases c1 : bt B N (sta B N q.2) = -1
        · rw [if_pos c1] at t12; omega
        · rw [if_neg c1] at t12
          by_cases c2 : le (bt B N (sta B N q.2)) = true
          · rw [if_pos c2] at t12; omega
          · rw [if_neg c2] at t12
            by_cases c3 : di (bt B N (sta B N q.2)) = true
            · rw [if_pos c3, if_neg c4] at t12; omega
            · rw [if_neg c3] at t12
              by_cases c5 : sg (bt B N (sta B N q.2))
              · rw [if_pos c5] at t12; unfold sg at c5; omega
              · rw [if_neg c5] at t12; omega
      have := (numv_b (B := B) (N := N) (s := sta B N q.2) _ (show ruE di B N (sta B N q.2) - sta B N q.2 ≤ 6 by omega) (fun j hj => hd _ (by omega) (by omega))).2
      have p4 : ∀ i, i < 5 → pw i ≤ 10000 := by decide
      have := p4 (ruE di B N (sta B N q.2) - sta B N q.2) (by omega)
      unfold tvl; omega
    rw [w32_id (by omega)]
    refine mm_adv T h (fun M' F' C' => hq _ M' F' C' ?_)
    exact (PV.one (c := q.1) (a := tvl B N q.2) (p := q.2) (fun s => by unfold st1; rw [if_pos (by omega), if_pos hv])).adv)
end ML
