/-! THE MODEL READS: NOT, LEVELS, PARTS -/
section MN
variable {B : Nat → Int} {N t n : Nat} {o : Int}
theorem mx_not {d0 : Bool} {Nn A : RR → RR} (hA : MX B N t (sumS B N A) md_X10_added o (n + 5)) (WA : ∀ k r, WR N k r → WR N k (A r)) (h0 : d0 = false → o = 5) (h1 : d0 = true → (0 ≤ o ∧ o < 5) ∧ MX B N t Nn md_X10_not (o + 1) (n + 5)) (h5 : d0 = false → ∀ q : List Int × Nat, tkc B N q.2 = 11 → cmpS B N A (sumS B N A (.inr q)) = fl B N (.inr q)) : MX B N t (notS B N d0 Nn A) md_X10_not o (n + 6) := fun M Q e q T h E hl hq => g_X10_not (by
  unfold B_X10_not
  have hN := T.2.2.1
  have nb := nxt_b (B := B) h.2.2.2.2.1
  unfold notS at hq
  have tk : tok B N (.inr q) = tkc B N q.2 := rfl
  rw [tk] at hq
  refine mm_isWord (k := 11) (by omega) (by decide) T h ?_
  by_cases c : tok B N (.inr q) = (11 : Nat)
  · rw [if_pos c]
    have c' : tkc B N q.2 = 11 := c
    refine ⟨fun e => by omega, fun _ => ?_⟩
    cases hd : d0 with
    | true =>
      obtain ⟨ho, hNn⟩ := h1 hd
      rw [if_pos ⟨c', hd⟩] at hq
      refine mm_opens1 T h ho (fun M2 F2 C2 => ⟨fun e => by omega, fun _ => hNn M2 _ e _ (T.fr F2) C2 (E.V F2) (by show q.1.length ≤ nxt B N q.2; omega) (fun v M4 F4 C4 P4 M29 e29 => ?_)⟩)
      obtain ⟨F5, C5⟩ := C4.shut ho e29
      have nx := hq (o1 (-12) v) M29 (F2.tr (F4.tr F5)) (MS_mk C5) (PV.un P4 (fun s => st1_un (Or.inl rfl)))
      have eo : o1 (-12) v = if v = 0 then 1 else 0 := rfl
      rw [eo] at nx
      exact ⟨fun e => by rw [if_pos e] at nx; exact nx, fun e => by rw [if_neg e] at nx; exact nx⟩
    | false =>
      rw [if_neg (fun q => by rw [hd] at q; cases q.2), h5 hd q c'] at hq
      exact mm_opens0 h (h0 hd) (fun M2 F2 C2 => ⟨fun _ => hq 0 M2 F2 C2 PV.fl, fun e => absurd rfl e⟩)
  · rw [if_neg c]
    rw [if_neg (fun q => c q.1)] at hq
    refine ⟨fun _ => hA M _ e q T h E hl (fun v M4 F4 C4 P4 => ?_), fun e => absurd rfl e⟩
    have W4 : WR N 0 (sumS B N A (.inr q)) := sumS_W WA _ _ (fun q' e' => by cases e'; exact ⟨hl, h.2.2.2.2.1⟩)
    generalize hr : sumS B N A (.inr q) = r' at hq C4 P4 W4
    unfold cmpS at hq
    have go : ∀ s, (s = -13 ∨ s = -14) → tok B N r' ≠ 13 → tok B N r' ≠ 14 → (∀ v' M', Fp sV M M' → MS B N o (mk s (sumS B N A (adv B N r'))) M' → PV e q.1 (mk s (sumS B N A (adv B N r'))) v' → Q v' M') → Con (n + 5) md_X10_nextToken [vR 51] M4 (fun _ M8 => Con (n + 5) md_X10_added [vR 51] M8 (fun r9 M10 => Q (o2 s v r9) M10)) := fun s s0 t1 t2 hq => by
      match r', C4, P4, W4, t1, t2, hq with
      | .inl g, C4, P4, W4, t1, t2, hq => exact absurd rfl t2
      | .inr q', C4, P4, W4, t1, t2, hq =>
        have nb := nxt_b (B := B) (W4 q' rfl).2
        refine mm_adv (T.fr F4) C4 (fun M2 F2 C2 => hA M2 _ e _ ((T.fr F4).fr F2) C2 ((E.V F4).V F2) (by have := W4 q' rfl; show q'.1.length ≤ nxt B N q'.2; omega) (fun v' M6 F6 C6 P6 => ?_))
        exact hq _ M6 (F4.tr (F2.tr F6)) (MS_mk C6) (PV.bin P4 P6 (fun _ => st1_bi (by omega)))
    have w26 : ∀ x : Int, sg x → tok B N r' = x → M4 51 26 = x := fun x hx c => by
      match r', C4, c with
      | .inl g, C4, c => unfold sg at hx; have : (14 : Int) = x := c; omega
      | .inr q', C4, c => exact ((KD_sign hx C4.2.2.2.2.2).1 c).2
    refine mm_isSign (x := 60) (by unfold sg; omega) C4 ?_
    by_cases c6 : tok B N r' = 60
    · rw [if_pos c6, lc0, w26 60 (by unfold sg; omega) c6]
      have := go (-13) (Or.inl rfl) (by rw [c6]; decide) (by rw [c6]; decide) (by rw [if_pos c6] at hq; exact hq)
      refine ⟨fun e => by omega, fun _ => ⟨fun _ => this.mono (fun r M2 _ _ hc => hc.mono (fun r3 M3 _ _ hk => ⟨fun e => by omega, fun _ => ?_⟩)), fun e => absurd rfl e⟩⟩
      have eo : o2 (-13) v r3 = if v < r3 then 1 else 0 := rfl
      rw [eo] at hk
      exact ⟨fun e => by rw [if_neg (by omega)] at hk; exact hk, fun e => by rw [if_pos (by omega)] at hk; exact hk⟩
    · rw [if_neg c6]
      rw [if_neg c6] at hq
      refine ⟨fun _ => mm_isSign (x := 61) (by unfold sg; omega) C4 ?_, fun e => absurd rfl e⟩
      by_cases c7 : tok B N r' = 61
      · rw [if_pos c7, lc0, w26 61 (by unfold sg; omega) c7]
        have := go (-14) (Or.inr rfl) (by rw [c7]; decide) (by rw [c7]; decide) (by rw [if_pos c7] at hq; exact hq)
        refine ⟨fun e => by omega, fun _ => ⟨fun e => by omega, fun _ => this.mono (fun r M2 _ _ hc => hc.mono (fun r3 M3 _ _ hk => ⟨fun _ => ?_, fun e => absurd rfl e⟩))⟩⟩
        have eo : o2 (-14) v r3 = if v = r3 then 1 else 0 := rfl
        rw [eo] at hk
        exact ⟨fun e => by rw [if_pos e] at hk; exact hk, fun e => by rw [if_neg e] at hk; exact hk⟩
      · rw [if_neg c7]
        rw [if_neg c7] at hq
        exact ⟨fun _ => hq v M4 F4 C4 P4, fun e => absurd rfl e⟩)
theorem lvl_11 {A O : RR → RR} {d0 : Bool} {q : List Int × Nat} (h : tkc B N q.2 = 11) : cmpS B N (oneS B N d0 A O) (sumS B N (oneS B N d0 A O) (.inr q)) = fl B N (.inr q) := by
  have tk : tok B N (.inr q) = 11 := h
  have o1 : oneS B N d0 A O (.inr q) = fl B N (.inr q) := by
    unfold oneS
    rw [tk, if_neg (by decide), if_neg (by decide), if_neg (fun q => by have := q.1; omega), if_neg (fun q => by have := q.1; omega)]
  have o2 : termS B N (oneS B N d0 A O) (.inr q) = fl B N (.inr q) := by
    unfold termS; rw [o1]; exact lp_z rfl
  have o3 : sumS B N (oneS B N d0 A O) (.inr q) = fl B N (.inr q) := by
    unfold sumS; rw [o2]; exact lp_z rfl
  rw [o3]; rfl
theorem mx_lvl : ∀ d : Nat, d ≤ 5 → (∀ n, MX B N t (pN B N d).1 md_X10_atom (5 - d : Int) (6 * d + n + 6)) ∧ (∀ n, MX B N t (pN B N d).2 md_X10_not (5 - d : Int) (6 * d + n + 9)) ∧ (∀ n, MX B N t (orQ B N (pN B N d).2) md_X10_either (5 - d : Int) (6 * d + n + 11)) := by
  intro d
  induction d with
  | zero =>
    intro _
    have one : ∀ n, MX B N t (pN B N 0).1 md_X10_atom (5 - (0 : Nat) : Int) (6 * 0 + n + 6) := fun n => mx_one (fun _ => by decide) (fun q => by cases q)
    have W := pN_W (B := B) (N := N) 0
    have not : ∀ n, MX B N t (pN B N 0).2 md_X10_not (5 - (0 : Nat) : Int) (6 * 0 + n + 9) := fun n => mx_not (mx_sum (mx_term (one n) W.1) W.1) W.1 (fun _ => by decide) (fun q => by cases q) (fun _ q h => lvl_11 h)
    exact ⟨one, not, fun n => mx_or (mx_and (not n) W.2) W.2⟩
  | succ d ih =>
    intro hd
    obtain ⟨i1, i2, i3⟩ := ih (by omega)
    have W := pN_W (B := B) (N := N) (d + 1)
    have eo : (5 - ((d + 1 : Nat) : Int)) + 1 = 5 - (d : Int) := by omega
    have one : ∀ n, MX B N t (pN B N (d + 1)).1 md_X10_atom (5 - ((d + 1 : Nat) : Int)) (6 * (d + 1) + n + 6) := fun n => by
      rw [show 6 * (d + 1) + n + 6 = (6 * d + n + 6) + 6 by omega]
      refine mx_one (fun q => by cases q) (fun _ => ⟨by omega, ?_, ?_⟩)
      · rw [eo, show 6 * d + n + 6 + 5 = 6 * d + (n + 5) + 6 by omega]; exact i1 (n + 5)
      · rw [eo, show 6 * d + n + 6 + 5 = 6 * d + n + 11 by omega]; exact i3 n
    have not : ∀ n, MX B N t (pN B N (d + 1)).2 md_X10_not (5 - ((d + 1 : Nat) : Int)) (6 * (d + 1) + n + 9) := fun n => by
      refine mx_not (mx_sum (mx_term (one n) W.1) W.1) W.1 (fun q => by cases q) (fun _ => ⟨by omega, ?_⟩) (fun q => by cases q)
      rw [eo, show 6 * (d + 1) + n + 3 + 5 = 6 * d + (n + 5) + 9 by omega]; exact i2 (n + 5)
    exact ⟨one, not, fun n => mx_or (mx_and (not n) W.2) W.2⟩
end MN
