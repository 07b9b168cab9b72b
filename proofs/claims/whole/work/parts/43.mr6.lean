/-! THE MODEL READS A TEXT -/
section MP
variable {B : Nat → Int} {N t n : Nat} {M : Mem} {Q : Int → Mem → Prop} {e : Nat → Int}
theorem mm_part {k a : Int} {q : List Int × Nat} (T : TX B N t M) (h : MS B N 0 (.inr q) M) (E : Ev M e) (hl : q.1.length ≤ q.2) (ha : a = if tkc B N q.2 = 6 + k then 1 else 0) (hk : 0 ≤ k ∧ k ≤ 2) (hq : ∀ v M', Fp sV M M' → MS B N 0 (pt B N k (.inr q)) M' → PV e q.1 (pt B N k (.inr q)) v → Q v M') : Con (n + 42) md_X10_part [vR 51, vI a] M Q := g_X10_part (by
  unfold B_X10_part
  have nb := nxt_b (B := B) h.2.2.2.2.1
  unfold pt at hq
  refine ⟨fun a0 => ?_, fun a0 => ⟨fun _ => ?_, fun e => absurd h.1 e⟩⟩
  · have c : ¬ tkc B N q.2 = 6 + k := fun c => by rw [if_pos c] at ha; omega
    have e1 : ex B N (6 + k) (.inr q) = .inl ((sta B N q.2 : Nat) : Int) := if_neg c
    have e2 : orQ B N (pN B N 5).2 (.inl ((sta B N q.2 : Nat) : Int)) = .inl ((sta B N q.2 : Nat) : Int) := rfl
    rw [e1, e2, ex_inl] at hq
    refine mm_fl h (fun M40 F40 C40 => ?_)
    have C40' : MS B N 0 (.inl ((sta B N q.2 : Nat) : Int)) M40 := C40
    refine ⟨fun e => by rw [C40'.1] at e; omega, fun _ => ⟨fun e => by rw [C40'.1] at e; omega, fun _ => mm_isSign (x := 59) (by unfold sg; omega) C40' ?_⟩⟩
    rw [if_neg (by show ¬ (14 : Int) = 59; decide)]
    refine ⟨fun _ => mm_fl C40' (fun M2 F2 C2 => ?_), fun e => absurd rfl e⟩
    have C2' : MS B N 0 (.inl ((sta B N q.2 : Nat) : Int)) M2 := C2
    exact ⟨fun e => by rw [C2'.1] at e; omega, fun _ => hq 0 M2 (F40.tr F2) C2' (fun q' e' => by cases e')⟩
  · have c : tkc B N q.2 = 6 + k := by
      apply Classical.byContradiction
      intro c; rw [if_neg c] at ha; exact a0 ha
    have e1 : ex B N (6 + k) (.inr q) = adv B N (.inr q) := if_pos c
    rw [e1] at hq
    refine mm_adv T h (fun M20 F20 C20 => ?_)
    have C20' : MS B N 0 (.inr (q.1, nxt B N q.2)) M20 := C20
    refine ⟨fun _ => ?_, fun e => absurd C20'.1 e⟩
    have cor := (mx_lvl (B := B) (N := N) (t := t) 5 (by omega)).2.2 n
    rw [show 6 * 5 + n + 11 = n + 41 by omega] at cor
    refine cor M20 _ e (q.1, nxt B N q.2) (T.fr F20) C20' (E.V F20) (by show q.1.length ≤ nxt B N q.2; omega) (fun v M22 F22 C22 P22 => ?_)
    have F02 := F20.tr F22
    have eA : adv B N (.inr q) = .inr (q.1, nxt B N q.2) := rfl
    rw [eA] at hq
    have C22' : MS B N 0 (orQ B N (pN B N 5).2 (.inr (q.1, nxt B N q.2))) M22 := C22
    have P22' : PV e q.1 (orQ B N (pN B N 5).2 (.inr (q.1, nxt B N q.2))) v := P22
    generalize orQ B N (pN B N 5).2 (.inr (q.1, nxt B N q.2)) = r at hq C22' P22'
    refine mm_isSign (x := 59) (by unfold sg; omega) C22' ?_
    unfold ex at hq
    by_cases c9 : tok B N r = 59
    · rw [if_pos c9] at hq ⊢
      refine ⟨fun e => by omega, fun _ => ?_⟩
      match r, C22', P22', c9, hq with
      | .inr q', C22', P22', c9, hq => exact ⟨fun _ => mm_adv (T.fr F02) C22' (fun M4 F4 C4 => hq v M4 (F02.tr F4) C4 P22'.adv), fun e => absurd C22'.1 e⟩
    · rw [if_neg c9] at hq ⊢
      refine ⟨fun _ => mm_fl C22' (fun M4 F4 C4 => ?_), fun e => absurd rfl e⟩
      have hqq := hq v M4 (F02.tr F4) C4 PV.fl
      match r, C4 with
      | .inl f, C4 => exact ⟨fun e => by rw [C4.1] at e; omega, fun _ => hqq⟩
      | .inr q', C4 => exact ⟨fun e => by rw [C4.1] at e; omega, fun _ => hqq⟩)
/-- what reading leaves -/
def RO (B : Nat → Int) (N : Nat) (e : Nat → Int) (p v : Int) (M : Mem) : Prop := (∀ f, rE B N = .inl f → M 51 28 ≠ 0 ∧ M 51 29 = f) ∧ (∀ q, rE B N = .inr q → M 51 28 = 0 ∧ v = valP B N p e)
theorem mm_read {p : Int} (ht : t < 6) (hN : N ≤ 160) (h53 : M 53 t = N) (h52 : ∀ i, i < N → M 52 (160 * t + i) = B i ∧ 0 ≤ B i) (hp : 0 ≤ p ∧ p ≤ 2) (E : Ev M e) (hq : ∀ v M', Fp sR M M' → RO B N e p v M' → Q v M') : Con (n + 43) md_X10_read [vR 51, vI (t : Int), vI p] M Q := g_X10_read (by
  unfold B_X10_read
  intro M1 e1
  rw [w32_id (by omega)] at e1
  refine ⟨by omega, fun M2 e2 M3 e3 M4 e4 M5 e5 => ?_⟩
  rw [show (t : Int).toNat = t from rfl, show M1 53 t = N by rw [e1, up_ne (by omega)]; exact h53] at e2
  have g : ∀ o k, ¬ (o = 51 ∧ (k = 21 ∨ k = 22 ∨ k = 23 ∨ k = 27 ∨ k = 28)) → M5 o k = M o k := fun o k hk => by rw [e5, up_ne (by omega), e4, up_ne (by omega), e3, up_ne (by omega), e2, up_ne (by omega), e1, up_ne (by omega)]
  have F5 : Fp sR M M5 := fun o k hk => g o k (fun q => hk (by unfold sR; omega))
  have T5 : TX B N t M5 := ⟨by rw [e5, up_ne (by omega), e4, up_ne (by omega), e3, up_ne (by omega), e2, up_ne (by omega), e1, up_same]; omega, by rw [e5, up_ne (by omega), e4, up_ne (by omega), e3, up_ne (by omega), e2, up_same], hN, ht, fun i hi => by rw [g 52 _ (by omega)]; exact h52 i hi⟩
  have E5 : Ev M5 e := fun k hk => by rw [g 51 (15 + k) (by omega)]; exact E k hk
  have VR : ∀ {A C : Mem}, Fp sV A C → Fp sR A C := fun F => F.mono (fun o k q => by unfold sV at q; unfold sR; omega)
  refine mm_tok (c := []) (p := 0) T5 (Nat.zero_le _) (by rw [e5, up_ne (by omega), e4, up_ne (by omega), e3, up_same]; rfl) (by rw [e5, up_same]) (by rw [e5, up_ne (by omega), e4, up_same]) (fun M7 F7 C7 => ?_)
  have V7 : Fp sV M5 M7 := F7.NV
  have T7 := T5.fr V7
  have fault : ∀ (f v : Int) (M' : Mem), Fp sV M5 M' → rE B N = .inl f → MS B N 0 (.inl f) M' → Q v M' := fun f v M' F' hr C' => hq v M' (F5.tr (VR F')) ⟨fun f' hf' => by rw [hr] at hf'; cases hf'; exact ⟨by rw [C'.1]; decide, C'.2.1⟩, fun q hq' => by rw [hr] at hq'; cases hq'⟩
  refine mm_isWord (k := 6) (by omega) (by decide) T7 C7 ?_
  refine mm_part (k := 0) T7 C7 (E5.V V7) (by simp) rfl (by decide) (fun v0 M11 F11 C11 P11 => ?_)
  have V11 := V7.tr F11
  have C11' : MS B N 0 (rT B N 1) M11 := C11
  match h1 : rT B N 1, C11' with
  | .inl f, C11' =>
    have hE : rE B N = .inl f := by
      have : rT B N 3 = pt B N 2 (pt B N 1 (rT B N 1)) := rfl
      unfold rE; rw [this, h1, pt_inl, pt_inl, ex_inl]
    refine ⟨fun e => by rw [C11'.1] at e; omega, fun _ => ⟨fun e => by rw [C11'.1] at e; omega, fun _ => ⟨fun e => by rw [C11'.1] at e; omega, fun _ => ⟨fun _ => fault f _ M11 V11 hE C11', fun _ => ⟨fun _ => fault f _ M11 V11 hE C11', fun _ => fault f _ M11 V11 hE C11'⟩⟩⟩⟩⟩
  | .inr q1, C11' =>
    have P1 : PV e [] (.inr q1) v0 := by have := P11; rw [show pt B N 0 (.inr ([], 0)) = .inr q1 from h1] at this; exact this
    have W1 : WR N 0 (.inr q1) := by rw [← h1]; exact pt_W _ _ (fun q e => by cases e; simp)
    refine ⟨fun _ => mm_isWord (k := 7) (by omega) (by decide) (T5.fr V11) C11' ?_, fun e => absurd C11'.1 e⟩
    refine mm_part (k := 1) (T5.fr V11) C11' (E5.V V11) (W1 q1 rfl).1 rfl (by decide) (fun v1 M15 F15 C15 P15 => ?_)
    have V15 := V11.tr F15
    have h2' : rT B N 2 = pt B N 1 (.inr q1) := by rw [← h1]; rfl
    have C15' : MS B N 0 (rT B N 2) M15 := by rw [h2']; exact C15
    match h2 : rT B N 2, C15' with
    | .inl f, C15' =>
      have hE : rE B N = .inl f := by
        have : rT B N 3 = pt B N 2 (rT B N 2) := rfl
        unfold rE; rw [this, h2, pt_inl, ex_inl]
      refine ⟨fun e => by rw [C15'.1] at e; omega, fun _ => ⟨fun e => by rw [C15'.1] at e; omega, fun _ => ⟨fun _ => fault f _ M15 V15 hE C15', fun _ => ⟨fun _ => fault f _ M15 V15 hE C15', fun _ => fault f _ M15 V15 hE C15'⟩⟩⟩⟩
    | .inr q2, C15' =>
      have P2 : PV e q1.1 (.inr q2) v1 := by have := P15; rw [← h2', h2] at this; exact this
      have W2 : WR N 0 (.inr q2) := by rw [← h2, h2']; exact pt_W _ _ W1
      refine ⟨fun _ => mm_isWord (k := 8) (by omega) (by decide) (T5.fr V15) C15' ?_, fun e => absurd C15'.1 e⟩
      refine mm_part (k := 2) (T5.fr V15) C15' (E5.V V15) (W2 q2 rfl).1 rfl (by decide) (fun v2 M19 F19 C19 P19 => ?_)
      have V19 := V15.tr F19
      have h3' : rT B N 3 = pt B N 2 (.inr q2) := by rw [← h2]; rfl
      have C19' : MS B N 0 (rT B N 3) M19 := by rw [h3']; exact C19
      match h3 : rT B N 3, C19' with
      | .inl f, C19' =>
        have hE : rE B N = .inl f := by unfold rE; rw [h3, ex_inl]
        refine ⟨fun e => by rw [C19'.1] at e; omega, fun _ => ⟨fun _ => fault f _ M19 V19 hE C19', fun _ => ⟨fun _ => fault f _ M19 V19 hE C19', fun _ => fault f _ M19 V19 hE C19'⟩⟩⟩
      | .inr q3, C19' =>
        have P3 : PV e q2.1 (.inr q3) v2 := by have := P19; rw [← h3', h3] at this; exact this
        have ke := KD_end C19'.2.2.2.2.2
        refine ⟨fun _ => ⟨fun e24 => ?_, fun e24 => mm_fl C19' (fun M21 F21 C21 => ?_)⟩, fun e => absurd C19'.1 e⟩
        · have t13 := ke.2 e24
          have hE : rE B N = .inr (q3.1, nxt B N q3.2) := by
            unfold rE ex; rw [h3]
            show (if tkc B N q3.2 = 13 then _ else _) = _
            rw [if_pos t13]; rfl
          obtain ⟨a1, a2, a3, r1, r2, r3, s0, s1, s2, -, -, -⟩ := rE_ok hE
          rw [h1] at r1
          rw [h2] at r2
          rw [h3] at r3
          cases r1
          cases r2
          cases r3
          have z0 : v0 = valP B N 0 e := by
            unfold valP; rw [← s0]; exact ((PV_vl (c0 := []) (p := q1.2) P1).2).symm
          have z1 : v1 = valP B N 1 e := by
            unfold valP; exact ((PV_vl (c0 := q1.1) (c := seg B N 1) (p := q2.2) (v := v1) (by rw [← s1]; exact P2)).2).symm
          have z2 : v2 = valP B N 2 e := by
            unfold valP; exact ((PV_vl (c0 := q2.1) (c := seg B N 2) (p := q3.2) (v := v2) (by rw [← s2]; exact P3)).2).symm
          have fin : ∀ v, v = valP B N p e → Q v M19 := fun v hv => hq v M19 (F5.tr (VR V19)) ⟨fun f hf => (by rw [hE] at hf; cases hf), fun q' _ => ⟨C19'.1, hv⟩⟩
          refine ⟨fun c => fin v0 (by rw [z0, c]), fun c0 => ⟨fun c => fin v1 (by rw [z1, c]), fun c1 => fin v2 (by rw [z2, show p = 2 by omega])⟩⟩
        · have n13 : ¬ tkc B N q3.2 = 13 := fun c => e24 (ke.1 c)
          have hE : rE B N = .inl ((sta B N q3.2 : Nat) : Int) := by
            unfold rE ex; rw [h3]
            show (if tkc B N q3.2 = 13 then _ else _) = _
            rw [if_neg n13]; rfl
          have C21' : MS B N 0 (.inl ((sta B N q3.2 : Nat) : Int)) M21 := C21
          have V21 := V19.tr F21
          exact ⟨fun _ => fault _ _ M21 V21 hE C21', fun _ => ⟨fun _ => fault _ _ M21 V21 hE C21', fun _ => fault _ _ M21 V21 hE C21'⟩⟩)
end MP
