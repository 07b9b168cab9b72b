/-! THE MODEL READS: TOKENS -/
def TX (B : Nat → Int) (N t : Nat) (M : Mem) : Prop := M 51 21 = (160 * t : Nat) ∧ M 51 22 = N ∧ N ≤ 160 ∧ t < 6 ∧ ∀ i, i < N → M 52 (160 * t + i) = B i ∧ 0 ≤ B i
abbrev sN (o k : Nat) : Prop := o = 51 ∧ 23 ≤ k ∧ k ≤ 26
abbrev sV (o k : Nat) : Prop := o = 51 ∧ 23 ≤ k ∧ k ≤ 29
theorem TX.fr {B : Nat → Int} {N t : Nat} {M M' : Mem} (T : TX B N t M) (F : Fp sV M M') : TX B N t M' := by
  obtain ⟨h1, h2, h3, h4, h5⟩ := T
  exact ⟨by rw [F 51 21 (by unfold sV; omega)]; exact h1, by rw [F 51 22 (by unfold sV; omega)]; exact h2, h3, h4, fun i hi => by rw [F 52 _ (by unfold sV; omega)]; exact h5 i hi⟩
theorem Fp.NV {M M' : Mem} (F : Fp sN M M') : Fp sV M M' := F.mono (fun o k q => by unfold sN at q; unfold sV; omega)
def KD (B : Nat → Int) (N p : Nat) (M : Mem) : Prop := if bt B N (sta B N p) = -1 then M 51 24 = 0 else if le (bt B N (sta B N p)) then M 51 24 = 1 else if di (bt B N (sta B N p)) then (if ruE di B N (sta B N p) - sta B N p ≤ 4 then M 51 24 = 2 ∧ M 51 26 = tvl B N p else M 51 24 = 4) else if sg (bt B N (sta B N p)) then M 51 24 = 3 ∧ M 51 26 = bt B N (sta B N p) else M 51 24 = 4
def MS (B : Nat → Int) (N : Nat) (o : Int) (r : RR) (M : Mem) : Prop := match r with
  | .inl f => M 51 28 = 1 ∧ M 51 29 = f ∧ M 51 27 = o
  | .inr q => M 51 28 = 0 ∧ M 51 23 = (nxt B N q.2 : Nat) ∧ M 51 25 = (sta B N q.2 : Nat) ∧ M 51 27 = o ∧ q.2 ≤ N ∧ KD B N q.2 M
section MA
variable {B : Nat → Int} {N t n : Nat} {M : Mem} {Q : Int → Mem → Prop} {o : Int}
theorem mm_byteAt {i : Nat} (T : TX B N t M) (hi : i ≤ 1000) (hq : Q (bt B N i) M) : Con (n + 1) md_X10_byteAt [vR 51, vI (i : Int)] M Q := g_X10_byteAt (by
  unfold B_X10_byteAt
  obtain ⟨h1, h2, h3, h4, h5⟩ := T
  rw [h1, h2]
  unfold bt at hq
  refine ⟨fun e => by rw [if_neg (by omega)] at hq; exact hq, fun e => ?_⟩
  rw [w32_id (by omega)]
  refine ⟨by omega, ?_⟩
  rw [show (((160 * t : Nat) : Int) + (i : Int)).toNat = 160 * t + i by omega, (h5 i (by omega)).1]
  rw [if_pos (by omega)] at hq; exact hq)
theorem bt_neg (T : TX B N t M) {i : Nat} (h : bt B N i < 0) : bt B N i = -1 := by
  unfold bt at h ⊢
  by_cases c : i < N
  · rw [if_pos c] at h; have := (T.2.2.2.2 i c).2; omega
  · rw [if_neg c]
theorem mm_tok {p : Nat} {c : List Int} (T : TX B N t M) (hp : p ≤ N) (h23 : M 51 23 = p) (h28 : M 51 28 = 0) (h27 : M 51 27 = o) (hq : ∀ M', Fp sN M M' → MS B N o (.inr (c, p)) M' → Q 0 M') : Con (n + 2) md_X10_nextToken [vR 51] M Q := g_X10_nextToken (fun K0 K100 K160 h0 h100 h160 => by
  have hN := T.2.2.1
  obtain ⟨s, hs⟩ : ∃ s, s = sta B N p := ⟨_, rfl⟩
  have hsb := sta_b (B := B) hp
  rw [← hs] at hsb
  have fx : ∀ M', Fp sN M M' → TX B N t M' ∧ M' 51 28 = 0 ∧ M' 51 27 = o ∧ M' 51 22 = N := fun M' F => ⟨T.fr F.NV, by rw [F 51 28 (by unfold sN; omega)]; exact h28, by rw [F 51 27 (by unfold sN; omega)]; exact h27, by rw [F 51 22 (by unfold sN; omega)]; exact T.2.1⟩
  have out : ∀ M', Fp sN M M' → M' 51 23 = (nxt B N p : Nat) → M' 51 25 = s → KD B N p M' → Q 0 M' := fun M' F q1 q2 q3 => hq M' F ⟨(fx M' F).2.1, q1, by rw [q2, hs], (fx M' F).2.2.1, hp, q3⟩
  have words : ∀ (d i : Nat) (x1 : Int) (M' : Mem), N - i = d → i ≤ N → ruE le B N i = ruE le B N s → le (bt B N s) = true → bt B N s ≠ -1 → Fp sN M M' → M' 51 23 = i → M' 51 25 = s → M' 51 24 = 1 → K100 x1 M' := by
    intro d
    induction d with
    | zero =>
      intro i x1 M' hd hi hr cl c1 F e23 e25 e24
      apply h100
      unfold B_X10_nextToken_100
      rw [e23]
      refine mm_byteAt (fx M' F).1 (by omega) (c_in ?_)
      have hb : bt B N i = -1 := if_neg (by omega)
      have hl : le (bt B N i) = false := by rw [hb]; rfl
      rw [hb, if_neg (by omega)]
      refine ⟨fun _ => out M' F ?_ e25 ?_, fun e => absurd rfl e⟩
      · rw [e23]; unfold nxt; rw [← hs, if_neg c1, if_pos cl, ← hr, ruE_f hl]
      · unfold KD; rw [← hs, if_neg c1, if_pos cl]; exact e24
    | succ d ih =>
      intro i x1 M' hd hi hr cl c1 F e23 e25 e24
      apply h100
      unfold B_X10_nextToken_100
      rw [e23]
      refine mm_byteAt (fx M' F).1 (by omega) (c_in ?_)
      by_cases cc : le (bt B N i) = true
      · have cc' : 97 ≤ bt B N i ∧ bt B N i ≤ 122 := of_decide_eq_true cc
        rw [if_pos cc', e23, w32_id (by omega)]
        have t2 := (ruE_t (c := le) rfl cc).2
        refine ⟨fun e => by omega, fun _ M8 e8 => ih (i + 1) x1 M8 (by omega) (by omega) (by rw [← t2]; exact hr) cl c1 (by rw [e8]; exact F.up (by unfold sN; omega)) (by rw [e8, up_same]; omega) (by rw [e8, up_ne (by omega)]; exact e25) (by rw [e8, up_ne (by omega)]; exact e24)⟩
      · have cc' : ¬ (97 ≤ bt B N i ∧ bt B N i ≤ 122) := fun q => cc (decide_eq_true q)
        rw [if_neg cc']
        refine ⟨fun _ => out M' F ?_ e25 ?_, fun e => absurd rfl e⟩
        · rw [e23]; unfold nxt; rw [← hs, if_neg c1, if_pos cl, ← hr, ruE_f (by simpa using cc)]
        · unfold KD; rw [← hs, if_neg c1, if_pos cl]; exact e24
  have hin := ruE_in (B := B) (N := N) (c := di) rfl (N - s) s rfl
  have nums : ∀ (d i k : Nat) (x1 : Int) (M' : Mem), N - i = d → i ≤ N → i = s + k → ruE di B N i = ruE di B N s → le (bt B N s) ≠ true → di (bt B N s) = true → bt B N s ≠ -1 → Fp sN M M' → M' 51 23 = i → M' 51 25 = s → M' 51 26 = numv B N s (min k 4) → K160 x1 (k : Int) M' := by
    intro d i k
    have p4 : ∀ i, i < 5 → pw i ≤ 10000 := by decide
    have nbk : ∀ k, s + k ≤ ruE di B N s → 0 ≤ numv B N s (min k 4) ∧ numv B N s (min k 4) < 10000 := fun k hk => by
      have := numv_b (B := B) (N := N) (s := s) (min k 4) (by omega) (fun j hj => hin (s + j) (by omega) (by omega))
      have := p4 (min k 4) (by omega)
      omega
    induction d generalizing i k with
    | zero =>
      intro x1 M' hd hi hk hr cl cd c1 F e23 e25 e26
      apply h160
      unfold B_X10_nextToken_160
      rw [e23]
      refine mm_byteAt (fx M' F).1 (by omega) (c_in ?_)
      have hb : bt B N i = -1 := if_neg (by omega)
      have hl : di (bt B N i) = false := by rw [hb]; rfl
      rw [ruE_f hl] at hr
      rw [hb, if_neg (by omega)]
      refine ⟨fun _ => ⟨fun k4 M5 e5 => out M5 (by rw [e5]; exact F.up (by unfold sN; omega)) ?_ (by rw [e5, up_ne (by omega)]; exact e25) ?_, fun k4 M5 e5 => out M5 (by rw [e5]; exact F.up (by unfold sN; omega)) ?_ (by rw [e5, up_ne (by omega)]; exact e25) ?_⟩, fun e => absurd rfl e⟩
      · rw [e5, up_ne (by omega), e23]; unfold nxt; rw [← hs, if_neg c1, if_neg cl, if_pos cd, ← hr]
      · unfold KD; rw [← hs, if_neg c1, if_neg cl, if_pos cd, ← hr, if_pos (by omega)]
        refine ⟨by rw [e5, up_same], ?_⟩
        rw [e5, up_ne (by omega), e26]; unfold tvl; rw [← hs, ← hr, show i - s = min k 4 by omega]
      · rw [e5, up_ne (by omega), e23]; unfold nxt; rw [← hs, if_neg c1, if_neg cl, if_pos cd, ← hr]
      · unfold KD; rw [← hs, if_neg c1, if_neg cl, if_pos cd, ← hr, if_neg (by omega), e5, up_same]
    | succ d ih =>
      intro x1 M' hd hi hk hr cl cd c1 F e23 e25 e26
      apply h160
      unfold B_X10_nextToken_160
      rw [e23]
      refine mm_byteAt (fx M' F).1 (by omega) (c_in ?_)
      by_cases cc : di (bt B N i) = true
      · have cc' : 48 ≤ bt B N i ∧ bt B N i ≤ 57 := of_decide_eq_true cc
        rw [if_pos cc']
        have t2 := ruE_t (c := di) rfl cc
        have rb := ruE_b (B := B) (N := N) (c := di) (p := i + 1) (by omega)
        have nk := nbk k (by rw [← hr, t2.2]; omega)
        refine ⟨fun e => by omega, fun _ => ⟨fun k4 => ?_, fun k4 => ?_⟩⟩
        · rw [e26, w32_id (x := (k : Int) + 1) (by omega)]
          refine ⟨by unfold r32; omega, fun M5 e5 M6 e6 => ?_⟩
          have a : M5 51 23 = i := by rw [e5, up_ne (by omega)]; exact e23
          rw [a, w32_id (by omega)] at e6
          refine ih (i + 1) (k + 1) x1 M6 (by omega) (by omega) (by omega) (by rw [← t2.2]; exact hr) cl cd c1 (by rw [e6, e5]; exact (F.up (by unfold sN; omega)).up (by unfold sN; omega)) (by rw [e6, up_same]; omega) (by rw [e6, up_ne (by omega), e5, up_ne (by omega)]; exact e25) ?_
          rw [e6, up_ne (by omega), e5, up_same, show min (k + 1) 4 = min k 4 by omega]
        · rw [e23]
          refine mm_byteAt (fx M' F).1 (by omega) ?_
          rw [e26, w32_id (x := (k : Int) + 1) (by omega), w64_id (x := 10 * numv B N s (min k 4)) (by omega), w64_id (x := 10 * numv B N s (min k 4) + bt B N i) (by omega), w64_id (x := 10 * numv B N s (min k 4) + bt B N i - 48) (by omega)]
          refine ⟨by unfold r32; omega, fun M5 e5 M6 e6 => ?_⟩
          have a : M5 51 23 = i := by rw [e5, up_ne (by omega)]; exact e23
          rw [a, w32_id (by omega)] at e6
          refine ih (i + 1) (k + 1) x1 M6 (by omega) (by omega) (by omega) (by rw [← t2.2]; exact hr) cl cd c1 (by rw [e6, e5]; exact (F.up (by unfold sN; omega)).up (by unfold sN; omega)) (by rw [e6, up_same]; omega) (by rw [e6, up_ne (by omega), e5, up_ne (by omega)]; exact e25) ?_
          rw [e6, up_ne (by omega), e5, up_same, show min (k + 1) 4 = k + 1 by omega, show min k 4 = k by omega, hk]
          show _ = 10 * numv B N s k + (bt B N (s + k) - 48)
          omega
      · have cc' : ¬ (48 ≤ bt B N i ∧ bt B N i ≤ 57) := fun q => cc (decide_eq_true q)
        rw [if_neg cc']
        rw [ruE_f (by simpa using cc)] at hr
        refine ⟨fun _ => ⟨fun k4 M5 e5 => out M5 (by rw [e5]; exact F.up (by unfold sN; omega)) ?_ (by rw [e5, up_ne (by omega)]; exact e25) ?_, fun k4 M5 e5 => out M5 (by rw [e5]; exact F.up (by unfold sN; omega)) ?_ (by rw [e5, up_ne (by omega)]; exact e25) ?_⟩, fun e => absurd rfl e⟩
        · rw [e5, up_ne (by omega), e23]; unfold nxt; rw [← hs, if_neg c1, if_neg cl, if_pos cd, ← hr]
        · unfold KD; rw [← hs, if_neg c1, if_neg cl, if_pos cd, ← hr, if_pos (by omega)]
          refine ⟨by rw [e5, up_same], ?_⟩
          rw [e5, up_ne (by omega), e26]; unfold tvl; rw [← hs, ← hr, show i - s = min k 4 by omega]
        · rw [e5, up_ne (by omega), e23]; unfold nxt; rw [← hs, if_neg c1, if_neg cl, if_pos cd, ← hr]
        · unfold KD; rw [← hs, if_neg c1, if_neg cl, if_pos cd, ← hr, if_neg (by omega), e5, up_same]
  have sign : ∀ (M' : Mem), Fp sN M M' → M' 51 23 = s → M' 51 25 = s → bt B N s ≠ -1 → le (bt B N s) ≠ true → di (bt B N s) ≠ true → sg (bt B N s) → ∀ M14, M14 = up M' 51 24 3 → (r32 (bt B N s) ∧ (∀ M15, M15 = up M14 51 26 (bt B N s) → (∀ M16, M16 = up M15 51 23 (w32 ((M15 51 23) + 1)) → Q 0 M16))) := fun M' F e23 e25 c1 cl cd cg M14 e14 => by
    have cg' := cg
    unfold sg at cg'
    refine ⟨by unfold r32; omega, fun M15 e15 M16 e16 => ?_⟩
    have a : M15 51 23 = s := by rw [e15, up_ne (by omega), e14, up_ne (by omega)]; exact e23
    rw [a, w32_id (by omega)] at e16
    refine out M16 (by rw [e16, e15, e14]; exact ((F.up (by unfold sN; omega)).up (by unfold sN; omega)).up (by unfold sN; omega)) ?_ (by rw [e16, up_ne (by omega), e15, up_ne (by omega), e14, up_ne (by omega)]; exact e25) ?_
    · rw [e16, up_same]; unfold nxt; rw [← hs, if_neg c1, if_neg cl, if_neg cd, if_pos cg]; omega
    · unfold KD; rw [← hs, if_neg c1, if_neg cl, if_neg cd, if_pos cg]
      exact ⟨by rw [e16, up_ne (by omega), e15, up_ne (by omega), e14, up_same], by rw [e16, up_ne (by omega), e15, up_same]⟩
  have body : ∀ (d i : Nat) (M' : Mem), N - i = d → i ≤ N → ruE bl B N i = s → Fp sN M M' → M' 51 23 = i → B_X10_nextToken_0 (n + 1) M' Q K0 K100 K160 := by
    intro d
    induction d with
    | zero =>
      intro i M' hd hi hr F e23
      unfold B_X10_nextToken_0
      have hb : bt B N i = -1 := if_neg (by omega)
      rw [ruE_f (by rw [hb]; rfl)] at hr
      subst hr
      rw [e23]
      refine mm_byteAt (fx M' F).1 (by omega) ?_
      rw [hb]
      refine ⟨fun e => by omega, fun _ => ?_⟩
      rw [e23]
      refine mm_byteAt (fx M' F).1 (by omega) ?_
      rw [hb]
      refine ⟨fun e => by omega, fun _ M6 e6 => ?_⟩
      rw [e23] at e6
      have F6 : Fp sN M M6 := by rw [e6]; exact F.up (by unfold sN; omega)
      have a : M6 51 23 = i := by rw [e6, up_ne (by omega)]; exact e23
      rw [a]
      refine mm_byteAt (fx M6 F6).1 (by omega) (fun M9 e9 => ?_)
      rw [hb]
      refine ⟨fun e => by omega, fun _ M41 e41 M42 e42 => ?_⟩
      have F41 : Fp sN M M41 := by rw [e41, e9]; exact (F6.up (by unfold sN; omega)).up (by unfold sN; omega)
      rw [(fx M41 F41).2.2.2] at e42
      refine out M42 (by rw [e42]; exact F41.up (by unfold sN; omega)) ?_ (by rw [e42, up_same]; omega) ?_
      · rw [e42, up_ne (by omega), e41, up_ne (by omega), e9, up_ne (by omega), a]; unfold nxt; rw [← hs, if_pos hb]
      · unfold KD; rw [← hs, if_pos hb, e42, up_ne (by omega), e41, up_same]
    | succ d ih =>
      intro i M' hd hi hr F e23
      unfold B_X10_nextToken_0
      have T' := (fx M' F).1
      have hi2 : i < N := by omega
      have hb : bt B N i = B i := if_pos hi2
      have hbn : 0 ≤ bt B N i := by rw [hb]; exact (T.2.2.2.2 i hi2).2
      rw [e23]
      have again : bl (bt B N i) = true → ∀ M3, M3 = up M' 51 23 (w32 ((i : Int) + 1)) → K0 M3 := fun cb M3 e3 => by
        rw [w32_id (by omega)] at e3
        exact h0 M3 (ih (i + 1) M3 (by omega) (by omega) (by rw [← (ruE_t (c := bl) rfl cb).2]; exact hr) (by rw [e3]; exact F.up (by unfold sN; omega)) (by rw [e3, up_same]; omega))
      refine mm_byteAt T' (by omega) ⟨fun e M3 e3 => again (decide_eq_true (Or.inl e)) M3 (by rw [e3, e23]), fun n32 => ?_⟩
      rw [e23]
      refine mm_byteAt T' (by omega) ⟨fun e M3 e3 => again (decide_eq_true (Or.inr e)) M3 (by rw [e3, e23]), fun n10 M6 e6 => ?_⟩
      have nb : bl (bt B N i) = false := decide_eq_false (fun q => q.elim n32 n10)
      rw [ruE_f nb] at hr
      subst hr
      rw [e23] at e6
      have F6 : Fp sN M M6 := by rw [e6]; exact F.up (by unfold sN; omega)
      have a : M6 51 23 = i := by rw [e6, up_ne (by omega)]; exact e23
      rw [a]
      refine mm_byteAt (fx M6 F6).1 (by omega) (fun M9 e9 => ⟨fun _ => c_in ?_, fun e => absurd hbn e⟩)
      have c1 : bt B N i ≠ -1 := by omega
      have F9 : Fp sN M M9 := by rw [e9]; exact F6.up (by unfold sN; omega)
      have a9 : M9 51 23 = i := by rw [e9, up_ne (by omega)]; exact a
      have b9 : M9 51 25 = i := by rw [e9, up_ne (by omega), e6, up_same]
      by_cases cl : le (bt B N i) = true
      · rw [if_pos (of_decide_eq_true cl)]
        refine ⟨fun e => by omega, fun _ M40 e40 => words (N - i) i _ M40 rfl hi rfl cl c1 (by rw [e40]; exact F9.up (by unfold sN; omega)) (by rw [e40, up_ne (by omega)]; exact a9) (by rw [e40, up_ne (by omega)]; exact b9) (by rw [e40, up_same])⟩
      · rw [if_neg (fun q => cl (decide_eq_true q))]
        refine ⟨fun _ => c_in ?_, fun e => absurd rfl e⟩
        by_cases cd : di (bt B N i) = true
        · rw [if_pos (of_decide_eq_true cd)]
          refine ⟨fun e => by omega, fun _ M38 e38 => ⟨by unfold r32; omega, fun M39 e39 => ?_⟩⟩
          exact nums (N - i) i 0 _ M39 rfl hi rfl rfl cl cd c1 (by rw [e39, e38]; exact (F9.up (by unfold sN; omega)).up (by unfold sN; omega)) (by rw [e39, up_ne (by omega), e38, up_ne (by omega)]; exact a9) (by rw [e39, up_ne (by omega), e38, up_ne (by omega)]; exact b9) (by rw [e39, up_same]; rfl)
        · rw [if_neg (fun q => cd (decide_eq_true q))]
          have sgn := sign M9 F9 a9 b9 c1 cl cd
          refine ⟨fun _ => ⟨fun e => sgn (by unfold sg; omega), fun n1 => ⟨fun e => sgn (by unfold sg; omega), fun n2 => ⟨fun e => sgn (by unfold sg; omega), fun n3 => ⟨fun e => sgn (by unfold sg; omega), fun n4 => ⟨fun e => sgn (by unfold sg; omega), fun n5 => ⟨fun e => sgn (by unfold sg; omega), fun n6 => ⟨fun e => sgn (by unfold sg; omega), fun n7 => ⟨fun e => sgn (by unfold sg; omega), fun n8 => ?_⟩⟩⟩⟩⟩⟩⟩⟩, fun e => absurd rfl e⟩
          have ng : ¬ sg (bt B N i) := by unfold sg; omega
          refine out M9 F9 ?_ b9 ?_
          · rw [a9]; unfold nxt; rw [← hs, if_neg c1, if_neg cl, if_neg cd, if_neg ng]
          · unfold KD; rw [← hs, if_neg c1, if_neg cl, if_neg cd, if_neg ng, e9, up_same]
  exact body (N - p) p M rfl hp hs.symm Fp.rf h23)
end MA
