/-! THE PROGRAM TAKES TOKENS -/
def spc (i : Nat) : Nat := ((wsL.drop i).filter (fun x => decide (x = 32))).length
theorem spc_s : ∀ i, i < 64 → (ws i = 32 → spc i = spc (i + 1) + 1) ∧ (ws i ≠ 32 → spc i = spc (i + 1)) := by decide +kernel
section RC
variable {B : Nat → Int} {N n : Nat} {M : Mem} {Q : Int → Mem → Prop}
theorem c_takeWord (hL : JL) (hC : JC) {s : Nat} (T : TB B N M) (hs : s ≤ N) (h7 : M 33 7 = s) (h4 : M 33 4 = s) (h5 : M 33 5 = -1) (hq : ∀ M', Fr [33] M M' → (∀ k, k ≠ 4 → k ≠ 5 → k ≠ 6 → M' 33 k = M 33 k) → M' 33 4 = (ruE le B N s : Nat) → M' 33 6 = wc B N s (ruE le B N s) → M' 33 5 = (if wc B N s (ruE le B N s) = 14 then (s : Int) else -1) → Q 0 M') : Con (n + 10) md_X4_takeWord [vR 33] M Q := g_X4_takeWord (by
  intro K2 K48 h2 h48
  unfold B_X4_takeWord
  have hN := T.2.1
  obtain ⟨e, he⟩ : ∃ e, e = ruE le B N s := ⟨_, rfl⟩
  have heb := ruE_b (B := B) (c := le) hs
  rw [← he] at hq heb
  have key : ∀ M', Fr [33] M M' → (∀ k, k ≠ 4 → M' 33 k = M 33 k) → M' 33 4 = e → ∀ (f i nn b : Nat), i + f = 64 → b ≤ i → nn + spc i = 12 → wl B N s e f nn b i = wc B N s e → K48 (nn : Int) (b : Int) (i : Int) M' := by
    intro M' F g e4 f
    have T' : TB B N M' := T.fr (F.mono (by decide))
    have f7 : M' 33 7 = s := (g 7 (by decide)).trans h7
    induction f with
    | zero =>
      intro i nn b hi hb hn hw
      apply h48
      unfold B_X4_takeWord_48
      refine hL _ M' _ ⟨fun _ => c_Rfail (fun M2 e2 => ?_), fun e => by omega⟩
      have w14 : wc B N s e = 14 := hw.symm
      rw [w14] at hq
      rw [if_pos ((g 5 (by decide)).trans h5), f7] at e2
      refine hq M2 (by rw [e2]; exact (F.up (by decide)).up (by decide)) (fun k k4 k5 k6 => ?_) ?_ (by rw [e2, up_same]) ?_
      · rw [e2, up_ne (by omega), up_ne (by omega)]; exact g k k4
      · rw [e2, up_ne (by omega), up_ne (by omega)]; exact e4
      · rw [e2, up_ne (by omega), up_same]; exact (if_pos rfl).symm
    | succ f ih =>
      intro i nn b hi hb hn hw
      apply h48
      unfold B_X4_takeWord_48
      refine hL _ M' _ ⟨fun e => by omega, fun _ => hC _ i M' _ (by omega) ?_⟩
      rw [w32_id (x := (i : Int) + 1) (by omega), w32_id (x := (nn : Int) + 1) (by omega)]
      have hsp := spc_s i (by omega)
      have hw' : (if ws i = 32 then (if weq B N s e b i then (nn : Int) else wl B N s e f (nn + 1) (i + 1) (i + 1)) else wl B N s e f nn b (i + 1)) = wc B N s e := hw
      refine ⟨fun c => c_stands hL hC T' f7 e4 (by omega) (by omega) ?_, fun c => ?_⟩
      · rw [if_pos c] at hw'
        by_cases cw : weq B N s e b i
        · rw [if_pos cw] at hw' ⊢
          refine ⟨fun e => by omega, fun _ M2 e2 => ?_⟩
          have hsp := hsp.1 c
          have hn11 : (nn : Int) ≤ 11 := by omega
          refine hq M2 (by rw [e2]; exact F.up (by decide)) (fun k k4 k5 k6 => by rw [e2, up_ne (by omega)]; exact g k k4) (by rw [e2, up_ne (by omega)]; exact e4) (by rw [e2, up_same]; exact hw') ?_
          rw [e2, up_ne (by omega), if_neg (by omega)]; exact (g 5 (by decide)).trans h5
        · rw [if_neg cw] at hw' ⊢
          exact ⟨fun _ => ih (i + 1) (nn + 1) (i + 1) (by omega) (by omega) (by have := hsp.1 c; omega) hw', fun e => absurd rfl e⟩
      · rw [if_neg c] at hw'
        exact ih (i + 1) nn b (by omega) (by omega) (by have := hsp.2 c; omega) hw'
  have fin : ∀ M', Fr [33] M M' → (∀ k, k ≠ 4 → M' 33 k = M 33 k) → M' 33 4 = e → K48 0 0 0 M' := fun M' F g e4 => key M' F g e4 64 0 0 0 (by omega) (by omega) (by decide) rfl
  refine loopUp (P := fun i => s + i ≤ N → ruE le B N (s + i) = e → ∀ M', Fr [33] M M' → (∀ k, k ≠ 4 → M' 33 k = M 33 k) → M' 33 4 = ((s + i : Nat) : Int) → K2 (i : Int) M') 160 (fun hi hr M' F g e4 => h2 _ _ ?_) (fun i hi ih hi2 hr M' F g e4 => h2 _ _ ?_) 0 (Nat.zero_le _) (by omega) he.symm M Fr.rf (fun _ _ => rfl) h4
  · unfold B_X4_takeWord_2
    refine ⟨fun _ => fin M' F g ?_, fun e => absurd (by decide) e⟩
    have hb : le (bt B N (s + 160)) = false := by
      have : bt B N (s + 160) = -1 := if_neg (by omega)
      rw [this]; rfl
    rw [ruE_f hb] at hr
    rw [e4]; omega
  · unfold B_X4_takeWord_2
    rw [e4]
    refine ⟨fun e => by omega, fun _ => c_byteAt (T.fr (F.mono (by decide))) (c_isLetter ?_)⟩
    by_cases c : le (bt B N (s + i)) = true
    · rw [if_pos c]
      obtain ⟨t1, t2⟩ := ruE_t (c := le) rfl c
      rw [w32_id (x := (i : Int) + 1) (by omega), w32_id (by omega)]
      refine ⟨fun e => by omega, fun _ M5 e5 => ih (by omega) (by rw [show s + (i + 1) = s + i + 1 by omega, ← t2]; exact hr) M5 (by rw [e5]; exact F.up (by decide)) (fun k k4 => by rw [e5, up_ne (by omega)]; exact g k k4) (by rw [e5, up_same]; omega)⟩
    · rw [if_neg c]
      refine ⟨fun _ => fin M' F g ?_, fun e => absurd rfl e⟩
      rw [ruE_f (by simpa using c)] at hr
      rw [e4]; omega)
theorem c_takeNumber {s : Nat} (T : TB B N M) (hs : s ≤ N) (h7 : M 33 7 = s) (h4 : M 33 4 = s) (h5 : M 33 5 = -1) (hq : ∀ M', Fr [33] M M' → (∀ k, k ≠ 4 → k ≠ 5 → k ≠ 6 → k ≠ 8 → M' 33 k = M 33 k) → M' 33 4 = (ruE di B N s : Nat) → M' 33 6 = (if ruE di B N s - s ≤ 4 then 12 else 14) → M' 33 5 = (if ruE di B N s - s ≤ 4 then -1 else (s : Int)) → (ruE di B N s - s ≤ 4 → M' 33 8 = numv B N s (ruE di B N s - s)) → Q 0 M') : Con (n + 3) md_X4_takeNumber [vR 33] M Q := g_X4_takeNumber (by
  intro K7 hK7
  unfold B_X4_takeNumber
  intro M15 e15
  have hN := T.2.1
  obtain ⟨e, he⟩ : ∃ e, e = ruE di B N s := ⟨_, rfl⟩
  have heb := ruE_b (B := B) (c := di) hs
  have hin := ruE_in (B := B) (N := N) (c := di) rfl (N - s) s rfl
  rw [← he] at hq heb hin
  have fin : ∀ M', Fr [33] M M' → (∀ k, k ≠ 4 → k ≠ 8 → M' 33 k = M 33 k) → M' 33 4 = e → (e - s ≤ 4 → M' 33 8 = numv B N s (e - s)) → ∀ M1, M1 = up M' 33 6 12 → (((w32 ((M1 33 4) - (M1 33 7))) ≤ 4 → Q 0 M1) ∧ (¬ (w32 ((M1 33 4) - (M1 33 7))) ≤ 4 → Con (n + 2) md_X4_fail [vR 33] M1 (fun _ M3 => Q 0 M3))) := fun M' F g e4 e8 M1 e1 => by
    have a4 : M1 33 4 = e := by rw [e1, up_ne (by omega)]; exact e4
    have a7 : M1 33 7 = s := by rw [e1, up_ne (by omega), g 7 (by decide) (by decide)]; exact h7
    have a5 : M1 33 5 = -1 := by rw [e1, up_ne (by omega), g 5 (by decide) (by decide)]; exact h5
    rw [a4, a7, w32_id (by omega)]
    refine ⟨fun c => hq M1 (by rw [e1]; exact F.up (by decide)) (fun k k4 k5 k6 k8 => by rw [e1, up_ne (by omega)]; exact g k k4 k8) a4 (by rw [e1, up_same, if_pos (by omega)]) (by rw [a5, if_pos (by omega)]) (fun c => by rw [e1, up_ne (by omega)]; exact e8 c), fun c => c_Rfail (fun M3 e3 => ?_)⟩
    rw [if_pos a5, a7] at e3
    refine hq M3 (by rw [e3, e1]; exact ((F.up (by decide)).up (by decide)).up (by decide)) (fun k k4 k5 k6 k8 => ?_) ?_ ?_ ?_ (fun c => by omega)
    · rw [e3, up_ne (by omega), up_ne (by omega), e1, up_ne (by omega)]; exact g k k4 k8
    · rw [e3, up_ne (by omega), up_ne (by omega)]; exact a4
    · rw [e3, up_same, if_neg (by omega)]
    · rw [e3, up_ne (by omega), up_same, if_neg (by omega)]
  refine loopUp (P := fun i => s + i ≤ N → ruE di B N (s + i) = e → ∀ M', Fr [33] M M' → (∀ k, k ≠ 4 → k ≠ 8 → M' 33 k = M 33 k) → M' 33 4 = ((s + i : Nat) : Int) → (i ≤ 4 → M' 33 8 = numv B N s i) → K7 (i : Int) M') 160 (fun hi hr M' F g e4 e8 => hK7 _ _ ?_) (fun i hi ih hi2 hr M' F g e4 e8 => hK7 _ _ ?_) 0 (Nat.zero_le _) (by omega) he.symm M15 (by rw [e15]; exact Fr.rf.up (by decide)) (fun k k4 k8 => by rw [e15, up_ne (by omega)]) (by rw [e15, up_ne (by omega)]; exact h4) (fun _ => by rw [e15, up_same]; rfl)
  · unfold B_X4_takeNumber_7
    have hb : di (bt B N (s + 160)) = false := by
      have : bt B N (s + 160) = -1 := if_neg (by omega)
      rw [this]; rfl
    rw [ruE_f hb] at hr
    exact ⟨fun _ => fin M' F g (by rw [e4]; omega) (fun c => by omega), fun e => absurd (by decide) e⟩
  · unfold B_X4_takeNumber_7
    have T' : TB B N M' := T.fr (F.mono (by decide))
    rw [e4]
    refine ⟨fun e => by omega, fun _ => c_byteAt T' (c_isDigit ?_)⟩
    by_cases c : di (bt B N (s + i)) = true
    · rw [if_pos c, e4]
      obtain ⟨t1, t2⟩ := ruE_t (c := di) rfl c
      have hd : 48 ≤ bt B N (s + i) ∧ bt B N (s + i) ≤ 57 := of_decide_eq_true c
      refine ⟨fun e => by omega, fun _ => c_byteAt T' (fun M13 e13 M14 e14 => ?_)⟩
      have a4 : M13 33 4 = ((s + i : Nat) : Int) := by rw [e13, up_ne (by omega)]; exact e4
      rw [a4, w32_id (by omega)] at e14
      rw [w32_id (x := (i : Int) + 1) (by omega)]
      have hrb := ruE_b (B := B) (N := N) (c := di) (p := s + i + 1) (by omega)
      refine ih (by omega) (by rw [show s + (i + 1) = s + i + 1 by omega, ← t2]; exact hr) M14 (by rw [e14, e13]; exact (F.up (by decide)).up (by decide)) (fun k k4 k8 => by rw [e14, up_ne (by omega), e13, up_ne (by omega)]; exact g k k4 k8) (by rw [e14, up_same]; omega) (fun hi4 => ?_)
      have nb := numv_b (B := B) (N := N) (s := s) i (by omega) (fun j hj => hin (s + j) (by omega) (by omega))
      have pb := pw_b i (by omega)
      have p3 : pw i ≤ 1000 := by
        have : i ≤ 3 := by omega
        have : ∀ i, i < 4 → pw i ≤ 1000 := by decide
        exact this i (by omega)
      rw [e14, up_ne (by omega), e13, up_same, e8 (by omega)]
      rw [w32_id (x := numv B N s i * 10) (by omega), w32_id (x := numv B N s i * 10 + bt B N (s + i)) (by omega), w32_id (x := numv B N s i * 10 + bt B N (s + i) - 48) (by omega)]
      show _ = 10 * numv B N s i + (bt B N (s + i) - 48)
      omega
    · rw [if_neg c]
      rw [ruE_f (by simpa using c)] at hr
      refine ⟨fun _ => fin M' F g (by rw [e4]; omega) (fun c => ?_), fun e => absurd rfl e⟩
      rw [e8 (by omega), show e - s = i by omega])
theorem c_adv0 (hL : JL) (hC : JC) {c : List Int} {p : Nat} (T : TB B N M) (h4 : M 33 4 = p) (h5 : M 33 5 = -1) (hc : Cc c M) (hcp : c.length ≤ p ∧ p ≤ N) (hq : ∀ M', Fr [33] M M' → CS B N (.inr (c, p)) M' → Q 0 M') : Con (n + 11) md_X4_advance [vR 33] M Q := g_X4_advance (by
  intro K hK
  unfold B_X4_advance
  have hN := T.2.1
  refine ⟨fun _ => ?_, fun e => absurd h5 e⟩
  obtain ⟨s, hs⟩ : ∃ s, s = sta B N p := ⟨_, rfl⟩
  have hsb := sta_b (B := B) hcp.2
  rw [← hs] at hsb
  have rest : ∀ M', Fr [33] M M' → (∀ k, k ≠ 4 → M' 33 k = M 33 k) → M' 33 4 = s → (∀ M1, M1 = up M' 33 7 (M' 33 4) → Con (n + 10) md_X6_byteAt [vR 15, vI (M1 33 4)] M1 (fun r2 M3 => ((r2 = (-1) → (∀ M18, M18 = up M3 33 6 13 → Q 0 M18)) ∧ (¬ r2 = (-1) → Con (n + 10) md_X4_isLetter [vI r2] M3 (fun r4 M5 => ((r4 = 0 → Con (n + 10) md_X4_isDigit [vI r2] M5 (fun r6 M7 => ((r6 = 0 → Con (n + 10) md_X4_isSign [vI r2] M7 (fun r8 M9 => ((r8 = 0 → Con (n + 10) md_X4_fail [vR 33] M9 (fun _ M11 => Q 0 M11)) ∧ (¬ r8 = 0 → (∀ M12, M12 = up M9 33 6 r2 → (∀ M13, M13 = up M12 33 4 (w32 ((M12 33 4) + 1)) → Q 0 M13)))))) ∧ (¬ r6 = 0 → Con (n + 10) md_X4_takeNumber [vR 33] M7 (fun _ M15 => Q 0 M15))))) ∧ (¬ r4 = 0 → Con (n + 10) md_X4_takeWord [vR 33] M5 (fun _ M17 => Q 0 M17)))))))) := fun M' F g e4 M1 e1 => by
    rw [e4] at e1
    have F1 : Fr [33] M M1 := by rw [e1]; exact F.up (by decide)
    have T1 : TB B N M1 := T.fr (F1.mono (by decide))
    have a4 : M1 33 4 = s := by rw [e1, up_ne (by omega)]; exact e4
    have a7 : M1 33 7 = s := by rw [e1, up_same]
    have a5 : M1 33 5 = -1 := by rw [e1, up_ne (by omega), g 5 (by decide)]; exact h5
    have a3 : M1 33 3 = M 33 3 := by rw [e1, up_ne (by omega), g 3 (by decide)]
    rw [a4]
    refine c_byteAt T1 ?_
    have tk : tkc B N p = if bt B N s = -1 then 13 else if le (bt B N s) then wc B N s (ruE le B N s) else if di (bt B N s) then (if ruE di B N s - s ≤ 4 then 12 else 14) else if sg (bt B N s) then bt B N s else 14 := by rw [hs]; rfl
    have nx : nxt B N p = if bt B N s = -1 then s else if le (bt B N s) then ruE le B N s else if di (bt B N s) then ruE di B N s else if sg (bt B N s) then s + 1 else s := by rw [hs]; rfl
    have out : ∀ M2, Fr [33] M M2 → M2 33 3 = M 33 3 → M2 33 6 = tkc B N p → M2 33 7 = s → M2 33 4 = (nxt B N p : Nat) → (tkc B N p = 12 → M2 33 8 = tvl B N p) → M2 33 5 = (if tkc B N p = 14 then (s : Int) else -1) → Q 0 M2 := fun M2 F2 q3 q6 q7 q4 q8 q5 => hq M2 F2 ⟨q6, by rw [q7, hs], q4, q8, by rw [q5, hs], hc.fr q3 (fun i => F2 34 i (by decide)), hcp⟩
    refine ⟨fun c M18 e18 => ?_, fun c => c_isLetter ?_⟩
    · rw [if_pos c] at tk nx
      refine out M18 (by rw [e18]; exact F1.up (by decide)) (by rw [e18, up_ne (by omega)]; exact a3) (by rw [e18, up_same, tk]) (by rw [e18, up_ne (by omega)]; exact a7) (by rw [e18, up_ne (by omega), nx]; exact a4) (fun q => by rw [tk] at q; omega) (by rw [e18, up_ne (by omega), tk, if_neg (by decide)]; exact a5)
    · rw [if_neg c] at tk nx
      by_cases cl : le (bt B N s) = true
      · rw [if_pos cl] at tk nx ⊢
        refine ⟨fun e => by omega, fun _ => c_takeWord hL hC T1 hsb.2 a7 a4 a5 (fun M2 F2 g2 q4 q6 q5 => ?_)⟩
        have hr := wc_r (B := B) (N := N) (s := s) (e := ruE le B N s)
        exact out M2 (F1.tr F2) (by rw [g2 3 (by decide) (by decide) (by decide)]; exact a3) (by rw [q6, tk]) (by rw [g2 7 (by decide) (by decide) (by decide)]; exact a7) (by rw [q4, nx]) (fun q => by rw [tk] at q; omega) (by rw [q5, tk])
      · rw [if_neg cl] at tk nx ⊢
        refine ⟨fun _ => c_isDigit ?_, fun e => absurd rfl e⟩
        by_cases cd : di (bt B N s) = true
        · rw [if_pos cd] at tk nx ⊢
          refine ⟨fun e => by omega, fun _ => c_takeNumber T1 hsb.2 a7 a4 a5 (fun M2 F2 g2 q4 q6 q5 q8 => ?_)⟩
          refine out M2 (F1.tr F2) (by rw [g2 3 (by decide) (by decide) (by decide) (by decide)]; exact a3) (by rw [q6, tk]) (by rw [g2 7 (by decide) (by decide) (by decide) (by decide)]; exact a7) (by rw [q4, nx]) (fun q => ?_) ?_
          · rw [tk] at q
            by_cases c4 : ruE di B N s - s ≤ 4
            · rw [q8 c4, hs]; rfl
            · rw [if_neg c4] at q; omega
          · rw [q5, tk]
            by_cases c4 : ruE di B N s - s ≤ 4
            · rw [if_pos c4, if_pos c4, if_neg (by decide)]
            · rw [if_neg c4, if_neg c4, if_pos rfl]
        · rw [if_neg cd] at tk nx ⊢
          refine ⟨fun _ => c_isSign ?_, fun e => absurd rfl e⟩
          by_cases cg : sg (bt B N s)
          · rw [if_pos cg] at tk nx ⊢
            refine ⟨fun e => by omega, fun _ M12 e12 M13 e13 => ?_⟩
            have b4 : M12 33 4 = s := by rw [e12, up_ne (by omega)]; exact a4
            have hl := bt_lt c
            rw [b4, w32_id (by omega)] at e13
            have cg' := cg
            unfold sg at cg'
            exact out M13 (by rw [e13, e12]; exact (F1.up (by decide)).up (by decide)) (by rw [e13, up_ne (by omega), e12, up_ne (by omega)]; exact a3) (by rw [e13, up_ne (by omega), e12, up_same, tk]) (by rw [e13, up_ne (by omega), e12, up_ne (by omega)]; exact a7) (by rw [e13, up_same, nx]; omega) (fun q => by rw [tk] at q; omega) (by rw [e13, up_ne (by omega), e12, up_ne (by omega), tk, if_neg (by omega)]; exact a5)
          · rw [if_neg cg] at tk nx ⊢
            refine ⟨fun _ => c_Rfail (fun M2 e2 => ?_), fun e => absurd rfl e⟩
            rw [if_pos a5, a7] at e2
            exact out M2 (by rw [e2]; exact (F1.up (by decide)).up (by decide)) (by rw [e2, up_ne (by omega), up_ne (by omega)]; exact a3) (by rw [e2, up_same, tk]) (by rw [e2, up_ne (by omega), up_ne (by omega)]; exact a7) (by rw [e2, up_ne (by omega), up_ne (by omega), nx]; exact a4) (fun q => by rw [tk] at q; omega) (by rw [e2, up_ne (by omega), up_same, tk, if_pos rfl])
  refine loopUp (P := fun i => p + i ≤ N → ruE bl B N (p + i) = s → ∀ M', Fr [33] M M' → (∀ k, k ≠ 4 → M' 33 k = M 33 k) → M' 33 4 = ((p + i : Nat) : Int) → K (i : Int) M') 160 (fun hi hr M' F g e4 => hK _ _ ?_) (fun i hi ih hi2 hr M' F g e4 => hK _ _ ?_) 0 (Nat.zero_le _) hcp.2 hs.symm M Fr.rf (fun _ _ => rfl) h4
  · unfold B_X4_advance_11
    have hb : bl (bt B N (p + 160)) = false := by
      have : bt B N (p + 160) = -1 := if_neg (by omega)
      rw [this]; rfl
    rw [ruE_f hb] at hr
    exact ⟨fun _ => rest M' F g (by rw [e4]; omega), fun e => absurd (by decide) e⟩
  · unfold B_X4_advance_11
    refine ⟨fun e => by omega, fun _ => ?_⟩
    rw [e4]
    refine c_byteAt (T.fr (F.mono (by decide))) (c_isBlank ?_)
    by_cases c : bl (bt B N (p + i)) = true
    · rw [if_pos c]
      obtain ⟨t1, t2⟩ := ruE_t (c := bl) rfl c
      rw [w32_id (x := (i : Int) + 1) (by omega), e4, w32_id (by omega)]
      refine ⟨fun e => by omega, fun _ M5 e5 => ih (by omega) (by rw [show p + (i + 1) = p + i + 1 by omega, ← t2]; exact hr) M5 (by rw [e5]; exact F.up (by decide)) (fun k k4 => by rw [e5, up_ne (by omega)]; exact g k k4) (by rw [e5, up_same]; omega)⟩
    · rw [if_neg c]
      rw [ruE_f (by simpa using c)] at hr
      refine ⟨fun _ => ?_, fun e => absurd rfl e⟩
      have := rest M' F g (by rw [e4]; omega)
      exact this)
theorem c_adv (hL : JL) (hC : JC) {r : RR} (T : TB B N M) (h : CS B N r M) (ht : tok B N r ≠ 14 ∨ ∃ f, r = .inl f) (hq : ∀ M', Fr [33] M M' → CS B N (adv B N r) M' → Q 0 M') : Con (n + 11) md_X4_advance [vR 33] M Q := by
  match r, h, ht, hq with
  | .inl f, h, ht, hq =>
    refine g_X4_advance (fun K hK => ?_)
    unfold B_X4_advance
    exact ⟨fun e => absurd (h.1.symm.trans e) h.2.1, fun _ => hq M Fr.rf h⟩
  | .inr q, h, ht, hq =>
    obtain ⟨h1, h2, h3, h4, h5, h6, h7, h8⟩ := h
    have ht : tkc B N q.2 ≠ 14 := ht.elim (fun q => q) (fun q => by obtain ⟨f, hf⟩ := q; cases hf)
    rw [if_neg ht] at h5
    have := nxt_b (B := B) h8
    exact c_adv0 hL hC T h3 h5 h6 (by omega) hq
theorem c_ex (hL : JL) (hC : JC) {r : RR} {due : Int} (T : TB B N M) (h : CS B N r M) (hd : due ≠ 14) (hq : ∀ M', Fr [33] M M' → CS B N (ex B N due r) M' → Q 0 M') : Con (n + 12) md_X4_expect [vR 33, vI due] M Q := g_X4_expect (by
  unfold B_X4_expect
  rw [CS_tok h]
  unfold ex at hq
  refine ⟨fun e => c_adv hL hC T h (Or.inl (by rw [e]; exact hd)) (fun M' F C => hq M' F (by rw [if_pos e]; exact C)), fun e => c_fl h T.2.1 (fun M' F C => hq M' F (by rw [if_neg e]; exact C))⟩)
end RC
