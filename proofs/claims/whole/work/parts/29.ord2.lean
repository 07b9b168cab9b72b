/-! ORDERS: THE PROGRAM AND THE MODEL -/
def pw : Nat → Int
  | 0 => 1
  | d + 1 => 10 * pw d
theorem pw_b : ∀ d, d < 7 → 1 ≤ pw d ∧ pw d ≤ 1000000 := by decide
def BC (b : BO) (M : Mem) : Prop := (b = none → M 41 4 = -1) ∧ (∀ p, b = some p → M 41 4 = p.1 ∧ p.1 ≠ -1 ∧ M 41 3 = p.2)
def BM (b : BO) (M : Mem) : Prop := (b = none → M 51 31 = 0) ∧ (∀ p, b = some p → M 51 31 = p.1 ∧ p.1 ≠ 0 ∧ M 51 30 = p.2)
abbrev sO : List Nat := [32, 36, 37, 38, 39, 40, 41]
theorem sO7 : ∀ o : Nat, 1 ≤ o → o ≤ 7 → o ∉ sO := by simp [sO]; omega
theorem sO31 : ∀ o : Nat, 17 ≤ o → o ≤ 31 → o ∉ sO := by simp [sO]; omega
theorem fullU : ∀ m, m < 7 → ∀ u, u < 2 ^ m → (ucS ((u : Nat) : Int) m = 0 ↔ ((u : Nat) : Int) = w32 (sh_l 1 ((m : Nat) : Int) - 1)) := by decide +kernel
theorem u1_lt : ∀ m, m < 7 → ∀ u, u < 2 ^ m → ∀ i, i < m → u1 u i < 2 ^ m := by decide +kernel
theorem lt64 : ∀ m, m < 7 → 2 ^ m ≤ 64 := by decide
section OC
variable {τ : Int → Int → (Nat → Int) → Int} {F : Nat → Int} {m : Nat} {h0 : Mem}
theorem c_isFree {n u i : Nat} {M : Mem} {Q : Int → Mem → Prop} (hm : m ≤ 6) (hi : i < m) (hF : ∀ i, i < m → M 42 i = F i) (hq : Q (if fre F u i then 1 else 0) M) : Con (n + 1) md_X3_isFree [vR 41, vI (i : Int), vI (u : Int)] M Q := g_X3_isFree (by
  intro K hK
  unfold B_X3_isFree
  show (ubF (u : Int) (i : Int) → _) ∧ (¬ ubF (u : Int) (i : Int) → _)
  refine ⟨fun cu => ?_, fun cu => by rw [if_neg (fun q => cu q.1)] at hq; exact hq⟩
  refine loopUp (P := fun j => (∀ j', j' < j → ¬ (ubF (u : Int) (j' : Int) ∧ F j' = F i)) → K (j : Int) M) i (fun hp => hK _ _ ?_) (fun j hj ih hp => hK _ _ ?_) 0 (Nat.zero_le _) (fun j' hj' => by omega)
  · unfold B_X3_isFree_12
    refine ⟨fun _ => ?_, fun e => absurd (Int.le_refl _) e⟩
    rw [if_pos ⟨cu, hp⟩] at hq; exact hq
  · unfold B_X3_isFree_12
    rw [w32_id (by omega), show (j : Int).toNat = j from rfl, show (i : Int).toNat = i from rfl, hF j (by omega), hF i hi]
    show _ ∧ (_ → (ubF (u : Int) (j : Int) → _) ∧ (¬ ubF (u : Int) (j : Int) → _))
    refine ⟨fun e => by omega, fun _ => ⟨fun cj => ⟨by omega, by omega, fun e => ?_, fun e => ih (fun j' hj' => ?_)⟩, fun cj => ih (fun j' hj' => ?_)⟩⟩
    · rw [if_neg (fun q => q.2 j hj ⟨cj, e⟩)] at hq; exact hq
    · by_cases c : j' = j
      · subst c; exact fun q => e q.2
      · exact hp j' (by omega)
    · by_cases c : j' = j
      · subst c; exact fun q => cj q.1
      · exact hp j' (by omega))
theorem c_search (hm : 1 ≤ m ∧ m ≤ 6) (W0 : Wf h0) (hFl : ∀ i, i < m → 0 ≤ F i ∧ F i < h0 0 3) : ∀ (k n u d : Nat) (g : Int) (h M : Mem) (b : BO) (Q : Int → Mem → Prop), d + k = m → u < 64 → (0 ≤ g ∧ g < pw d) → Hd h0 M → Ext h0 h → Wf h → TC τ M → (0 ≤ h0 0 2 ∧ h0 0 2 < M 17 0) → Tr h M → M 41 2 = m → (∀ i, i < m → M 42 i = F i) → BC b M → (∀ M', Fr sO M M' → Tr h M' → M' 41 2 = m → BC (cS τ F m k u g h b) M' → Q 0 M') → Con (2 * k + n + 6) md_X3_search [vR 41, vI (d : Int), vI (u : Int), vI g] M Q := by
  intro k
  induction k with
  | zero =>
    intro n u d g h M b Q hd hu hg H E W TT hr T hm2 hF B hq
    rw [show 2 * 0 + n + 6 = (n + 5) + 1 by omega]
    refine g_X3_search (fun K hK => ?_)
    unfold B_X3_search
    rw [hm2, T.2.2.2.1]
    unfold cS at hq
    have pb := pw_b d (by omega)
    have leaf : ∀ M5, M5 = up M 41 4 g → ∀ M6, M6 = up M5 41 3 (M5 38 7) → Fr sO M M6 ∧ Tr h M6 ∧ M6 41 2 = m ∧ BC (some (g, tcH h)) M6 := fun M5 e5 M6 e6 => by
      have a : M5 38 7 = tcH h := by rw [e5, up_ne (by omega)]; exact T.2.2.2.1
      rw [a] at e6
      have F6 : Fr [41] M M6 := by rw [e6, e5]; exact (Fr.rf.up (by decide)).up (by decide)
      refine ⟨F6.mono (by decide), T.fr F6 (by decide) (by decide) (by decide), by rw [e6, up_ne (by omega), e5, up_ne (by omega)]; exact hm2, ⟨fun c => (by cases c), fun p c => ?_⟩⟩
      cases c
      refine ⟨by rw [e6, up_ne (by omega), e5, up_same], by show g ≠ -1; omega, by rw [e6, up_same]⟩
    match b, B, hq with
    | none, B, hq =>
      rw [B.1 rfl]
      refine ⟨fun _ => ⟨fun e => by omega, fun _ M5 e5 M6 e6 => ?_⟩, fun e => absurd rfl e⟩
      obtain ⟨l1, l2, l3, l4⟩ := leaf M5 e5 M6 e6
      exact hq M6 l1 l2 l3 l4
    | some p, B, hq =>
      obtain ⟨b1, b2, b3⟩ := B.2 p rfl
      rw [b1, b3]
      refine ⟨fun e => absurd e b2, fun _ => ⟨fun e => ⟨fun e => by omega, fun _ M5 e5 M6 e6 => ?_⟩, fun e => ?_⟩⟩
      · obtain ⟨l1, l2, l3, l4⟩ := leaf M5 e5 M6 e6
        rw [if_neg (fun q => by have : p.2 ≤ tcH h := of_decide_eq_true q; omega)] at hq
        exact hq M6 l1 l2 l3 l4
      · rw [if_pos (show pru (some p) (tcH h) = true from decide_eq_true (by omega))] at hq
        exact hq M Fr.rf T hm2 B
  | succ k ih =>
    intro n u d g h M b Q hd hu hg H E W TT hr T hm2 hF B hq
    rw [show 2 * (k + 1) + n + 6 = (2 * k + n + 7) + 1 by omega]
    refine g_X3_search (fun K hK => ?_)
    unfold B_X3_search
    rw [hm2, T.2.2.2.1]
    unfold cS at hq
    have pb := pw_b d (by omega)
    have loop : pru b (tcH h) = false → K 0 M := fun hp => by
      rw [if_neg (by rw [hp]; decide)] at hq
      refine loopUp (P := fun i => ∀ M', Fr sO M M' → Tr h M' → M' 41 2 = m → BC (fld (fun b i => if fre F u i then cS τ F m k (u1 u i) (10 * g + i + 1) (stp τ h (F i)) b else b) i b) M' → K (i : Int) M') m (fun M' F' T' m' B' => hK _ _ ?_) (fun i hi ihi M' F' T' m' B' => hK _ _ ?_) 0 (Nat.zero_le _) M Fr.rf T hm2 B
      · unfold B_X3_search_51
        rw [m']
        exact ⟨fun _ => hq M' F' T' m' B', fun e => absurd (Int.le_refl _) e⟩
      · unfold B_X3_search_51
        have hF' : ∀ i, i < m → M' 42 i = F i := fun i hi => (F' 42 i (by decide)).trans (hF i hi)
        rw [m', w32_id (x := (i : Int) + 1) (by omega)]
        refine ⟨fun e => by omega, fun _ => c_isFree hm.2 hi hF' ?_⟩
        by_cases cf : fre F u i
        · rw [if_pos cf]
          refine ⟨fun e => by omega, fun _ => g_X3_tryPlace ?_⟩
          unfold B_X3_tryPlace
          have H' := H.fr F' sO7
          have hf := hFl i hi
          rw [show (i : Int).toNat = i from rfl, hF' i hi, w32_id (x := (d : Int) + 1) (by omega), w32_id (x := g * 10) (by omega), w32_id (x := g * 10 + (i : Int)) (by omega), w32_id (x := g * 10 + (i : Int) + 1) (by omega), Int.mul_comm g 10]
          have uu := u1_ok hu (show i < 6 by omega)
          rw [← uu.2.1]
          refine ⟨by omega, c_canBe H' W0 E T' hf ?_⟩
          have pb1 : pw (d + 1) = 10 * pw d := rfl
          have efl : fld (fun b i => if fre F u i then cS τ F m k (u1 u i) (10 * g + i + 1) (stp τ h (F i)) b else b) (i + 1) b = cS τ F m k (u1 u i) (10 * g + i + 1) (stp τ h (F i)) (fld (fun b i => if fre F u i then cS τ F m k (u1 u i) (10 * g + i + 1) (stp τ h (F i)) b else b) i b) := by
            show (if fre F u i then _ else _) = _
            rw [if_pos cf]
          by_cases cc : caH h (F i)
          · rw [if_pos cc]
            have es : stp τ h (F i) = puH τ h (F i) := if_pos cc
            rw [es] at efl
            refine ⟨fun e => by omega, fun _ => c_put H' W0 E W (TT.fr F' sO31) (by rw [F' 17 0 (by decide)]; exact hr) T' hf cc (fun M8 F8 T8 => ?_)⟩
            have F08 : Fr sO M M8 := F'.tr (F8.mono (by decide))
            have hfh : 0 ≤ F i ∧ F i < h 0 3 := by rw [E.1 3 (by decide)]; exact hf
            refine ih n (u1 u i) (d + 1) (10 * g + (i : Int) + 1) (puH τ h (F i)) M8 _ _ (by omega) uu.1 (by omega) (H.fr F08 sO7) (adH_ext E) (puH_wf W hfh cc) (TT.fr F08 sO31) (by rw [F08 17 0 (by decide)]; exact hr) T8 (by rw [F8 41 2 (by decide)]; exact m') (fun i hi => (F08 42 i (by decide)).trans (hF i hi)) ⟨fun c => (F8 41 4 (by decide)).trans (B'.1 c), fun p c => by rw [F8 41 4 (by decide), F8 41 3 (by decide)]; exact B'.2 p c⟩ (fun M10 F10 T10 m10 B10 => ⟨fun e => by omega, fun _ => ?_⟩)
            have F010 : Fr sO M M10 := F08.tr F10
            refine c_putBack (H.fr F010 sO7) W0 E W T10 hf cc T'.2.1 (fun M12 F12 T12 => ihi M12 (F010.tr (F12.mono (by decide))) T12 (by rw [F12 41 2 (by decide)]; exact m10) ?_)
            rw [efl]
            exact ⟨fun c => (F12 41 4 (by decide)).trans (B10.1 c), fun p c => by rw [F12 41 4 (by decide), F12 41 3 (by decide)]; exact B10.2 p c⟩
          · rw [if_neg cc]
            have es : stp τ h (F i) = h := if_neg cc
            rw [es] at efl
            refine ⟨fun _ => ?_, fun e => absurd rfl e⟩
            refine ih n (u1 u i) (d + 1) (10 * g + (i : Int) + 1) h M' _ _ (by omega) uu.1 (by omega) H' E W (TT.fr F' sO31) (by rw [F' 17 0 (by decide)]; exact hr) T' m' hF' B' (fun M10 F10 T10 m10 B10 => ⟨fun _ => ihi M10 (F'.tr F10) T10 m10 (by rw [efl]; exact B10), fun e => absurd rfl e⟩)
        · rw [if_neg cf]
          refine ⟨fun _ => ihi M' F' T' m' ?_, fun e => absurd rfl e⟩
          have efl : fld (fun b i => if fre F u i then cS τ F m k (u1 u i) (10 * g + i + 1) (stp τ h (F i)) b else b) (i + 1) b = fld (fun b i => if fre F u i then cS τ F m k (u1 u i) (10 * g + i + 1) (stp τ h (F i)) b else b) i b := by
            show (if fre F u i then _ else _) = _
            rw [if_neg cf]
          rw [efl]; exact B'
    match b, B, hq, loop with
    | none, B, hq, loop =>
      rw [B.1 rfl]
      exact ⟨fun _ => ⟨fun _ => loop rfl, fun e => absurd (by omega) e⟩, fun e => absurd rfl e⟩
    | some p, B, hq, loop =>
      obtain ⟨b1, b2, b3⟩ := B.2 p rfl
      rw [b1, b3]
      refine ⟨fun e => absurd e b2, fun _ => ⟨fun e => ⟨fun _ => loop (decide_eq_false (by omega)), fun e => absurd (by omega) e⟩, fun e => ?_⟩⟩
      rw [if_pos (show pru (some p) (tcH h) = true from decide_eq_true (by omega))] at hq
      exact hq M Fr.rf T hm2 B
end OC
/-- order: whether all are flowers, and the answer -/
abbrev allF (h x : Mem) (s : Int) : Prop := (1 ≤ x 4 s.toNat ∧ x 4 s.toNat ≤ 6) ∧ ∀ i, i < (x 4 s.toNat).toNat → 0 ≤ x (5 + s.toNat) i ∧ x (5 + s.toNat) i < h 0 3
def orS (τ : Int → Int → (Nat → Int) → Int) (h x : Mem) (s : Int) : BO := mS τ (x (5 + s.toNat)) (x 4 s.toNat).toNat (x 4 s.toNat).toNat 0 0 h none
def orR (τ : Int → Int → (Nat → Int) → Int) (h x : Mem) (s w : Int) : Int := if okN s ∧ 0 ≤ w ∧ w ≤ 1 then (if x 3 s.toNat = -1 then -11 else if allF h x s then (if w = 0 then ((orS τ h x s).getD (0, 0)).2 else ((orS τ h x s).getD (0, 0)).1) else -2) else -2
theorem ucS_full : ∀ m, m < 7 → ucS 0 m = (m : Nat) := by decide +kernel
section OX
variable {n : Nat} {τ : Int → Int → (Nat → Int) → Int} {h x M : Mem} {Q : Int → Mem → Prop} {s : Int}
theorem fld_some {f : BO → Nat → BO} (hf : ∀ p i, ∃ q, f (some p) i = some q) : ∀ (n : Nat) (p : Int × Int), ∃ q, fld f n (some p) = some q
  | 0, p => ⟨p, rfl⟩
  | n + 1, p => by
    obtain ⟨q, hq⟩ := fld_some hf n p
    unfold fld; rw [hq]; exact hf q n
theorem mS_ss {F : Nat → Int} {m : Nat} : ∀ (k u : Nat) (g : Int) (h : Mem) (p : Int × Int), ∃ q, mS τ F m k u g h (some p) = some q
  | 0, u, g, h, p => by
    unfold mS; rw [btr_s]; split
    · exact ⟨_, rfl⟩
    · exact ⟨_, rfl⟩
  | k + 1, u, g, h, p => by
    unfold mS
    apply fld_some
    intro p i
    show ∃ q, (if ubF (u : Int) (i : Int) then mS τ F m k (u1 u i) (10 * g + i + 1) (stp τ h (F i)) (some p) else some p) = some q
    split
    · exact mS_ss k _ _ _ p
    · exact ⟨p, rfl⟩
/-- with a free place for each step there is an answer -/
theorem mS_sn {F : Nat → Int} {m : Nat} (hm : m ≤ 6) : ∀ (k u : Nat) (g : Int) (h : Mem), u < 64 → ucS (u : Int) m = k → ∃ q, mS τ F m k u g h none = some q
  | 0, u, g, h, hu, hc => ⟨_, rfl⟩
  | k + 1, u, g, h, hu, hc => by
    unfold mS
    have key : ∀ i, i ≤ m → (∃ q, fld (fun b i => if ubF (u : Int) (i : Int) then mS τ F m k (u1 u i) (10 * g + i + 1) (stp τ h (F i)) b else b) i none = some q) ∨ (ucS (u : Int) i = 0 ∧ fld (fun b i => if ubF (u : Int) (i : Int) then mS τ F m k (u1 u i) (10 * g + i + 1) (stp τ h (F i)) b else b) i none = none) := by
      intro i
      induction i with
      | zero => intro _; exact Or.inr ⟨rfl, rfl⟩
      | succ i ih =>
        intro hi
        have e1 : ucS (u : Int) (i + 1) = ucS (u : Int) i + (if ubF (u : Int) (i : Int) then 1 else 0) := rfl
        rcases ih (by omega) with ⟨q, hq⟩ | ⟨q1, q2⟩
        · refine Or.inl ?_
          unfold fld; rw [hq]
          show ∃ q', (if ubF (u : Int) (i : Int) then mS τ F m k (u1 u i) (10 * g + i + 1) (stp τ h (F i)) (some q) else some q) = some q'
          split
          · exact mS_ss k _ _ _ q
          · exact ⟨q, rfl⟩
        · by_cases cu : ubF (u : Int) (i : Int)
          · refine Or.inl ?_
            unfold fld; rw [q2]
            show ∃ q', (if ubF (u : Int) (i : Int) then mS τ F m k (u1 u i) (10 * g + i + 1) (stp τ h (F i)) none else none) = some q'
            rw [if_pos cu]
            have uu := u1_ok hu (show i < 6 by omega)
            refine mS_sn hm k _ _ _ uu.1 ?_
            have := ucS_s hu (show i < 6 by omega) cu m hm
            rw [if_pos (by omega), ← uu.2.1] at this
            omega
          · refine Or.inr ⟨by rw [e1, if_neg cu]; omega, ?_⟩
            unfold fld; rw [q2]
            show (if ubF (u : Int) (i : Int) then mS τ F m k (u1 u i) (10 * g + i + 1) (stp τ h (F i)) none else none) = none
            rw [if_neg cu]
    rcases key m (Nat.le_refl _) with q | ⟨q1, -⟩
    · exact q
    · omega
theorem x_order {w : Int} (Hh : Hd h M) (Wh : Wf h) (TT : TC τ M) (hr : 0 ≤ h 0 2 ∧ h 0 2 < M 17 0) (H : Shc x M) (W : WS x) (hq : ∀ M', Fr sC M M' → Q (orR τ h x s w) M') : Con (n + 20) md_X9_order [vR 0, vI s, vI w] M Q := g_X9_order (by
  intro K hK
  unfold B_X9_order
  have hq0 := hq M Fr.rf
  unfold orR at hq hq0
  refine c_isNumber ?_
  by_cases cs : okN s
  · have cs' : 0 ≤ s ∧ s < 4 := cs
    rw [if_pos cs']
    refine ⟨fun e => by omega, fun _ => ⟨fun e => by rw [if_neg (fun q => by omega)] at hq0; exact hq0, fun w0 => ⟨fun w1 => c_isMissing H cs' ?_, fun e => by rw [if_neg (fun q => by omega)] at hq0; exact hq0⟩⟩⟩
    rw [if_pos ⟨cs, by omega, w1⟩] at hq hq0
    by_cases cm : x 3 s.toNat = -1
    · rw [if_pos cm] at hq0 ⊢; exact ⟨fun e => by omega, fun _ => hq0⟩
    · rw [if_neg cm] at hq hq0 ⊢
      have hS := (H s.toNat (by omega)).2 cm
      have hb := (W s.toNat (by omega)).2 cm
      rw [hS.1]
      refine ⟨fun _ => ⟨cs', fun e => by rw [if_neg (fun q => by have := q.1; omega)] at hq0; exact hq0, fun l1 => ⟨fun l6 => ?_, fun e => by rw [if_neg (fun q => by have := q.1; omega)] at hq0; exact hq0⟩⟩, fun e => absurd rfl e⟩
      obtain ⟨m, hm⟩ : ∃ m : Nat, (m : Int) = x 4 s.toNat := ⟨(x 4 s.toNat).toNat, by omega⟩
      have hmN : (x 4 s.toNat).toNat = m := by omega
      rw [← hm]
      refine loopUp (P := fun i => (∀ j, j < i → 0 ≤ x (5 + s.toNat) j ∧ x (5 + s.toNat) j < h 0 3) → K (m : Int) (i : Int) M) m (fun hp => hK _ _ _ ?_) (fun i hi ih hp => hK _ _ _ ?_) 0 (Nat.zero_le _) (fun j hj => by omega)
      · unfold B_X9_order_60
        refine ⟨fun _ => c_Tstart Hh Wh (fun M2 F2 T2 => ⟨cs', g_X3_start (gri_46 cs') (fun K17 h17 => ?_)⟩), fun e => absurd (Int.le_refl _) e⟩
        have F02 : Fr sC M M2 := F2.mono (by decide)
        unfold B_X3_start
        refine c_min (c_min (fun M7 e7 => ?_))
        rw [show min (min (m : Int) 40) 6 = m by omega] at e7
        have F07 : Fr sC M M7 := by rw [e7]; exact F02.up (by decide)
        have T7 : Tr h M7 := T2.fr (S := [41]) (by rw [e7]; exact Fr.rf.up (by decide)) (by decide) (by decide) (by decide)
        have rowE : ∀ i : Nat, i < m → M7 (47 + s.toNat) i = x (5 + s.toNat) i := fun i hi => by
          rw [F07 (47 + s.toNat) i (by simp [sC]; omega)]; exact hS.2 i (by omega)
        refine loopUp (P := fun i => ∀ M', Fr sC M M' → Tr h M' → M' 41 2 = m → (∀ j : Nat, j < m → M' (47 + s.toNat) j = x (5 + s.toNat) j) → (∀ j, j < i → M' 42 j = x (5 + s.toNat) j) → K17 (i : Int) M') m (fun M' F' T' m' r' q' => h17 _ _ ?_) (fun i hi ih M' F' T' m' r' q' => h17 _ _ ?_) 0 (Nat.zero_le _) M7 F07 T7 (by rw [e7, up_same]) rowE (fun j hj => by omega)
        · unfold B_X3_start_17
          rw [m']
          refine ⟨fun _ M1 e1 => ?_, fun e => absurd (Int.le_refl _) e⟩
          have F1 : Fr [41] M' M1 := by rw [e1]; exact Fr.rf.up (by decide)
          have F01 : Fr sC M M1 := F'.tr (F1.mono (by decide))
          have aF : allF h x s := ⟨by omega, fun i hi => hp i (by omega)⟩
          rw [if_pos aF] at hq
          rw [show n + 19 = 2 * m + (n + 13 - 2 * m) + 6 by omega]
          refine c_search (F := x (5 + s.toNat)) (m := m) (by omega) Wh hp m (n + 13 - 2 * m) 0 0 0 h M1 none _ (by omega) (by decide) (by decide) (Hh.fr F01 sC7) Ext.rf Wh (TT.fr F01 sC31) (by rw [F01 17 0 (by decide)]; exact hr) (T'.fr F1 (by decide) (by decide) (by decide)) (by rw [e1, up_ne (by omega)]; exact m') (fun i hi => by rw [F1 42 i (by decide)]; exact q' i hi) ⟨fun _ => by rw [e1, up_same], fun p c => by cases c⟩ (fun M5 F5 T5 m5 B5 => ?_)
          rw [cS_eq (by omega) m 0 0 h none (by decide) (by have := Wh.2.2.2.1; omega)] at B5
          have hq := hq M5 (F01.tr (F5.mono (by decide)))
          unfold orS at hq
          rw [hmN] at hq
          obtain ⟨p, hp'⟩ := mS_sn (τ := τ) (F := x (5 + s.toNat)) (m := m) (by omega) m 0 0 h (by decide) (ucS_full m (by omega))
          rw [hp'] at hq B5
          obtain ⟨b1, b2, b3⟩ := B5.2 p rfl
          rw [b1, b3]
          refine ⟨fun e => by rw [if_pos e] at hq; exact hq, fun e => by rw [if_neg e] at hq; exact hq⟩
        · unfold B_X3_start_17
          rw [m', w32_id (by omega), show (i : Int).toNat = i from rfl, r' i hi]
          refine ⟨fun e => by omega, fun _ => ⟨by omega, by omega, fun M2 e2 => ?_⟩⟩
          have F2' : Fr [42] M' M2 := by rw [e2]; exact Fr.rf.up (by decide)
          refine ih M2 (F'.tr (F2'.mono (by decide))) (T'.fr F2' (by decide) (by decide) (by decide)) (by rw [F2' 41 2 (by decide)]; exact m') (fun j hj => by rw [F2' (47 + s.toNat) j (by simp; omega)]; exact r' j hj) (fun j hj => ?_)
          by_cases c : j = i
          · subst c; rw [e2, up_same]
          · rw [e2, up_ne (by omega)]; exact q' j (by omega)
      · unfold B_X9_order_60
        refine ⟨fun e => by omega, fun _ => c_itemAt H W cs' cm (by omega) (c_hasFlower ?_)⟩
        rw [Hh.2.2.2.1, show (i : Int).toNat = i from rfl, w32_id (by omega)]
        by_cases c : 0 ≤ x (5 + s.toNat) i ∧ x (5 + s.toNat) i < h 0 3
        · rw [if_pos c]
          refine ⟨fun e => by omega, fun _ => ih (fun j hj => ?_)⟩
          by_cases e : j = i
          · subst e; exact c
          · exact hp j (by omega)
        · rw [if_neg c]
          rw [if_neg (fun q => c (q.2 i (by omega)))] at hq0
          exact ⟨fun _ => hq0, fun e => absurd rfl e⟩
  · have cs' : ¬ (0 ≤ s ∧ s < 4) := cs
    rw [if_neg cs']
    rw [if_neg (fun q => cs q.1)] at hq0
    exact ⟨fun _ => hq0, fun e => absurd rfl e⟩)
end OX
