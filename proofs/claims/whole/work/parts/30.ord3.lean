/-! ORDERS: THE MODEL -/
section OM
variable {τ : Int → Int → (Nat → Int) → Int} {x h0 : Mem} {s : Int} {m : Nat}
theorem mm_seeks (hm : 1 ≤ m ∧ m ≤ 6) (cs : okN s) (cm : x 3 s.toNat ≠ -1) (hmx : (m : Int) = x 4 s.toNat) (hFl : ∀ i, i < m → 0 ≤ x (5 + s.toNat) i ∧ x (5 + s.toNat) i < h0 0 3) : ∀ (k n u d : Nat) (g : Int) (h M : Mem) (b : BO) (Q : Int → Mem → Prop), d + k = m → u < 2 ^ m → ucS (u : Int) m = k → (0 ≤ g ∧ g < pw d ∧ (1 ≤ d → 1 ≤ g)) → Hm h M → Ext h0 h → Wf h → RD τ M → (0 ≤ h0 0 2 ∧ h0 0 2 < M 51 3) → Shm x M → BM b M → (∀ M', Fp sH M M' → Hm h M' → BM (mS τ (x (5 + s.toNat)) m k u g h b) M' → Q 0 M') → Con (k + n + 83) md_X10_seeks [vR 51, vI s, vI (u : Int), vI g] M Q := by
  intro k
  have cs' : 0 ≤ s ∧ s < 4 := cs
  induction k with
  | zero =>
    intro n u d g h M b Q hd hu hc hg H E W R hr HS B hq
    obtain ⟨r1, r2, r3, r4⟩ := HS.at cs cm
    rw [show 0 + n + 83 = (n + 82) + 1 by omega]
    refine g_X10_seeks (fun K hK => ?_)
    unfold B_X10_seeks
    unfold mS at hq
    have fu := (fullU m (by omega) u hu).1 hc
    rw [r3, ← hmx]
    refine ⟨cs', fun _ => mm_touching1 H W ?_, fun e => absurd fu e⟩
    have leaf : ∀ M5, M5 = up M 51 31 g → ∀ M6, M6 = up M5 51 30 (tcH h) → Fp sH M M6 ∧ Hm h M6 ∧ BM (some (g, tcH h)) M6 := fun M5 e5 M6 e6 => by
      have F6 : Fp (fun o k => o = 51 ∧ 30 ≤ k ∧ k ≤ 31) M M6 := by rw [e6, e5]; exact (Fp.rf.up (by omega)).up (by omega)
      refine ⟨F6.mono (fun o k q => by unfold sH; omega), H.fr F6 (fun k q => by omega) (fun o k q1 q2 q => by omega), ⟨fun c => (by cases c), fun p c => ?_⟩⟩
      cases c
      exact ⟨by rw [e6, up_ne (by omega), e5, up_same], by show g ≠ 0; omega, by rw [e6, up_same]⟩
    match b, B, hq with
    | none, B, hq =>
      rw [B.1 rfl]
      refine ⟨fun _ M5 e5 M6 e6 => ?_, fun e => absurd rfl e⟩
      obtain ⟨l1, l2, l3⟩ := leaf M5 e5 M6 e6
      exact hq M6 l1 l2 l3
    | some p, B, hq =>
      obtain ⟨b1, b2, b3⟩ := B.2 p rfl
      rw [b1, b3]
      rw [btr_s] at hq
      refine ⟨fun e => absurd e b2, fun _ => ⟨fun e => ?_, fun e M5 e5 M6 e6 => ?_⟩⟩
      · rw [if_neg (by omega)] at hq; exact hq M Fp.rf H B
      · obtain ⟨l1, l2, l3⟩ := leaf M5 e5 M6 e6
        rw [if_pos (by omega)] at hq; exact hq M6 l1 l2 l3
  | succ k ih =>
    intro n u d g h M b Q hd hu hc hg H E W R hr HS B hq
    obtain ⟨r1, r2, r3, r4⟩ := HS.at cs cm
    have l64 := lt64 m (by omega)
    rw [show k + 1 + n + 83 = (k + n + 83) + 1 by omega]
    refine g_X10_seeks (fun K hK => ?_)
    unfold B_X10_seeks
    unfold mS at hq
    have pb := pw_b d (by omega)
    have fu : ¬ (u : Int) = w32 (sh_l 1 (m : Int) - 1) := fun e => by have := (fullU m (by omega) u hu).2 e; omega
    rw [r3, ← hmx]
    refine ⟨cs', fun e => absurd e fu, fun _ => ?_⟩
    refine loopUp (P := fun i => ∀ M', Fp sH M M' → Hm h M' → BM (fld (fun b i => if ubF (u : Int) (i : Int) then mS τ (x (5 + s.toNat)) m k (u1 u i) (10 * g + i + 1) (stp τ h (x (5 + s.toNat) i)) b else b) i b) M' → K (i : Int) M') m (fun M' F' H' B' => hK _ _ ?_) (fun i hi ihi M' F' H' B' => hK _ _ ?_) 0 (Nat.zero_le _) M Fp.rf H B
    · unfold B_X10_seeks_52
      obtain ⟨p1, p2, p3, p4⟩ := (HS.fr F' sHS).at cs cm
      rw [p3, ← hmx]
      exact ⟨cs', fun _ => hq M' F' H' B', fun e => absurd (Int.le_refl _) e⟩
    · unfold B_X10_seeks_52
      have HS' := HS.fr F' sHS
      obtain ⟨p1, p2, p3, p4⟩ := HS'.at cs cm
      rw [p3, ← hmx, w32_id (x := (i : Int) + 1) (by omega), w32_id (x := 40 * s) (by omega), w32_id (x := 40 * s + (i : Int)) (by omega), p4 (i : Int) (by omega) (by omega), show (i : Int).toNat = i from rfl, w32_id (x := 10 * g) (by omega), w32_id (x := 10 * g + (i : Int)) (by omega), w32_id (x := 10 * g + (i : Int) + 1) (by omega)]
      have uu := u1_ok (show u < 64 by omega) (show i < 6 by omega)
      rw [← uu.2.1]
      have hf := hFl i hi
      have hfh : 0 ≤ x (5 + s.toNat) i ∧ x (5 + s.toNat) i < h 0 3 := by rw [E.1 3 (by decide)]; exact hf
      have pb1 : pw (d + 1) = 10 * pw d := rfl
      show _ ∧ _ ∧ (_ → (ubF (u : Int) (i : Int) → _) ∧ (¬ ubF (u : Int) (i : Int) → _))
      refine ⟨cs', fun e => by omega, fun _ => ⟨fun cu => ⟨by omega, mm_canLay H' W hfh ?_⟩, fun cu => ihi M' F' H' ?_⟩⟩
      · have hcu := ucS_s (show u < 64 by omega) (show i < 6 by omega) cu m (by omega)
        rw [if_pos hi, ← uu.2.1] at hcu
        have efl : fld (fun b i => if ubF (u : Int) (i : Int) then mS τ (x (5 + s.toNat)) m k (u1 u i) (10 * g + i + 1) (stp τ h (x (5 + s.toNat) i)) b else b) (i + 1) b = mS τ (x (5 + s.toNat)) m k (u1 u i) (10 * g + i + 1) (stp τ h (x (5 + s.toNat) i)) (fld (fun b i => if ubF (u : Int) (i : Int) then mS τ (x (5 + s.toNat)) m k (u1 u i) (10 * g + i + 1) (stp τ h (x (5 + s.toNat) i)) b else b) i b) := by
          show (if ubF (u : Int) (i : Int) then _ else _) = _
          rw [if_pos cu]
        by_cases cc : caH h (x (5 + s.toNat) i)
        · rw [if_pos cc]
          have es : stp τ h (x (5 + s.toNat) i) = puH τ h (x (5 + s.toNat) i) := if_pos cc
          rw [es] at efl
          rw [show k + n + 83 = (k + n + 1) + 82 by omega]
          refine ⟨fun e => by omega, fun _ => mm_puts H' W (R.fr F' sH3) (by rw [F' 51 3 (by unfold sH; omega), E.1 2 (by decide)]; exact hr) hfh cc (fun M8 F8 H8 => ?_)⟩
          have F08 := F'.tr F8.P
          rw [show (k + n + 1) + 82 = k + n + 83 by omega]
          refine ih n (u1 u i) (d + 1) (10 * g + (i : Int) + 1) _ M8 _ _ (by omega) (u1_lt m (by omega) u hu i hi) (by omega) (by omega) H8 (adH_ext E) (puH_wf W hfh cc) (R.fr F08 sH3) (by rw [F08 51 3 (by unfold sH; omega)]; exact hr) (HS.fr F08 sHS) ⟨fun c => (F8 51 31 (by unfold sP sL; omega)).trans (B'.1 c), fun p c => by rw [F8 51 31 (by unfold sP sL; omega), F8 51 30 (by unfold sP sL; omega)]; exact B'.2 p c⟩ (fun M10 F10 H10 B10 => ⟨fun e => by omega, fun _ => ?_⟩)
          refine mm_takesOff H10 W hfh cc (fun M12 F12 H12 => ihi M12 (F08.tr (F10.tr F12.P)) H12 ?_)
          rw [efl]
          exact ⟨fun c => (F12 51 31 (by unfold sP sL; omega)).trans (B10.1 c), fun p c => by rw [F12 51 31 (by unfold sP sL; omega), F12 51 30 (by unfold sP sL; omega)]; exact B10.2 p c⟩
        · rw [if_neg cc]
          have es : stp τ h (x (5 + s.toNat) i) = h := if_neg cc
          rw [es] at efl
          refine ⟨fun _ => ?_, fun e => absurd rfl e⟩
          refine ih n (u1 u i) (d + 1) (10 * g + (i : Int) + 1) h M' _ _ (by omega) (u1_lt m (by omega) u hu i hi) (by omega) (by omega) H' E W (R.fr F' sH3) (by rw [F' 51 3 (by unfold sH; omega)]; exact hr) HS' B' (fun M10 F10 H10 B10 => ⟨fun _ => ihi M10 (F'.tr F10) H10 (by rw [efl]; exact B10), fun e => absurd rfl e⟩)
      · have efl : fld (fun b i => if ubF (u : Int) (i : Int) then mS τ (x (5 + s.toNat)) m k (u1 u i) (10 * g + i + 1) (stp τ h (x (5 + s.toNat) i)) b else b) (i + 1) b = fld (fun b i => if ubF (u : Int) (i : Int) then mS τ (x (5 + s.toNat)) m k (u1 u i) (10 * g + i + 1) (stp τ h (x (5 + s.toNat) i)) b else b) i b := by
          show (if ubF (u : Int) (i : Int) then _ else _) = _
          rw [if_neg cu]
        rw [efl]; exact B'
theorem mm_order {n : Nat} {h M : Mem} {Q : Int → Mem → Prop} {w : Int} (H : Hm h M) (W : Wf h) (R : RD τ M) (hr : 0 ≤ h 0 2 ∧ h 0 2 < M 51 3) (HS : Shm x M) (WW : WS x) (hq : ∀ M', Fp sH M M' → Hm h M' → Q (orR τ h x s w) M') : Con (n + 90) md_X10_order [vR 51, vI s, vI w] M Q := g_X10_order (by
  unfold B_X10_order
  have hq0 := hq M Fp.rf H
  unfold orR at hq hq0
  refine mm_isSheet ?_
  by_cases cs : okN s
  · have cs' : 0 ≤ s ∧ s < 4 := cs
    rw [if_pos cs]
    refine ⟨fun e => by omega, fun _ => c_in ?_⟩
    by_cases cw : 0 ≤ w ∧ w ≤ 1
    · rw [if_pos cw]
      rw [if_pos ⟨cs, cw⟩] at hq hq0
      refine ⟨fun e => by omega, fun _ => ⟨cs', ?_⟩⟩
      by_cases cm : x 3 s.toNat = -1
      · rw [HS.no cs cm]; rw [if_pos cm] at hq0; exact ⟨fun _ => hq0, fun e => absurd rfl e⟩
      · obtain ⟨r1, r2, r3, r4⟩ := HS.at cs cm
        have hb := (WW s.toNat (by omega)).2 cm
        rw [if_neg cm] at hq hq0
        rw [r1]
        refine ⟨fun e => by omega, fun _ => g_X10_isOrder (fun K hK => ?_)⟩
        unfold B_X10_isOrder
        rw [r3]
        refine ⟨cs', c_in ?_⟩
        by_cases c16 : 1 ≤ x 4 s.toNat ∧ x 4 s.toNat ≤ 6
        · rw [if_pos c16]
          refine ⟨fun e => by omega, fun _ => ?_⟩
          obtain ⟨m, hm⟩ : ∃ m : Nat, (m : Int) = x 4 s.toNat := ⟨(x 4 s.toNat).toNat, by omega⟩
          have hmN : (x 4 s.toNat).toNat = m := by omega
          refine loopUp (P := fun i => (∀ j, j < i → 0 ≤ x (5 + s.toNat) j ∧ x (5 + s.toNat) j < h 0 3) → K (i : Int) M) m (fun hp => hK _ _ ?_) (fun i hi ih hp => hK _ _ ?_) 0 (Nat.zero_le _) (fun j hj => by omega)
          · unfold B_X10_isOrder_21
            rw [r3, ← hm]
            refine ⟨cs', fun _ => ⟨fun e => by omega, fun _ M7 e7 M8 e8 => ?_⟩, fun e => absurd (Int.le_refl _) e⟩
            have F8 : Fp (fun o k => o = 51 ∧ 30 ≤ k ∧ k ≤ 31) M M8 := by rw [e8, e7]; exact (Fp.rf.up (by omega)).up (by omega)
            have F8H : Fp sH M M8 := F8.mono (fun o k q => by unfold sH; omega)
            have H8 : Hm h M8 := H.fr F8 (fun k q => by omega) (fun o k q1 q2 q => by omega)
            have aF : allF h x s := ⟨by omega, fun i hi => hp i (by omega)⟩
            rw [if_pos aF] at hq
            rw [show n + 89 = m + (n + 6 - m) + 83 by omega]
            refine mm_seeks (m := m) (by omega) cs cm hm hp m (n + 6 - m) 0 0 0 h M8 none _ (by omega) (Nat.two_pow_pos m) (ucS_full m (by omega)) (by decide) H8 Ext.rf W (R.fr F8H sH3) (by rw [F8H 51 3 (by unfold sH; omega)]; exact hr) (HS.fr F8H sHS) ⟨fun _ => by rw [e8, up_ne (by omega), e7, up_same], fun p c => (by cases c)⟩ (fun M10 F10 H10 B10 => ?_)
            have hq := hq M10 (F8H.tr F10) H10
            unfold orS at hq
            rw [hmN] at hq
            obtain ⟨p, hp'⟩ := mS_sn (τ := τ) (F := x (5 + s.toNat)) (m := m) (by omega) m 0 0 h (by decide) (ucS_full m (by omega))
            rw [hp'] at hq B10
            obtain ⟨b1, b2, b3⟩ := B10.2 p rfl
            rw [b1, b3]
            exact ⟨fun e => by rw [if_pos e] at hq; exact hq, fun e => by rw [if_neg e] at hq; exact hq⟩
          · unfold B_X10_isOrder_21
            rw [r3, ← hm, w32_id (x := 40 * s) (by omega), w32_id (x := 40 * s + (i : Int)) (by omega), r4 (i : Int) (by omega) (by omega), show (i : Int).toNat = i from rfl, w32_id (x := (i : Int) + 1) (by omega)]
            refine ⟨cs', fun e => by omega, fun _ => ⟨by omega, mm_isFlower H W ?_⟩⟩
            by_cases c : 0 ≤ x (5 + s.toNat) i ∧ x (5 + s.toNat) i < h 0 3
            · rw [if_pos c]
              refine ⟨fun e => by omega, fun _ => ih (fun j hj => ?_)⟩
              by_cases e : j = i
              · subst e; exact c
              · exact hp j (by omega)
            · rw [if_neg c]
              rw [if_neg (fun q => c (q.2 i (by omega)))] at hq0
              exact ⟨fun _ => ⟨fun _ => hq0, fun e => absurd rfl e⟩, fun e => absurd rfl e⟩
        · rw [if_neg c16]
          rw [if_neg (fun q => c16 q.1)] at hq0
          exact ⟨fun _ => ⟨fun _ => hq0, fun e => absurd rfl e⟩, fun e => absurd rfl e⟩
    · rw [if_neg cw]
      rw [if_neg (fun q => cw q.2)] at hq0
      exact ⟨fun _ => hq0, fun e => absurd rfl e⟩
  · rw [if_neg cs]
    rw [if_neg (fun q => cs q.1)] at hq0
    exact ⟨fun _ => hq0, fun e => absurd rfl e⟩)
end OM
