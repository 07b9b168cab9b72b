/-! THE PROGRAM'S CALLS: bunch, good, next, howMany, worst, drawn -/
theorem sm_ite1 {g : Nat → Int} {a : Nat} : ∀ m : Nat, a < m → sm (fun f => g f * (if (a : Int) = (f : Int) then 1 else 0)) m = g a
  | 0, h => by omega
  | m + 1, h => by
    unfold sm
    by_cases e : a = m
    · subst e
      rw [if_pos rfl, Int.mul_one]
      have : sm (fun f => g f * (if (a : Int) = (f : Int) then 1 else 0)) a = sm (fun _ => 0) a := sm_congr (fun f hf => by rw [if_neg (by omega), Int.mul_zero])
      rw [this, sm_zero]; omega
    · rw [sm_ite1 m (by omega), if_neg (by omega), Int.mul_zero, Int.add_zero]
/-- counted by flowers, or stem by stem -/
theorem sm_by {g : Nat → Int} {q : Nat → Int} {m : Nat} : ∀ k : Nat, (∀ s, s < k → 0 ≤ q s ∧ q s < m) → sm (fun f => g f * sm (fun s => if q s = (f : Int) then 1 else 0) k) m = sm (fun s => g (q s).toNat) k
  | 0, _ => by
    have : sm (fun f => g f * 0) m = sm (fun _ => 0) m := sm_congr (fun f _ => Int.mul_zero _)
    exact this.trans (sm_zero m)
  | k + 1, h => by
    have ih := sm_by (g := g) (q := q) (m := m) k (fun s hs => h s (by omega))
    have hk := h k (by omega)
    have e : sm (fun f => g f * sm (fun s => if q s = (f : Int) then 1 else 0) (k + 1)) m = sm (fun f => g f * sm (fun s => if q s = (f : Int) then 1 else 0) k + g f * (if ((q k).toNat : Int) = (f : Int) then 1 else 0)) m := sm_congr (fun f _ => by
      show g f * (sm (fun s => if q s = (f : Int) then 1 else 0) k + (if q k = (f : Int) then 1 else 0)) = _
      rw [Int.mul_add, show (((q k).toNat : Nat) : Int) = q k by omega])
    rw [e, sm_add, ih, sm_ite1 m (by omega)]
    rfl
section XQ
variable {n : Nat} {τ : Int → Int → (Nat → Int) → Int} {h M : Mem} {Q : Int → Mem → Prop}
def quH (h : Mem) (q : Int) : Int := sm (fun s => if h 6 s / 4 = q then 1 else 0) (h 0 8).toNat
def ccH (h : Mem) (c : Int) : Int := sm (fun s => if coS h s = c then 1 else 0) (h 0 8).toNat
def evnH (h : Mem) : Int := max (max (max (max 0 (quH h 0)) (quH h 1)) (quH h 2)) (quH h 3) - min (min (min (min 40 (quH h 0)) (quH h 1)) (quH h 2)) (quH h 3)
def csH (τ : Int → Int → (Nat → Int) → Int) (h : Mem) : Int := sm (fun s => coH τ h (h 5 s)) (h 0 8).toNat
def goH (τ : Int → Int → (Nat → Int) → Int) (h : Mem) (d : Int) : Int := sm (fun s => if d ≤ lsH τ h (h 5 s) then 1 else 0) (h 0 8).toNat
theorem quH_b (W : Wf h) (q : Int) : 0 ≤ quH h q ∧ quH h q ≤ 40 := by
  have h8 := W.2.2.2.1
  have := sm01 (fun s => h 6 s / 4 = q) inferInstance (h 0 8).toNat
  unfold quH; omega
theorem c_touchingNow (H : Hd h M) (W : Wf h) (hq : ∀ M', Fr sC M M' → Q (tcH h) M') : Con (n + 5) md_X9_touchingNow [vR 0] M Q := g_X9_touchingNow (by
  unfold B_X9_touchingNow
  refine c_Tstart H W (fun M' hF T => ?_)
  rw [T.2.2.2.1]
  exact hq M' (hF.mono (by decide)))
theorem c_unevenness (H : Hd h M) (W : Wf h) (hq : Q (evnH h) M) : Con (n + 2) md_X9_unevenness [vR 0] M Q := g_X9_unevenness (by
  intro K hK
  unfold B_X9_unevenness
  have b0 := quH_b W 0
  have b1 := quH_b W 1
  have b2 := quH_b W 2
  have b3 := quH_b W 3
  have st : ∀ (x1 x2 : Int) (k : Nat), k < 4 → K (max x1 (quH h k)) (min x2 (quH h k)) ((k : Int) + 1) M → K x1 x2 (k : Int) M := fun x1 x2 k hk ih => hK _ _ _ _ (by
    unfold B_X9_unevenness_7
    exact ⟨fun e => by omega, fun _ => c_stemsInQuarter H W (c_max (c_min (by rw [w32_id (by omega)]; exact ih)))⟩)
  refine st 0 40 0 (by omega) (st _ _ 1 (by omega) (st _ _ 2 (by omega) (st _ _ 3 (by omega) (hK _ _ _ _ ?_))))
  unfold B_X9_unevenness_7
  refine ⟨fun _ => ?_, fun e => absurd (by decide) e⟩
  unfold evnH at hq
  rw [w32_id (by
    show -2147483648 ≤ max (max (max (max 0 (quH h 0)) (quH h 1)) (quH h 2)) (quH h 3) - min (min (min (min 40 (quH h 0)) (quH h 1)) (quH h 2)) (quH h 3) ∧ max (max (max (max 0 (quH h 0)) (quH h 1)) (quH h 2)) (quH h 3) - min (min (min (min 40 (quH h 0)) (quH h 1)) (quH h 2)) (quH h 3) ≤ 2147483647
    omega)]
  exact hq)
theorem coH_b (W : Wf h) {f : Int} (hf : 0 ≤ f ∧ f < h 0 3) : 0 ≤ coH τ h f ∧ coH τ h f ≤ 1998 := coV_b τ _ _ (W.2.2.2.2.1 _ (toN hf)).2.1.1
theorem cf_b (W : Wf h) : ∀ m : Nat, (m : Int) ≤ h 0 3 → 0 ≤ sm (fun f => coH τ h (f : Int) * sm (fun s => if h 5 s = (f : Int) then 1 else 0) (h 0 8).toNat) m ∧ sm (fun f => coH τ h (f : Int) * sm (fun s => if h 5 s = (f : Int) then 1 else 0) (h 0 8).toNat) m ≤ 79920 * m
  | 0, _ => by unfold sm; omega
  | m + 1, hm => by
    have h8 := W.2.2.2.1
    have h1 := cf_b W m (by omega)
    have h2 := coH_b (τ := τ) W (f := (m : Int)) (by omega)
    have h3 := sm01 (fun s => h 5 s = (m : Int)) inferInstance (h 0 8).toNat
    have h4 : 0 ≤ coH τ h (m : Int) * sm (fun s => if h 5 s = (m : Int) then 1 else 0) (h 0 8).toNat := Int.mul_nonneg h2.1 h3.1
    have h5 : coH τ h (m : Int) * sm (fun s => if h 5 s = (m : Int) then 1 else 0) (h 0 8).toNat ≤ 1998 * 40 := Int.mul_le_mul h2.2 (by omega) h3.1 (by omega)
    unfold sm; omega
theorem c_costOfAll (H : Hd h M) (W : Wf h) (TT : TC τ M) (hr : 0 ≤ h 0 2 ∧ h 0 2 < M 17 0) (hq : ∀ M', Fr sC M M' → Q (csH τ h) M') : Con (n + 5) md_X9_costOfAll [vR 0] M Q := g_X9_costOfAll (by
  intro K hK
  unfold B_X9_costOfAll
  have h3 := W.2.2.1
  have h8 := W.2.2.2.1
  refine loopUp (P := fun m => ∀ M', Fr sC M M' → K (sm (fun f => coH τ h (f : Int) * sm (fun s => if h 5 s = (f : Int) then 1 else 0) (h 0 8).toNat) m) (m : Int) M') (h 0 3).toNat ?_ ?_ 0 (Nat.zero_le _) M Fr.rf
  · intro M' hF
    apply hK
    unfold B_X9_costOfAll_4
    rw [(H.fr hF sC7).2.2.2.1]
    refine ⟨fun _ => ?_, fun e => absurd (show h 0 3 ≤ (((h 0 3).toNat : Nat) : Int) by omega) e⟩
    rw [sm_by (h 0 8).toNat (fun s hs => by have := (W.2.2.2.2.2 s (by omega)).1; omega)]
    have e : sm (fun s => coH τ h (((h 5 s).toNat : Nat) : Int)) (h 0 8).toNat = csH τ h := sm_congr (fun s hs => by rw [show (((h 5 s).toNat : Nat) : Int) = h 5 s by have := (W.2.2.2.2.2 s (by omega)).1; omega])
    rw [e]; exact hq M' hF
  · intro m hm ih M' hF
    apply hK
    unfold B_X9_costOfAll_4
    have H' := H.fr hF sC7
    have hw := W.2.2.2.2.1 m (by omega)
    have hmf : 0 ≤ (m : Int) ∧ (m : Int) < h 0 3 := by omega
    rw [H'.2.2.2.1]
    refine ⟨fun e => by omega, fun _ => c_asNow H' W hmf (fun M2 hF2 hM2 => ?_)⟩
    have hF02 : Fr sC M M2 := hF.tr (hF2.mono (by decide))
    refine c_Mcosts (TT.fr hF02 sC31) hM2 (by rw [hF02 17 0 (by decide)]; exact hr) hw.1 hw.2.1 (fun M4 hF4 => ?_)
    have hF04 : Fr sC M M4 := hF02.tr (hF4.mono (by decide))
    refine c_stemsOf (H.fr hF04 sC7) W ?_
    have b1 := cf_b (τ := τ) W m (by omega)
    have b2 := cf_b (τ := τ) W (m + 1) (by omega)
    have b4 := coH_b (τ := τ) W hmf
    have b5 := sm01 (fun s => h 5 s = (m : Int)) inferInstance (h 0 8).toNat
    have b6 : 0 ≤ coH τ h (m : Int) * sm (fun s => if h 5 s = (m : Int) then 1 else 0) (h 0 8).toNat := Int.mul_nonneg b4.1 b5.1
    have b7 : coH τ h (m : Int) * sm (fun s => if h 5 s = (m : Int) then 1 else 0) (h 0 8).toNat ≤ 1998 * 40 := Int.mul_le_mul b4.2 (by omega) b5.1 (by omega)
    have := ih M4 hF04
    rw [w32_id (x := (m : Int) + 1) (by omega)]
    show K (w32 (_ + w32 (coH τ h (m : Int) * sm (fun s => if h 5 s = (m : Int) then 1 else 0) (h 0 8).toNat))) _ _
    rw [w32_id (x := coH τ h (m : Int) * _) (by omega), w32_id (by omega)]
    exact this)
def buR (τ : Int → Int → (Nat → Int) → Int) (h : Mem) (w : Int) : Int := if 4 ≤ w ∧ w < 8 then quH h (w - 4) else if 10 ≤ w ∧ w < 15 then ccH h (w - 10) else if w = 0 then tcH h else if w = 1 then evnH h else if w = 2 then csH τ h else if w = 3 then rmH h else -100000
theorem x_bunch {w : Int} (H : Hd h M) (W : Wf h) (TT : TC τ M) (hr : 0 ≤ h 0 2 ∧ h 0 2 < M 17 0) (hq : ∀ M', Fr sC M M' → Q (buR τ h w) M') : Con (n + 6) md_X9_bunch [vR 0, vI w] M Q := g_X9_bunch (by
  unfold B_X9_bunch
  unfold buR at hq
  have sw : (¬ (4 ≤ w ∧ w < 8)) → (¬ (10 ≤ w ∧ w < 15)) → ((w < 0 ∨ 3 < w) → Q (-100000) M) ∧ ((w = 0) → Con (n + 5) md_X9_touchingNow [vR 0] M (fun r1 M2 => Q r1 M2)) ∧ ((w = 1) → Con (n + 5) md_X9_unevenness [vR 0] M (fun r3 M4 => Q r3 M4)) ∧ ((w = 2) → Con (n + 5) md_X9_costOfAll [vR 0] M (fun r5 M6 => Q r5 M6)) ∧ ((w = 3) → Con (n + 5) md_X0_roomLeft [vR 1] M (fun r7 M8 => Q r7 M8)) := fun a b => by
    rw [if_neg a, if_neg b] at hq
    refine ⟨fun e => ?_, fun e => c_touchingNow H W ?_, fun e => c_unevenness H W ?_, fun e => c_costOfAll H W TT hr ?_, fun e => c_roomLeft H W ?_⟩
    · rw [if_neg (by omega), if_neg (by omega), if_neg (by omega), if_neg (by omega)] at hq; exact hq M Fr.rf
    · rw [if_pos e] at hq; exact hq
    · rw [if_neg (by omega), if_pos e] at hq; exact hq M Fr.rf
    · rw [if_neg (by omega), if_neg (by omega), if_pos e] at hq; exact hq
    · rw [if_neg (by omega), if_neg (by omega), if_neg (by omega), if_pos e] at hq; exact hq M Fr.rf
  refine ⟨fun e => ⟨fun e1 => sw (by omega) (by omega), fun e1 => by omega⟩, fun e => ⟨fun e1 => ⟨fun e2 => sw (by omega) (by omega), fun e2 => ⟨fun e3 => sw (by omega) (by omega), fun e3 => c_stemsOfColour H W ?_⟩⟩, fun e1 => c_stemsInQuarter H W ?_⟩⟩
  · rw [if_neg (by omega), if_pos (by omega)] at hq; rw [w32_id (by omega)]; exact hq M Fr.rf
  · rw [if_pos (by omega)] at hq; rw [w32_id (by omega)]; exact hq M Fr.rf)
theorem gd_b (W : Wf h) (d : Int) : ∀ m : Nat, (m : Int) ≤ h 0 3 → 0 ≤ sm (fun f => (if d ≤ lsH τ h (f : Int) then 1 else 0) * sm (fun s => if h 5 s = (f : Int) then 1 else 0) (h 0 8).toNat) m ∧ sm (fun f => (if d ≤ lsH τ h (f : Int) then 1 else 0) * sm (fun s => if h 5 s = (f : Int) then 1 else 0) (h 0 8).toNat) m ≤ 40 * m
  | 0, _ => by unfold sm; omega
  | m + 1, hm => by
    have h8 := W.2.2.2.1
    have h1 := gd_b W d m (by omega)
    have h3 := sm01 (fun s => h 5 s = (m : Int)) inferInstance (h 0 8).toNat
    unfold sm
    split
    · rw [Int.one_mul]; omega
    · rw [Int.zero_mul]; omega
def gdR (τ : Int → Int → (Nat → Int) → Int) (h : Mem) (d : Int) : Int := if 0 ≤ d ∧ d ≤ 99 then goH τ h d else -2
theorem x_good {d : Int} (H : Hd h M) (W : Wf h) (TT : TC τ M) (hr : 0 ≤ h 0 2 ∧ h 0 2 < M 17 0) (hq : ∀ M', Fr sC M M' → Q (gdR τ h d) M') : Con (n + 5) md_X9_good [vR 0, vI d] M Q := g_X9_good (by
  intro K hK
  unfold B_X9_good
  unfold gdR at hq
  have h3 := W.2.2.1
  have h8 := W.2.2.2.1
  refine ⟨fun e => by rw [if_neg (by omega)] at hq; exact hq M Fr.rf, fun e => ⟨fun e1 => ?_, fun e1 => by rw [if_neg (by omega)] at hq; exact hq M Fr.rf⟩⟩
  rw [if_pos (by omega)] at hq
  refine loopUp (P := fun m => ∀ M', Fr sC M M' → K (sm (fun f => (if d ≤ lsH τ h (f : Int) then 1 else 0) * sm (fun s => if h 5 s = (f : Int) then 1 else 0) (h 0 8).toNat) m) (m : Int) M') (h 0 3).toNat ?_ ?_ 0 (Nat.zero_le _) M Fr.rf
  · intro M' hF
    apply hK
    unfold B_X9_good_17
    rw [(H.fr hF sC7).2.2.2.1]
    refine ⟨fun _ => ?_, fun e => absurd (show h 0 3 ≤ (((h 0 3).toNat : Nat) : Int) by omega) e⟩
    rw [sm_by (g := fun f => if d ≤ lsH τ h (f : Int) then 1 else 0) (h 0 8).toNat (fun s hs => by have := (W.2.2.2.2.2 s (by omega)).1; omega)]
    have e : sm (fun s => if d ≤ lsH τ h (((h 5 s).toNat : Nat) : Int) then 1 else 0) (h 0 8).toNat = goH τ h d := sm_congr (fun s hs => by rw [show (((h 5 s).toNat : Nat) : Int) = h 5 s by have := (W.2.2.2.2.2 s (by omega)).1; omega])
    rw [e]; exact hq M' hF
  · intro m hm ih M' hF
    apply hK
    unfold B_X9_good_17
    have H' := H.fr hF sC7
    have hw := W.2.2.2.2.1 m (by omega)
    have hmf : 0 ≤ (m : Int) ∧ (m : Int) < h 0 3 := by omega
    rw [H'.2.2.2.1]
    refine ⟨fun e => by omega, fun _ => c_asNow H' W hmf (fun M2 hF2 hM2 => ?_)⟩
    have hF02 : Fr sC M M2 := hF.tr (hF2.mono (by decide))
    refine c_Mlasts (TT.fr hF02 sC31) hM2 (by rw [hF02 17 0 (by decide)]; exact hr) hw.1 hw.2.1 (fun M4 hF4 => ?_)
    have hF04 : Fr sC M M4 := hF02.tr (hF4.mono (by decide))
    have b1 := gd_b (τ := τ) W d m (by omega)
    have b2 := gd_b (τ := τ) W d (m + 1) (by omega)
    have b5 := sm01 (fun s => h 5 s = (m : Int)) inferInstance (h 0 8).toNat
    have := ih M4 hF04
    unfold sm at this b2
    rw [w32_id (x := (m : Int) + 1) (by omega)]
    refine ⟨fun e2 => ?_, fun e2 => c_stemsOf (H.fr hF04 sC7) W ?_⟩
    · have e3 : ¬ d ≤ lsH τ h (m : Int) := by
        show ¬ d ≤ laV τ (h 0 2) (h 1 (m : Int).toNat) (evH h (m : Int))
        exact Int.not_le.mpr e2
      rw [if_neg e3, Int.zero_mul, Int.add_zero] at this
      exact this
    · have e3 : d ≤ lsH τ h (m : Int) := Int.not_lt.mp e2
      rw [if_pos e3, Int.one_mul] at this b2
      rw [w32_id (by omega)]
      exact this)
/-- the best next stem, among the first flowers -/
def nxS (τ : Int → Int → (Nat → Int) → Int) (h : Mem) : Nat → Int × Int
  | 0 => (-1, tcH h)
  | f + 1 => if caH h (f : Int) ∧ ((nxS τ h f).1 = -1 ∨ tcH (puH τ h (f : Int)) < (nxS τ h f).2) then ((f : Int), tcH (puH τ h (f : Int))) else nxS τ h f
def nxR (τ : Int → Int → (Nat → Int) → Int) (h : Mem) (w : Int) : Int := if 0 ≤ w ∧ w ≤ 1 then (if w = 0 then (nxS τ h (h 0 3).toNat).1 else (nxS τ h (h 0 3).toNat).2) else -2
theorem x_next {w : Int} (H : Hd h M) (W : Wf h) (TT : TC τ M) (hr : 0 ≤ h 0 2 ∧ h 0 2 < M 17 0) (hq : ∀ M', Fr sC M M' → Q (nxR τ h w) M') : Con (n + 6) md_X9_next [vR 0, vI w] M Q := g_X9_next (by
  intro K hK
  unfold B_X9_next
  unfold nxR at hq
  have h3 := W.2.2.1
  have h8 := W.2.2.2.1
  refine ⟨fun e => by rw [if_neg (by omega)] at hq; exact hq M Fr.rf, fun e => ⟨fun e1 => c_Tstart H W (fun M6 hF6 T6 => ?_), fun e1 => by rw [if_neg (by omega)] at hq; exact hq M Fr.rf⟩⟩
  rw [if_pos (by omega)] at hq
  rw [T6.2.2.2.1]
  refine loopUp (P := fun f => ∀ M', Fr sC M M' → Tr h M' → K (nxS τ h f).1 (nxS τ h f).2 (f : Int) M') (h 0 3).toNat ?_ ?_ 0 (Nat.zero_le _) M6 (hF6.mono (by decide)) T6
  · intro M' hF T
    apply hK
    unfold B_X9_next_32
    rw [(H.fr hF sC7).2.2.2.1]
    refine ⟨fun _ => ⟨fun e2 => by rw [if_pos e2] at hq; exact hq M' hF, fun e2 => by rw [if_neg e2] at hq; exact hq M' hF⟩, fun e => absurd (show h 0 3 ≤ (((h 0 3).toNat : Nat) : Int) by omega) e⟩
  · intro f hf ih M' hF T
    apply hK
    unfold B_X9_next_32
    have H' := H.fr hF sC7
    have hff : 0 ≤ (f : Int) ∧ (f : Int) < h 0 3 := by omega
    rw [H'.2.2.2.1, w32_id (x := (f : Int) + 1) (by omega)]
    refine ⟨fun e => by omega, fun _ => c_canBe H' W Ext.rf T hff ?_⟩
    by_cases hc : caH h (f : Int)
    · rw [if_pos hc]
      refine ⟨fun e => by omega, fun _ => c_touchingWith H' W Ext.rf W (TT.fr hF sC31) (by rw [hF 17 0 (by decide)]; exact hr) T hff (fun M4 hF4 => ?_)⟩
      have hF04 : Fr sC M M4 := hF.tr (hF4.mono (by decide))
      have := ih M4 hF04 (T.fr hF4 (by decide) (by decide) (by decide))
      have etc : tcH h + nbS h (h 0 8).toNat (h 3 (f : Int).toNat) (anH τ h (f : Int)) = tcH (puH τ h (f : Int)) := (adH_tc (by omega)).symm
      rw [etc]
      unfold nxS at this
      refine ⟨fun e2 => ?_, fun e2 => ⟨fun e3 => ?_, fun e3 => ?_⟩⟩
      · rw [if_pos ⟨hc, Or.inl e2⟩] at this; exact this
      · rw [if_neg (by rintro ⟨-, q | q⟩ <;> omega)] at this; exact this
      · rw [if_pos ⟨hc, Or.inr (by omega)⟩] at this; exact this
    · rw [if_neg hc]
      refine ⟨fun _ => ?_, fun e => absurd rfl e⟩
      have := ih M' hF T
      unfold nxS at this
      rw [if_neg (fun q => hc q.1)] at this
      exact this)
theorem puH_wf {f : Int} (W : Wf h) (hf : 0 ≤ f ∧ f < h 0 3) (hc : caH h f) : Wf (puH τ h f) := adH_wf W hf (anH_b τ h f) hc.1 hc.2.1
/-- how many of one go in -/
def hmF (τ : Int → Int → (Nat → Int) → Int) (f : Int) : Nat → Mem → Int
  | 0, _ => 0
  | k + 1, h => if caH h f then hmF τ f k (puH τ h f) + 1 else 0
def hmR (τ : Int → Int → (Nat → Int) → Int) (h : Mem) (f : Int) : Int := if 0 ≤ f ∧ f < h 0 3 then hmF τ f 40 h else -2
theorem x_howMany {f : Int} (H : Hd h M) (W : Wf h) (TT : TC τ M) (hr : 0 ≤ h 0 2 ∧ h 0 2 < M 17 0) (hq : ∀ M', Fr sC M M' → Q (hmR τ h f) M') : Con (n + 6) md_X9_howMany [vR 0, vI f] M Q := g_X9_howMany (by
  intro K hK
  unfold B_X9_howMany
  unfold hmR at hq
  have h3 := W.2.2.1
  have h8 := W.2.2.2.1
  refine c_hasFlower ?_
  rw [H.2.2.2.1]
  by_cases hf : 0 ≤ f ∧ f < h 0 3
  · rw [if_pos hf] at hq ⊢
    refine ⟨fun e => by omega, fun _ => c_Tstart H W (fun M8 hF8 T8 => ?_)⟩
    obtain ⟨R, hR⟩ : ∃ R, R = hmF τ f 40 h := ⟨_, rfl⟩
    rw [← hR] at hq
    have key : ∀ (k i : Nat) (g : Mem) (M' : Mem), i + k = 40 → Fr sC M M' → Ext h g → Wf g → Tr g M' → (i : Int) + hmF τ f k g = R → K (i : Int) (i : Int) M' := by
      intro k
      induction k with
      | zero =>
        intro i g M' hi hF E Wg T he
        apply hK
        unfold B_X9_howMany_25
        refine ⟨fun _ => ?_, fun e => by omega⟩
        unfold hmF at he
        rw [Int.add_zero] at he
        rw [he]; exact hq M' hF
      | succ k ih =>
        intro i g M' hi hF E Wg T he
        apply hK
        unfold B_X9_howMany_25
        have H' := H.fr hF sC7
        refine ⟨fun e => by omega, fun _ => c_canBe H' W E T hf ?_⟩
        unfold hmF at he
        by_cases hc : caH g f
        · rw [if_pos hc] at he ⊢
          have hfg : 0 ≤ f ∧ f < g 0 3 := by rw [E.1 3 (by decide)]; exact hf
          refine ⟨fun e => by omega, fun _ => c_put H' W E Wg (TT.fr hF sC31) (by rw [hF 17 0 (by decide)]; exact hr) T hf hc (fun M4 hF4 T4 => ?_)⟩
          rw [w32_id (by omega)]
          exact ih (i + 1) (puH τ g f) M4 (by omega) (hF.tr (hF4.mono (by decide))) (adH_ext E) (puH_wf Wg hfg hc) T4 (by omega)
        · rw [if_neg hc] at he ⊢
          rw [Int.add_zero] at he
          exact ⟨fun _ => by rw [he]; exact hq M' hF, fun e => absurd rfl e⟩
    exact key 40 0 h M8 (by omega) (hF8.mono (by decide)) Ext.rf W T8 (by rw [hR]; omega)
  · rw [if_neg hf] at hq ⊢
    exact ⟨fun _ => hq M Fr.rf, fun e => absurd rfl e⟩)
/-- in how many pairs a stem touches -/
def dgH (h : Mem) (s : Nat) : Int := nbS h (h 0 8).toNat (coS h s) (h 6 s) - 1
def woS (h : Mem) : Nat → Int × Int
  | 0 => (-1, 0)
  | s + 1 => if (woS h s).2 < dgH h s then ((s : Int), dgH h s) else woS h s
def woR (h : Mem) (w : Int) : Int := if 0 ≤ w ∧ w ≤ 1 then (if w = 0 then (woS h (h 0 8).toNat).1 else tcH h - (woS h (h 0 8).toNat).2) else -2
theorem woS_b (h : Mem) (h40 : h 0 8 ≤ 40) : ∀ s, 0 ≤ (woS h s).2 ∧ (woS h s).2 ≤ 120
  | 0 => by unfold woS; decide
  | s + 1 => by
    have h1 := woS_b h h40 s
    have h2 := nbS_b h (h 0 8).toNat (coS h s) (h 6 s)
    unfold woS
    split
    · rename_i c; unfold dgH at c ⊢; dsimp only; omega
    · exact h1
theorem x_worst {w : Int} (H : Hd h M) (W : Wf h) (hq : ∀ M', Fr sC M M' → Q (woR h w) M') : Con (n + 5) md_X9_worst [vR 0, vI w] M Q := g_X9_worst (by
  intro K hK
  unfold B_X9_worst
  unfold woR at hq
  have h8 := W.2.2.2.1
  refine ⟨fun e => by rw [if_neg (by omega)] at hq; exact hq M Fr.rf, fun e => ⟨fun e1 => c_Tstart H W (fun M6 hF6 T6 => ?_), fun e1 => by rw [if_neg (by omega)] at hq; exact hq M Fr.rf⟩⟩
  rw [if_pos (by omega)] at hq
  have hs6 : Fr sC M M6 := hF6.mono (by decide)
  refine loopUp (P := fun s => K (woS h s).1 (woS h s).2 (s : Int) M6) (h 0 8).toNat ?_ ?_ 0 (Nat.zero_le _)
  · apply hK
    unfold B_X9_worst_26
    rw [(H.fr hs6 sC7).2.2.2.2.1, T6.2.2.2.1]
    have b1 := tcH_b W
    have b2 := woS_b h h8.2 (h 0 8).toNat
    rw [w32_id (x := tcH h - (woS h (h 0 8).toNat).2) (by omega)]
    exact ⟨fun _ => ⟨fun e2 => by rw [if_pos e2] at hq; exact hq M6 hs6, fun e2 => by rw [if_neg e2] at hq; exact hq M6 hs6⟩, fun e => absurd (show h 0 8 ≤ (((h 0 8).toNat : Nat) : Int) by omega) e⟩
  · intro s hs ih
    apply hK
    unfold B_X9_worst_26
    have H' := H.fr hs6 sC7
    rw [H'.2.2.2.2.1, w32_id (x := (s : Int) + 1) (by omega)]
    refine ⟨fun e => by omega, fun _ => c_touchedBy H' W T6 (by omega) ?_⟩
    show (dgH h s ≤ _ → _) ∧ (¬ dgH h s ≤ _ → K (s : Int) (dgH h s) _ _)
    unfold woS at ih
    refine ⟨fun e => ?_, fun e => ?_⟩
    · rw [if_neg (by omega)] at ih; exact ih
    · rw [if_pos (by omega)] at ih; exact ih)
/-- what is drawn -/
def zN (z : Int) : Int := w32 (w32 (z * 1103515245) + 12345)
def zF (z m : Int) : Int := Int.tmod (us_r z 9) m
def dwS (τ : Int → Int → (Nat → Int) → Int) : Nat → Int → Mem → Mem
  | 0, _, h => h
  | k + 1, z, h => dwS τ k (zN z) (if caH h (zF (zN z) (h 0 3)) then puH τ h (zF (zN z) (h 0 3)) else h)
theorem us_r9 (z : Int) : 0 ≤ us_r z 9 := by
  unfold us_r
  have h : ∀ x : UInt32, 0 ≤ (x >>> ((Int32.ofInt 9).toUInt32 &&& Int32.toUInt32 31)).toInt32.toInt := fun x => by
    have e : ((Int32.ofInt 9).toUInt32 &&& Int32.toUInt32 31) = 9 := by decide
    rw [e]
    have hl : (x >>> (9 : UInt32)).toNat < 2 ^ 23 := by
      rw [UInt32.toNat_shiftRight]
      have : (9 : UInt32).toNat % 32 = 9 := by decide
      rw [this, Nat.shiftRight_eq_div_pow]
      have := x.toNat_lt
      omega
    show 0 ≤ (x >>> (9 : UInt32)).toBitVec.toInt
    rw [BitVec.toInt_eq_toNat_cond]
    have e2 : (x >>> (9 : UInt32)).toBitVec.toNat = (x >>> (9 : UInt32)).toNat := rfl
    rw [e2, if_pos (by omega)]
    omega
  exact h _
theorem zF_b {z m : Int} (hm : 0 < m) : 0 ≤ zF z m ∧ zF z m < m := by
  unfold zF
  rw [Int.tmod_eq_emod_of_nonneg (us_r9 z)]
  exact ⟨Int.emod_nonneg _ (by omega), Int.emod_lt_of_pos _ hm⟩
theorem c_touchingDrawn {z k : Int} (H : Hd h M) (W : Wf h) (TT : TC τ M) (hr : 0 ≤ h 0 2 ∧ h 0 2 < M 17 0) (h1 : 0 < h 0 3) (hk : 0 ≤ k ∧ k ≤ 40) (hq : ∀ M', Fr sC M M' → Q (tcH (dwS τ k.toNat z h)) M') : Con (n + 6) md_X9_touchingDrawn [vR 0, vI z, vI k] M Q := g_X9_touchingDrawn (by
  intro K hK
  unfold B_X9_touchingDrawn
  have h3 := W.2.2.1
  refine c_Tstart H W (fun M6 hF6 T6 => ?_)
  obtain ⟨R, hR⟩ : ∃ R, R = dwS τ k.toNat z h := ⟨_, rfl⟩
  rw [← hR] at hq
  have key : ∀ (j i : Nat) (z' : Int) (g M' : Mem), (i : Int) + j = k → Fr sC M M' → Ext h g → Wf g → Tr g M' → dwS τ j z' g = R → K (h 0 3) z' (i : Int) M' := by
    intro j
    induction j with
    | zero =>
      intro i z' g M' hi hF E Wg T he
      apply hK
      unfold B_X9_touchingDrawn_21
      rw [T.2.2.2.1]
      refine ⟨fun _ => ?_, fun e => by omega⟩
      unfold dwS at he
      rw [he]; exact hq M' hF
    | succ j ih =>
      intro i z' g M' hi hF E Wg T he
      apply hK
      unfold B_X9_touchingDrawn_21
      have H' := H.fr hF sC7
      have hb := zF_b (z := zN z') h1
      have hg3 : g 0 3 = h 0 3 := E.1 3 (by decide)
      refine ⟨fun e => by omega, fun _ => ⟨fun e => by omega, fun _ => ⟨by omega, ?_⟩⟩⟩
      rw [w32_id (x := (i : Int) + 1) (by omega)]
      show Con _ _ [vR 38, vI (zF (zN z') (h 0 3))] _ _
      refine c_canBe H' W E T hb ?_
      unfold dwS at he
      rw [hg3] at he
      by_cases hc : caH g (zF (zN z') (h 0 3))
      · rw [if_pos hc] at he ⊢
        refine ⟨fun e => by omega, fun _ => c_put H' W E Wg (TT.fr hF sC31) (by rw [hF 17 0 (by decide)]; exact hr) T hb hc (fun M4 hF4 T4 => ?_)⟩
        exact ih (i + 1) (zN z') _ M4 (by omega) (hF.tr (hF4.mono (by decide))) (adH_ext E) (puH_wf Wg (by rw [hg3]; exact hb) hc) T4 he
      · rw [if_neg hc] at he ⊢
        exact ⟨fun _ => ih (i + 1) (zN z') g M' (by omega) hF E Wg T he, fun e => absurd rfl e⟩
  have hF06 : Fr sC M M6 := hF6.mono (by decide)
  rw [(H.fr hF06 sC7).2.2.2.1]
  exact key k.toNat 0 z h M6 (by omega) hF06 Ext.rf W T6 hR.symm)
def dwR (τ : Int → Int → (Nat → Int) → Int) (h : Mem) (z k : Int) : Int := if 0 ≤ k ∧ k ≤ 40 then (if h 0 3 = 0 then -3 else tcH (dwS τ k.toNat z h)) else -2
theorem x_drawn {z k : Int} (H : Hd h M) (W : Wf h) (TT : TC τ M) (hr : 0 ≤ h 0 2 ∧ h 0 2 < M 17 0) (hq : ∀ M', Fr sC M M' → Q (dwR τ h z k) M') : Con (n + 7) md_X9_drawn [vR 0, vI z, vI k] M Q := g_X9_drawn (by
  unfold B_X9_drawn
  unfold dwR at hq
  have h3 := W.2.2.1
  rw [H.2.2.2.1]
  refine ⟨fun e => by rw [if_neg (by omega)] at hq; exact hq M Fr.rf, fun e => ⟨fun e1 => ?_, fun e1 => by rw [if_neg (by omega)] at hq; exact hq M Fr.rf⟩⟩
  rw [if_pos (by omega)] at hq
  refine ⟨fun e2 => by rw [if_pos e2] at hq; exact hq M Fr.rf, fun e2 => ?_⟩
  rw [if_neg e2] at hq
  exact c_touchingDrawn H W TT hr (by omega) (by omega) hq)
end XQ
