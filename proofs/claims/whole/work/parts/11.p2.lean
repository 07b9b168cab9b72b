/-! THE HAND: h 0 0 holds, h 0 1 begin, h 0 2 rule, h 0 3 flowers, h 0 8 stems; h 1 kinds, h 2 numbers, h 3 colours, h 4 buckets; h 5, h 6 flowers and angles of stems -/
theorem loopUp {P : Nat → Prop} (N : Nat) (hend : P N) (hstep : ∀ s, s < N → P (s + 1) → P s) : ∀ s, s ≤ N → P s := by
  intro s hs
  obtain ⟨d, rfl⟩ : ∃ d, N = s + d := ⟨N - s, by omega⟩
  induction d generalizing s with
  | zero => exact hend
  | succ d ih => exact hstep s (by omega) (ih (s + 1) (by rw [show s + 1 + d = s + (d + 1) by omega]; exact hend) (fun k hk => hstep k (by omega)) (by omega))
/-- nothing but the rows of S has changed -/
def Fr (S : List Nat) (M M' : Mem) : Prop := ∀ o k, o ∉ S → M' o k = M o k
theorem Fr.rf {S : List Nat} {M : Mem} : Fr S M M := fun _ _ _ => rfl
theorem Fr.tr {S : List Nat} {M M' M'' : Mem} (h : Fr S M M') (h' : Fr S M' M'') : Fr S M M'' := fun o k hk => (h' o k hk).trans (h o k hk)
theorem Fr.mono {S S' : List Nat} {M M' : Mem} (h : Fr S M M') (hs : ∀ o ∈ S, o ∈ S') : Fr S' M M' := fun o k hk => h o k (fun q => hk (hs o q))
theorem Fr.up {S : List Nat} {M M' : Mem} (h : Fr S M M') {o k : Nat} {v : Int} (ho : o ∈ S) : Fr S M (up M' o k v) := fun o' k' hk => by
  unfold Jvm.Pilot.@@N@@.up
  rw [if_neg (fun q => hk (by rw [q.1]; exact ho))]
  exact h o' k' hk
def Hd (h M : Mem) : Prop := M 1 0 = h 0 0 ∧ M 1 1 = h 0 1 ∧ M 1 2 = h 0 2 ∧ M 1 3 = h 0 3 ∧ M 1 8 = h 0 8 ∧ (∀ i : Nat, (i : Int) < h 0 3 → M 2 i = h 1 i ∧ M 3 i = h 2 i ∧ M 4 i = h 3 i ∧ M 5 i = h 4 i) ∧ (∀ s : Nat, (s : Int) < h 0 8 → M 6 s = h 5 s ∧ M 7 s = h 6 s)
theorem Hd.fr {h M M' : Mem} {S : List Nat} (H : Hd h M) (hf : Fr S M M') (hs : ∀ o, 1 ≤ o → o ≤ 7 → o ∉ S) : Hd h M' := by
  have e : ∀ o k, 1 ≤ o → o ≤ 7 → M' o k = M o k := fun o k h1 h2 => hf o k (hs o h1 h2)
  obtain ⟨h1, h2, h3, h4, h5, h6, h7⟩ := H
  refine ⟨by rw [e 1 0 (by omega) (by omega)]; exact h1, by rw [e 1 1 (by omega) (by omega)]; exact h2, by rw [e 1 2 (by omega) (by omega)]; exact h3, by rw [e 1 3 (by omega) (by omega)]; exact h4, by rw [e 1 8 (by omega) (by omega)]; exact h5, fun i hi => ?_, fun s hs => ?_⟩
  · rw [e 2 i (by omega) (by omega), e 3 i (by omega) (by omega), e 4 i (by omega) (by omega), e 5 i (by omega) (by omega)]; exact h6 i hi
  · rw [e 6 s (by omega) (by omega), e 7 s (by omega) (by omega)]; exact h7 s hs
def Wf (h : Mem) : Prop := (0 ≤ h 0 0 ∧ h 0 0 ≤ 400) ∧ (0 ≤ h 0 1 ∧ h 0 1 ≤ 15) ∧ (0 ≤ h 0 3 ∧ h 0 3 ≤ 6) ∧ (0 ≤ h 0 8 ∧ h 0 8 ≤ 40) ∧ (∀ i : Nat, (i : Int) < h 0 3 → (0 ≤ h 1 i ∧ h 1 i ≤ 5) ∧ (0 ≤ h 2 i ∧ h 2 i ≤ 9) ∧ (0 ≤ h 3 i ∧ h 3 i ≤ 4) ∧ (0 ≤ h 4 i ∧ h 4 i ≤ 40)) ∧ (∀ s : Nat, (s : Int) < h 0 8 → (0 ≤ h 5 s ∧ h 5 s < h 0 3) ∧ (0 ≤ h 6 s ∧ h 6 s ≤ 15))
/-- a flower's place as a number -/
theorem toN {f b : Int} (h : 0 ≤ f ∧ f < b) : ((f.toNat : Nat) : Int) < b := by omega
def thH (h : Mem) (f : Int) : Int := thk (h 1 f.toNat) (h 2 f.toNat)
theorem thk_b {k v : Int} (hv : 0 ≤ v ∧ v ≤ 9) : 1 ≤ thk k v ∧ thk k v ≤ 12 := by unfold thk; omega
theorem thH_b {h : Mem} (W : Wf h) {f : Int} (hf : 0 ≤ f ∧ f < h 0 3) : 1 ≤ thH h f ∧ thH h f ≤ 12 := thk_b (W.2.2.2.2.1 _ (toN hf)).2.1
/-- room behind s stems -/
def rmS (h : Mem) : Nat → Int
  | 0 => h 0 0
  | s + 1 => rmS h s - thH h (h 5 s)
def rmH (h : Mem) : Int := rmS h (h 0 8).toNat
theorem rmS_b {h : Mem} (W : Wf h) : ∀ s : Nat, (s : Int) ≤ h 0 8 → -(12 * (s : Int)) ≤ rmS h s ∧ rmS h s ≤ 400
  | 0, _ => by have := W.1; unfold rmS; omega
  | s + 1, hs => by
    have h1 := rmS_b W s (by omega)
    have h2 := thH_b W (W.2.2.2.2.2 s (by omega)).1
    unfold rmS; omega
theorem rmH_b {h : Mem} (W : Wf h) : -480 ≤ rmH h ∧ rmH h ≤ 400 := by
  have h8 := W.2.2.2.1
  have := rmS_b W (h 0 8).toNat (by omega)
  unfold rmH; omega
def laH (h : Mem) : Int := if 0 < h 0 8 then h 6 (h 0 8 - 1).toNat else h 0 1
theorem laH_b {h : Mem} (W : Wf h) : 0 ≤ laH h ∧ laH h ≤ 15 := by
  have h8 := W.2.2.2.1
  unfold laH; split
  · exact (W.2.2.2.2.2 _ (by omega)).2
  · exact W.2.1
theorem c_thickOf {n : Nat} {h M : Mem} {f : Int} {Q : Int → Mem → Prop} (H : Hd h M) (W : Wf h) (hf : 0 ≤ f ∧ f < h 0 3) (hq : Q (thH h f) M) : Con (n + 2) md_X0_thickOf [vR 1, vI f] M Q := g_X0_thickOf (by
  unfold B_X0_thickOf
  have h6 := W.2.2.1
  have hn := W.2.2.2.2.1 _ (toN hf)
  have hv := H.2.2.2.2.2.1 _ (toN hf)
  refine c_hasFlower ?_
  rw [H.2.2.2.1, if_pos hf]
  refine ⟨fun e => by omega, fun _ => ⟨by omega, by omega, ?_⟩⟩
  rw [hv.1, hv.2.1]
  exact c_Kthick hn.2.1 hq)
theorem c_colourOf {n : Nat} {h M : Mem} {f : Int} {Q : Int → Mem → Prop} (H : Hd h M) (W : Wf h) (hf : 0 ≤ f ∧ f < h 0 3) (hq : Q (h 3 f.toNat) M) : Con (n + 2) md_X0_colourOf [vR 1, vI f] M Q := g_X0_colourOf (by
  unfold B_X0_colourOf
  have h6 := W.2.2.1
  have hv := H.2.2.2.2.2.1 _ (toN hf)
  refine c_hasFlower ?_
  rw [H.2.2.2.1, if_pos hf]
  refine ⟨fun e => by omega, fun _ => ⟨by omega, ?_⟩⟩
  rw [hv.2.2.1]
  exact hq)
theorem c_lastAngle {n : Nat} {h M : Mem} {Q : Int → Mem → Prop} (H : Hd h M) (W : Wf h) (hq : Q (laH h) M) : Con (n + 1) md_X0_lastAngle [vR 1] M Q := g_X0_lastAngle (by
  unfold B_X0_lastAngle
  have h8 := W.2.2.2.1
  rw [H.2.2.2.2.1, H.2.1]
  unfold laH at hq
  refine ⟨fun e => by rw [if_neg (by omega)] at hq; exact hq, fun e => ⟨fun e => by omega, fun _ => ?_⟩⟩
  rw [if_pos (by omega)] at hq
  rw [w32_id (by omega)]
  refine ⟨by omega, ?_⟩
  rw [(H.2.2.2.2.2.2 (h 0 8 - 1).toNat (by omega)).2]
  exact hq)
theorem c_roomLeft {n : Nat} {h M : Mem} {Q : Int → Mem → Prop} (H : Hd h M) (W : Wf h) (hq : Q (rmH h) M) : Con (n + 3) md_X0_roomLeft [vR 1] M Q := g_X0_roomLeft (by
  intro K hK
  unfold B_X0_roomLeft
  have h8 := W.2.2.2.1
  have key := loopUp (P := fun s => K (rmS h s) (s : Int) M) (h 0 8).toNat
    (hK _ _ _ (by
      unfold B_X0_roomLeft_7
      rw [H.2.2.2.2.1]
      exact ⟨fun _ => hq, fun e => absurd (show h 0 8 ≤ (((h 0 8).toNat : Nat) : Int) by omega) e⟩))
    (fun s hs ih => hK _ _ _ (by
      unfold B_X0_roomLeft_7
      have hs' : (s : Int) < h 0 8 := by omega
      have hst := W.2.2.2.2.2 s hs'
      have hb := rmS_b W s (by omega)
      have ht := thH_b W hst.1
      rw [H.2.2.2.2.1]
      refine ⟨fun e => by omega, fun _ => ⟨by omega, ?_⟩⟩
      rw [show (s : Int).toNat = s from rfl, (H.2.2.2.2.2.2 s hs').1]
      refine c_thickOf H W hst.1 ?_
      rw [w32_id (x := (s : Int) + 1) (by omega), w32_id (x := rmS h s - thH h (h 5 s)) (by omega)]
      exact ih)) 0 (Nat.zero_le _)
  rw [H.1]
  exact key)
