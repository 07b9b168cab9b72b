/-! SUMS; STEMS THAT TOUCH; THE BUNCH IN THOUGHT -/
def sm (f : Nat → Int) : Nat → Int
  | 0 => 0
  | n + 1 => sm f n + f n
theorem sm_congr {f g : Nat → Int} : ∀ {n : Nat}, (∀ s, s < n → f s = g s) → sm f n = sm g n
  | 0, _ => rfl
  | n + 1, h => by unfold sm; rw [sm_congr (fun s hs => h s (by omega)), h n (by omega)]
theorem sm_b {f : Nat → Int} : ∀ {n : Nat}, (∀ s, s < n → 0 ≤ f s ∧ f s ≤ 1) → 0 ≤ sm f n ∧ sm f n ≤ n
  | 0, _ => by unfold sm; omega
  | n + 1, h => by
    have h1 := sm_b (f := f) (n := n) (fun s hs => h s (by omega))
    have h2 := h n (by omega)
    unfold sm; omega
theorem sm_add {f g : Nat → Int} : ∀ n : Nat, sm (fun s => f s + g s) n = sm f n + sm g n
  | 0 => rfl
  | n + 1 => by unfold sm; rw [sm_add n]; omega
theorem sm_zero : ∀ n : Nat, sm (fun _ => 0) n = 0
  | 0 => rfl
  | n + 1 => by unfold sm; rw [sm_zero n]; rfl
/-- a colour of stem s -/
def coS (h : Mem) (s : Nat) : Int := h 3 (h 5 s).toNat
/-- stems of a colour at an angle, among the first n -/
def lyS (h : Mem) (n : Nat) (c a : Int) : Int := sm (fun s => if coS h s = c ∧ h 6 s = a then 1 else 0) n
def nr (x a : Int) : Prop := (x - a) % 16 = 0 ∨ (x - a) % 16 = 1 ∨ (x - a) % 16 = 15
def nbS (h : Mem) (n : Nat) (c a : Int) : Int := lyS h n c ((a - 1) % 16) + lyS h n c (a % 16) + lyS h n c ((a + 1) % 16)
def tcS (h : Mem) : Nat → Int
  | 0 => 0
  | s + 1 => tcS h s + nbS h s (coS h s) (h 6 s)
def tcH (h : Mem) : Int := tcS h (h 0 8).toNat
theorem lyS_b (h : Mem) (n : Nat) (c a : Int) : 0 ≤ lyS h n c a ∧ lyS h n c a ≤ n := sm_b (fun s _ => by split <;> omega)
theorem nbS_b (h : Mem) (n : Nat) (c a : Int) : 0 ≤ nbS h n c a ∧ nbS h n c a ≤ 3 * n := by
  have h1 := lyS_b h n c ((a - 1) % 16)
  have h2 := lyS_b h n c (a % 16)
  have h3 := lyS_b h n c ((a + 1) % 16)
  unfold nbS; omega
theorem tcS_b (h : Mem) : ∀ s : Nat, s ≤ 40 → 0 ≤ tcS h s ∧ tcS h s ≤ 120 * s
  | 0, _ => by unfold tcS; omega
  | s + 1, hs => by
    have h1 := tcS_b h s (by omega)
    have h2 := nbS_b h s (coS h s) (h 6 s)
    unfold tcS; omega
theorem tcH_b {h : Mem} (W : Wf h) : 0 ≤ tcH h ∧ tcH h ≤ 4800 := by
  have h8 := W.2.2.2.1
  have := tcS_b h (h 0 8).toNat (by omega)
  unfold tcH; omega
/-- the table of stems lying, for the first n of h -/
def Ly (h M : Mem) (n : Nat) : Prop := ∀ c a : Int, 0 ≤ c → c ≤ 4 → 0 ≤ a → a ≤ 15 → M 40 (c * 16 + a).toNat = lyS h n c a
def Tr (h M : Mem) : Prop := M 38 4 = h 0 8 ∧ M 38 5 = laH h ∧ M 38 6 = rmH h ∧ M 38 7 = tcH h ∧ (∀ i : Nat, (i : Int) < h 0 3 → M 39 i = h 4 i) ∧ Ly h M (h 0 8).toNat
theorem c_lyingAt {n : Nat} {h M : Mem} {m : Nat} {c a : Int} {Q : Int → Mem → Prop} (hL : Ly h M m) (hc : 0 ≤ c ∧ c ≤ 4) (ha : -1000 ≤ a ∧ a ≤ 1000) (hq : Q (lyS h m c (a % 16)) M) : Con (n + 2) md_X8_lyingAt [vR 38, vI c, vI a] M Q := g_X8_lyingAt (by
  unfold B_X8_lyingAt
  refine c_floorMod ⟨by omega, by omega⟩ ?_
  have hb : 0 ≤ a % 16 ∧ a % 16 < 16 := by omega
  rw [w32_id (x := c * 16) (by omega), w32_id (x := c * 16 + a % 16) (by omega)]
  refine ⟨fun e => by omega, fun _ => ⟨fun e => by omega, fun _ => ⟨by omega, ?_⟩⟩⟩
  rw [hL c (a % 16) hc.1 hc.2 hb.1 (by omega)]
  exact hq)
theorem c_neighbours {n : Nat} {h M : Mem} {m : Nat} {c a : Int} {Q : Int → Mem → Prop} (hL : Ly h M m) (hm : m ≤ 40) (hc : 0 ≤ c ∧ c ≤ 4) (ha : -900 ≤ a ∧ a ≤ 900) (hq : Q (nbS h m c a) M) : Con (n + 3) md_X8_neighbours [vR 38, vI c, vI a] M Q := g_X8_neighbours (by
  unfold B_X8_neighbours
  rw [w32_id (x := a - 1) (by omega), w32_id (x := a + 1) (by omega)]
  refine c_lyingAt hL hc (by omega) (c_lyingAt hL hc (by omega) (c_lyingAt hL hc (by omega) ?_))
  have h1 := lyS_b h m c ((a - 1) % 16)
  have h2 := lyS_b h m c (a % 16)
  have h3 := lyS_b h m c ((a + 1) % 16)
  rw [w32_id (x := lyS h m c ((a - 1) % 16) + lyS h m c (a % 16)) (by omega), w32_id (by omega)]
  exact hq)
/-- change: the table grows (or falls) at one place -/
theorem c_change {n : Nat} {M : Mem} {c a b : Int} {Q : Int → Mem → Prop} (hc : 0 ≤ c ∧ c ≤ 4) (ha : 0 ≤ a ∧ a ≤ 15) (hb : -1 ≤ b ∧ b ≤ 1) (hm : -1000 ≤ M 40 (c * 16 + a).toNat ∧ M 40 (c * 16 + a).toNat ≤ 1000) (hq : Q 0 (up M 40 (c * 16 + a).toNat (M 40 (c * 16 + a).toNat + b))) : Con (n + 2) md_X8_change [vR 38, vI c, vI a, vI b] M Q := g_X8_change (by
  unfold B_X8_change
  refine c_floorMod ⟨by omega, by omega⟩ ?_
  have e : a % 16 = a := by omega
  rw [e, w32_id (x := c * 16) (by omega), w32_id (x := c * 16 + a) (by omega)]
  refine ⟨fun e => by omega, fun _ => ⟨fun e => by omega, fun _ => ⟨by omega, by omega, fun M3 h3 => ?_⟩⟩⟩
  rw [h3, w32_id (by omega)]
  exact hq)
theorem Ly.add {h M : Mem} {m : Nat} (hL : Ly h M m) (hc : 0 ≤ coS h m ∧ coS h m ≤ 4) (ha : 0 ≤ h 6 m ∧ h 6 m ≤ 15) : Ly h (up M 40 (coS h m * 16 + h 6 m).toNat (M 40 (coS h m * 16 + h 6 m).toNat + 1)) (m + 1) := by
  intro c a h1 h2 h3 h4
  have e : lyS h (m + 1) c a = lyS h m c a + (if coS h m = c ∧ h 6 m = a then 1 else 0) := rfl
  rw [e]
  by_cases hh : coS h m = c ∧ h 6 m = a
  · rw [if_pos hh, hh.1, hh.2, up_same, hL c a h1 h2 h3 h4]
  · rw [if_neg hh, up_ne (Or.inr (by omega)), hL c a h1 h2 h3 h4]; omega
theorem Ly.fr {h M M' : Mem} {m : Nat} (hL : Ly h M m) (e : ∀ k, M' 40 k = M 40 k) : Ly h M' m := fun c a h1 h2 h3 h4 => (e _).trans (hL c a h1 h2 h3 h4)
theorem c_Tstart {n : Nat} {h M : Mem} {Q : Int → Mem → Prop} (H : Hd h M) (W : Wf h) (hq : ∀ M', Fr [38, 39, 40] M M' → Tr h M' → Q 0 M') : Con (n + 4) md_X8_start [vR 38] M Q := g_X8_start (by
  intro K40 K74 K98 h40 h74 h98
  have h3 := W.2.2.1
  have h8 := W.2.2.2.1
  have f7 : ∀ o : Nat, 1 ≤ o → o ≤ 7 → o ∉ [38, 39, 40] := by simp; omega
  -- the stems, one behind the other
  have k98 : ∀ (s : Nat), s ≤ (h 0 8).toNat → ∀ M' : Mem, Fr [38, 39, 40] M M' → M' 38 4 = h 0 8 → M' 38 5 = laH h → M' 38 6 = rmH h → M' 38 7 = tcS h s → (∀ i : Nat, (i : Int) < h 0 3 → M' 39 i = h 4 i) → Ly h M' s → K98 (s : Int) M' := by
    refine loopUp (P := fun s => ∀ M' : Mem, Fr [38, 39, 40] M M' → M' 38 4 = h 0 8 → M' 38 5 = laH h → M' 38 6 = rmH h → M' 38 7 = tcS h s → (∀ i : Nat, (i : Int) < h 0 3 → M' 39 i = h 4 i) → Ly h M' s → K98 (s : Int) M') (h 0 8).toNat ?_ ?_
    · intro M' hF a1 a2 a3 a4 a5 a6
      apply h98
      unfold B_X8_start_98
      rw [(H.fr hF f7).2.2.2.2.1]
      exact ⟨fun _ => hq M' hF ⟨a1, a2, a3, a4, a5, a6⟩, fun e => absurd (show h 0 8 ≤ (((h 0 8).toNat : Nat) : Int) by omega) e⟩
    · intro s hs ih M' hF a1 a2 a3 a4 a5 a6
      apply h98
      unfold B_X8_start_98
      have H' := H.fr hF f7
      have hs' : (s : Int) < h 0 8 := by omega
      have hst := W.2.2.2.2.2 s hs'
      have hfl := W.2.2.2.2.1 _ (toN hst.1)
      rw [H'.2.2.2.2.1]
      refine ⟨fun e => by omega, fun _ => ⟨by omega, ?_⟩⟩
      rw [show (s : Int).toNat = s from rfl, (H'.2.2.2.2.2.2 s hs').1]
      refine c_colourOf H' W hst.1 ⟨by omega, ?_⟩
      rw [(H'.2.2.2.2.2.2 s hs').2]
      refine c_neighbours a6 (by omega) hfl.2.2.1 (by omega) (fun M7 h7 => ⟨by omega, ?_⟩)
      have hnb := nbS_b h s (coS h s) (h 6 s)
      have htc := tcS_b h s (by omega)
      rw [a4, w32_id (x := tcS h s + nbS h s (h 3 (h 5 s).toNat) (h 6 s)) (by have : coS h s = h 3 (h 5 s).toNat := rfl; rw [← this]; omega)] at h7
      have hF7 : Fr [38, 39, 40] M M7 := by rw [h7]; exact hF.up (by decide)
      rw [((H.fr hF7 f7).2.2.2.2.2.2 s hs').2]
      have hL7 : Ly h M7 s := a6.fr (fun k => by rw [h7]; exact up_ne (Or.inl (by decide)))
      have hly := lyS_b h s (coS h s) (h 6 s)
      have he : M7 40 (h 3 (h 5 s).toNat * 16 + h 6 s).toNat = lyS h s (coS h s) (h 6 s) := hL7 _ _ hfl.2.2.1.1 hfl.2.2.1.2 hst.2.1 hst.2.2
      refine c_change hfl.2.2.1 hst.2 (by decide) (by rw [he]; omega) ?_
      rw [w32_id (x := (s : Int) + 1) (by omega)]
      refine ih _ (hF7.up (by decide)) ?_ ?_ ?_ ?_ (fun i hi => ?_) (hL7.add hfl.2.2.1 hst.2)
      · rw [up_ne (Or.inl (by decide)), h7, up_ne (Or.inr (by decide))]; exact a1
      · rw [up_ne (Or.inl (by decide)), h7, up_ne (Or.inr (by decide))]; exact a2
      · rw [up_ne (Or.inl (by decide)), h7, up_ne (Or.inr (by decide))]; exact a3
      · rw [up_ne (Or.inl (by decide)), h7, up_same]; rfl
      · rw [up_ne (Or.inl (by decide)), h7, up_ne (Or.inl (by decide))]; exact a5 i hi
  -- the table is emptied
  have k74 : ∀ (j : Nat), j ≤ 80 → ∀ M' : Mem, Fr [38, 39, 40] M M' → M' 38 4 = h 0 8 → M' 38 5 = laH h → M' 38 6 = rmH h → M' 38 7 = 0 → (∀ i : Nat, (i : Int) < h 0 3 → M' 39 i = h 4 i) → (∀ k, k < j → M' 40 k = 0) → K74 (j : Int) M' := by
    refine loopUp (P := fun j => ∀ M' : Mem, Fr [38, 39, 40] M M' → M' 38 4 = h 0 8 → M' 38 5 = laH h → M' 38 6 = rmH h → M' 38 7 = 0 → (∀ i : Nat, (i : Int) < h 0 3 → M' 39 i = h 4 i) → (∀ k, k < j → M' 40 k = 0) → K74 (j : Int) M') 80 ?_ ?_
    · intro M' hF a1 a2 a3 a4 a5 a6
      apply h74
      unfold B_X8_start_74
      exact ⟨fun _ => k98 0 (by omega) M' hF a1 a2 a3 a4 a5 (fun c a q1 q2 q3 q4 => a6 _ (by omega)), fun e => absurd (by decide) e⟩
    · intro j hj ih M' hF a1 a2 a3 a4 a5 a6
      apply h74
      unfold B_X8_start_74
      refine ⟨fun e => by omega, fun _ => ⟨by omega, fun M2 h2 => ?_⟩⟩
      rw [w32_id (x := (j : Int) + 1) (by omega)]
      rw [show (j : Int).toNat = j from rfl] at h2
      refine ih M2 (by rw [h2]; exact hF.up (by decide)) ?_ ?_ ?_ ?_ (fun i hi => ?_) (fun k hk => ?_)
      · rw [h2, up_ne (Or.inl (by decide))]; exact a1
      · rw [h2, up_ne (Or.inl (by decide))]; exact a2
      · rw [h2, up_ne (Or.inl (by decide))]; exact a3
      · rw [h2, up_ne (Or.inl (by decide))]; exact a4
      · rw [h2, up_ne (Or.inl (by decide))]; exact a5 i hi
      · rw [h2]
        by_cases hkj : k = j
        · subst hkj; exact up_same
        · rw [up_ne (Or.inr hkj)]; exact a6 k (by omega)
  -- the buckets
  have k40 : ∀ (j : Nat), j ≤ (h 0 3).toNat → ∀ M' : Mem, Fr [38, 39, 40] M M' → M' 38 4 = h 0 8 → M' 38 5 = laH h → M' 38 6 = rmH h → M' 38 7 = 0 → (∀ i : Nat, i < j → M' 39 i = h 4 i) → K40 (j : Int) M' := by
    refine loopUp (P := fun j => ∀ M' : Mem, Fr [38, 39, 40] M M' → M' 38 4 = h 0 8 → M' 38 5 = laH h → M' 38 6 = rmH h → M' 38 7 = 0 → (∀ i : Nat, i < j → M' 39 i = h 4 i) → K40 (j : Int) M') (h 0 3).toNat ?_ ?_
    · intro M' hF a1 a2 a3 a4 a5
      apply h40
      unfold B_X8_start_40
      rw [(H.fr hF f7).2.2.2.1]
      exact ⟨fun _ => k74 0 (by omega) M' hF a1 a2 a3 a4 (fun i hi => a5 i (by omega)) (fun k hk => by omega), fun e => absurd (show h 0 3 ≤ (((h 0 3).toNat : Nat) : Int) by omega) e⟩
    · intro j hj ih M' hF a1 a2 a3 a4 a5
      apply h40
      unfold B_X8_start_40
      have H' := H.fr hF f7
      rw [H'.2.2.2.1]
      refine ⟨fun e => by omega, fun _ => ⟨by omega, by omega, fun M2 h2 => ?_⟩⟩
      rw [w32_id (x := (j : Int) + 1) (by omega)]
      rw [show (j : Int).toNat = j from rfl, (H'.2.2.2.2.2.1 j (by omega)).2.2.2] at h2
      refine ih M2 (by rw [h2]; exact hF.up (by decide)) ?_ ?_ ?_ ?_ (fun i hi => ?_)
      · rw [h2, up_ne (Or.inl (by decide))]; exact a1
      · rw [h2, up_ne (Or.inl (by decide))]; exact a2
      · rw [h2, up_ne (Or.inl (by decide))]; exact a3
      · rw [h2, up_ne (Or.inl (by decide))]; exact a4
      · rw [h2]
        by_cases hij : i = j
        · subst hij; exact up_same
        · rw [up_ne (Or.inr hij)]; exact a5 i (by omega)
  unfold B_X8_start
  intro M10 h10
  rw [H.2.2.2.2.1] at h10
  have hF10 : Fr [38, 39, 40] M M10 := by rw [h10]; exact Fr.rf.up (by decide)
  refine c_lastAngle (H.fr hF10 f7) W (fun M13 h13 => ?_)
  have hF13 : Fr [38, 39, 40] M M13 := by rw [h13]; exact hF10.up (by decide)
  refine c_roomLeft (H.fr hF13 f7) W (fun M16 h16 M17 h17 => ?_)
  refine k40 0 (by omega) M17 (by rw [h17]; refine Fr.up ?_ (by decide); rw [h16]; exact hF13.up (by decide)) ?_ ?_ ?_ ?_ (fun i hi => by omega)
  · rw [h17, up_ne (Or.inr (by decide)), h16, up_ne (Or.inr (by decide)), h13, up_ne (Or.inr (by decide)), h10, up_same]
  · rw [h17, up_ne (Or.inr (by decide)), h16, up_ne (Or.inr (by decide)), h13, up_same]
  · rw [h17, up_ne (Or.inr (by decide)), h16, up_same]
  · rw [h17, up_same])
