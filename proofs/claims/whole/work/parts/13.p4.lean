/-! KINDS AND MOMENTS -/
theorem x_r16 {a : Int} (ha : r32 a) : 0 ≤ x_r a 16 ↔ 0 ≤ a := by
  have h1 : ∀ x : Int32, 0 ≤ x.toInt ↔ x.toBitVec.msb = false := fun x => by
    rw [BitVec.msb_eq_toInt]
    show 0 ≤ x.toBitVec.toInt ↔ _
    simp
  have h2 : (Int32.ofInt a ^^^ Int32.ofInt 16).toBitVec.msb = (Int32.ofInt a).toBitVec.msb := by
    rw [Int32.toBitVec_xor, BitVec.msb_xor]
    have : (Int32.ofInt 16).toBitVec.msb = false := by decide
    rw [this, Bool.xor_false]
  unfold x_r
  rw [h1, h2, ← h1, iN_t ha]
theorem c_floorMod {n : Nat} {a : Int} {M : Mem} {Q : Int → Mem → Prop} (ha : r32 a) (h : Q (a % 16) M) : Con (n + 1) md_J9_floorMod_7cf53 [vI a, vI 16] M Q := g_J9_floorMod_7cf53 (by
  unfold B_J9_floorMod_7cf53
  refine ⟨by decide, ?_⟩
  rw [x_r16 ha]
  have hb : -16 < a.tmod 16 ∧ a.tmod 16 < 16 := ⟨Int.lt_tmod_of_pos a (by decide), Int.tmod_lt_of_pos a (by decide)⟩
  refine ⟨fun h0 => ?_, fun h0 => ⟨fun h1 => ?_, fun h1 => ?_⟩⟩
  · rw [Int.tmod_eq_emod_of_nonneg h0]; exact h
  · have e : a % 16 = a.tmod 16 := by rw [h1]; exact Int.emod_eq_zero_of_dvd (Int.dvd_of_tmod_eq_zero h1)
    rw [← e]; exact h
  · rw [w32_id (by omega)]
    have e : a % 16 = a.tmod 16 + 16 := by
      rw [Int.tmod_eq_emod] at h1 hb ⊢
      split at h1 <;> rename_i hd
      · rcases hd with hd | hd <;> omega
      · rw [if_neg hd]; simp
    rw [← e]; exact h)
def kTu (k v : Int) : Int := if k = 1 ∨ k = 3 then v + 1 else if k = 4 then 2 * v else if k = 5 then -v else v
def kCo (k m v : Int) : Int := if k = 1 then 2 * v else if k = 2 ∨ k = 4 then v / 2 else if k = 3 then max 0 (2 * v - m) else v
def kLa (k m v : Int) : Int := if k = 2 then 2 * v else if k = 3 then v + 1 else if k = 4 then 2 * v + m else if k = 5 then 1 else v
theorem c_Kturns {n : Nat} {k v : Int} {M : Mem} {Q : Int → Mem → Prop} (hk : 0 ≤ k ∧ k ≤ 5) (hv : -16 ≤ v ∧ v ≤ 16) (h : Q (kTu k v) M) : Con (n + 1) md_X1_turns [vI k, vI v] M Q := g_X1_turns (by
  unfold B_X1_turns; unfold kTu at h
  rw [w32_id (x := v + 1) (by omega), w32_id (x := 2 * v) (by omega), w32_id (x := -v) (by omega)]
  grind)
theorem c_Kcosts {n : Nat} {k m v : Int} {M : Mem} {Q : Int → Mem → Prop} (hk : 0 ≤ k ∧ k ≤ 5) (hm : 0 ≤ m ∧ m ≤ 9) (hv : 0 ≤ v ∧ v ≤ 999) (h : Q (kCo k m v) M) : Con (n + 2) md_X1_costs [vI k, vI m, vI v] M Q := g_X1_costs (by
  unfold B_X1_costs; unfold kCo at h
  have e2 : Int.tdiv v 2 = v / 2 := Int.tdiv_eq_ediv_of_nonneg (by omega)
  rw [w32_id (x := 2 * v) (by omega), w32_id (x := 2 * v - m) (by omega), e2, w32_id (x := v / 2) (by omega)]
  refine ⟨fun e => ?_, fun e => ?_, fun e => ?_, fun e => c_max ?_⟩ <;> grind)
theorem c_Klasts {n : Nat} {k m v : Int} {M : Mem} {Q : Int → Mem → Prop} (hk : 0 ≤ k ∧ k ≤ 5) (hm : 0 ≤ m ∧ m ≤ 9) (hv : 0 ≤ v ∧ v ≤ 30) (h : Q (kLa k m v) M) : Con (n + 1) md_X1_lasts [vI k, vI m, vI v] M Q := g_X1_lasts (by
  unfold B_X1_lasts; unfold kLa at h
  rw [w32_id (x := 2 * v) (by omega), w32_id (x := 2 * v + m) (by omega), w32_id (x := v + 1) (by omega)]
  refine ⟨fun e => ?_, fun e => ?_, fun e => ?_, fun e => ?_, fun e => ?_⟩ <;> grind)
theorem c_Mwithin {n : Nat} {a b c : Int} {M : Mem} {Q : Int → Mem → Prop} (h : Q (max a (min b c)) M) : Con (n + 2) md_X2_within [vI a, vI b, vI c] M Q := g_X2_within (by
  unfold B_X2_within
  exact c_min (c_max h))
theorem c_turned {n : Nat} {a b : Int} {M : Mem} {Q : Int → Mem → Prop} (h1 : -1000 ≤ a ∧ a ≤ 1000) (h2 : -1000 ≤ b ∧ b ≤ 1000) (h : Q ((a + b) % 16) M) : Con (n + 2) md_X2_turned [vI a, vI b] M Q := g_X2_turned (by
  unfold B_X2_turned
  rw [w32_id (by omega)]
  exact c_floorMod ⟨by omega, by omega⟩ h)
/-- what a text can ask -/
def en (a0 a1 a2 a3 a4 a5 : Int) : Nat → Int := fun k => if k = 0 then a0 else if k = 1 then a1 else if k = 2 then a2 else if k = 3 then a3 else if k = 4 then a4 else a5
def Mo (M : Mem) (ru kd : Int) (e : Nat → Int) : Prop := M 36 1 = ru ∧ M 36 2 = kd ∧ ∀ k, k < 6 → M 37 k = e k
theorem Mo.fr {M M' : Mem} {ru kd : Int} {e : Nat → Int} {S : List Nat} (h : Mo M ru kd e) (hf : Fr S M M') (h1 : 36 ∉ S) (h2 : 37 ∉ S) : Mo M' ru kd e := ⟨(hf 36 1 h1).trans h.1, (hf 36 2 h1).trans h.2.1, fun k hk => (hf 37 k h2).trans (h.2.2 k hk)⟩
theorem six {P : Nat → Prop} (h0 : P 0) (h1 : P 1) (h2 : P 2) (h3 : P 3) (h4 : P 4) (h5 : P 5) : ∀ k, k < 6 → P k
  | 0, _ => h0
  | 1, _ => h1
  | 2, _ => h2
  | 3, _ => h3
  | 4, _ => h4
  | 5, _ => h5
def tuV (τ : Int → Int → (Nat → Int) → Int) (ru kd : Int) (e : Nat → Int) : Int := kTu kd (max (-16) (min 16 (τ ru 0 e)))
def coV (τ : Int → Int → (Nat → Int) → Int) (ru kd : Int) (e : Nat → Int) : Int := kCo kd (e 2) (max 0 (min 999 (τ ru 1 e)))
def laV (τ : Int → Int → (Nat → Int) → Int) (ru kd : Int) (e : Nat → Int) : Int := kLa kd (e 2) (max 0 (min 30 (τ ru 2 e)))
theorem tuV_b (τ : Int → Int → (Nat → Int) → Int) (ru kd : Int) (e : Nat → Int) : -33 ≤ tuV τ ru kd e ∧ tuV τ ru kd e ≤ 33 := by
  unfold tuV kTu; omega
theorem coV_b (τ : Int → Int → (Nat → Int) → Int) (ru kd : Int) {e : Nat → Int} (he : 0 ≤ e 2) : 0 ≤ coV τ ru kd e ∧ coV τ ru kd e ≤ 1998 := by
  unfold coV kCo; omega
theorem c_Mturns {n : Nat} {τ : Int → Int → (Nat → Int) → Int} {ru kd : Int} {e : Nat → Int} {M : Mem} {Q : Int → Mem → Prop} (T : TC τ M) (hM : Mo M ru kd e) (hr : 0 ≤ ru ∧ ru < M 17 0) (hk : 0 ≤ kd ∧ kd ≤ 5) (hq : ∀ M', Fr [32] M M' → Q (tuV τ ru kd e) M') : Con (n + 3) md_X2_turns [vR 36] M Q := g_X2_turns (by
  unfold B_X2_turns
  rw [hM.1, hM.2.1]
  exact c_valueOf T hr (by decide) hM.2.2 (fun M' hF => c_Mwithin (c_Kturns hk (by omega) (hq M' hF))))
theorem c_Mcosts {n : Nat} {τ : Int → Int → (Nat → Int) → Int} {ru kd : Int} {e : Nat → Int} {M : Mem} {Q : Int → Mem → Prop} (T : TC τ M) (hM : Mo M ru kd e) (hr : 0 ≤ ru ∧ ru < M 17 0) (hk : 0 ≤ kd ∧ kd ≤ 5) (hm : 0 ≤ e 2 ∧ e 2 ≤ 9) (hq : ∀ M', Fr [32] M M' → Q (coV τ ru kd e) M') : Con (n + 3) md_X2_costs [vR 36] M Q := g_X2_costs (by
  unfold B_X2_costs
  rw [hM.1]
  refine c_valueOf T hr (by decide) hM.2.2 (fun M' hF => c_Mwithin ?_)
  have hM' := hM.fr hF (by decide) (by decide)
  rw [hM'.2.1, show Int.toNat 2 = 2 from rfl, hM'.2.2 2 (by decide)]
  exact c_Kcosts hk hm (by omega) (hq M' hF))
theorem c_Mlasts {n : Nat} {τ : Int → Int → (Nat → Int) → Int} {ru kd : Int} {e : Nat → Int} {M : Mem} {Q : Int → Mem → Prop} (T : TC τ M) (hM : Mo M ru kd e) (hr : 0 ≤ ru ∧ ru < M 17 0) (hk : 0 ≤ kd ∧ kd ≤ 5) (hm : 0 ≤ e 2 ∧ e 2 ≤ 9) (hq : ∀ M', Fr [32] M M' → Q (laV τ ru kd e) M') : Con (n + 3) md_X2_lasts [vR 36] M Q := g_X2_lasts (by
  unfold B_X2_lasts
  rw [hM.1]
  refine c_valueOf T hr (by decide) hM.2.2 (fun M' hF => c_Mwithin ?_)
  have hM' := hM.fr hF (by decide) (by decide)
  rw [hM'.2.1, show Int.toNat 2 = 2 from rfl, hM'.2.2 2 (by decide)]
  exact c_Klasts hk hm (by omega) (hq M' hF))
theorem c_Mthick {n : Nat} {ru kd : Int} {e : Nat → Int} {M : Mem} {Q : Int → Mem → Prop} (hM : Mo M ru kd e) (hm : 0 ≤ e 2 ∧ e 2 ≤ 9) (hq : Q (thk kd (e 2)) M) : Con (n + 2) md_X2_thick [vR 36] M Q := g_X2_thick (by
  unfold B_X2_thick
  rw [hM.2.1, show Int.toNat 2 = 2 from rfl, hM.2.2 2 (by decide)]
  exact c_Kthick hm hq)
theorem c_inEmptyHand {n : Nat} {h M : Mem} {f : Int} {Q : Int → Mem → Prop} (H : Hd h M) (W : Wf h) (hf : 0 ≤ f ∧ f < h 0 3) (hq : ∀ M', Fr [36, 37] M M' → Mo M' (h 0 2) (h 1 f.toNat) (en 0 (h 3 f.toNat) (h 2 f.toNat) (h 0 1) (h 4 f.toNat) (h 0 0)) → Q 0 M') : Con (n + 2) md_X2_inEmptyHand [vR 36, vR 1, vI f] M Q := g_X2_inEmptyHand (by
  unfold B_X2_inEmptyHand
  have h6 := W.2.2.1
  have hv := H.2.2.2.2.2.1 _ (toN hf)
  refine c_hasFlower ?_
  rw [H.2.2.2.1, if_pos hf]
  refine ⟨fun e => by omega, fun _ M3 h3 => ⟨by omega, fun M4 h4 M5 h5 => ⟨by omega, fun M6 h6 => ⟨by omega, fun M7 h7 M8 h8 => ⟨by omega, fun M9 h9 M10 h10 => hq M10 ?_ ?_⟩⟩⟩⟩⟩
  · subst h3 h4 h5 h6 h7 h8 h9 h10
    exact (((((((Fr.rf.up (by decide)).up (by decide)).up (by decide)).up (by decide)).up (by decide)).up (by decide)).up (by decide)).up (by decide)
  · subst h3 h4 h5 h6 h7 h8 h9 h10
    refine ⟨?_, ?_, six ?_ ?_ ?_ ?_ ?_ ?_⟩ <;> simp [up, en, H.1, H.2.1, H.2.2.1, hv])
theorem c_asNow {n : Nat} {h M : Mem} {f : Int} {Q : Int → Mem → Prop} (H : Hd h M) (W : Wf h) (hf : 0 ≤ f ∧ f < h 0 3) (hq : ∀ M', Fr [36, 37] M M' → Mo M' (h 0 2) (h 1 f.toNat) (en (h 0 8) (h 3 f.toNat) (h 2 f.toNat) (laH h) (h 4 f.toNat) (rmH h)) → Q 0 M') : Con (n + 4) md_X2_asNow [vR 36, vR 1, vI f] M Q := g_X2_asNow (by
  unfold B_X2_asNow
  refine c_inEmptyHand H W hf (fun M2 hF2 hM2 M3 h3 => ?_)
  have hF3 : Fr [36, 37] M M3 := by rw [h3]; exact hF2.up (by decide)
  refine c_lastAngle (H.fr hF3 (by simp; omega)) W (fun M6 h6 => ?_)
  have hF6 : Fr [36, 37] M M6 := by rw [h6]; exact hF3.up (by decide)
  refine c_roomLeft (H.fr hF6 (by simp; omega)) W (fun M9 h9 => hq M9 (by rw [h9]; exact hF6.up (by decide)) ?_)
  have e8 : M2 1 8 = h 0 8 := (hF2 1 8 (by decide)).trans H.2.2.2.2.1
  subst h3 h6 h9
  have hm := hM2.2.2
  refine ⟨?_, ?_, six ?_ ?_ ?_ ?_ ?_ ?_⟩ <;> simp [up, en, hM2.1, hM2.2.1, hm 1 (by decide), hm 2 (by decide), hm 4 (by decide), e8])
theorem c_asThought {n : Nat} {M : Mem} {ru kd a0 a1 a2 a3 a4 a5 b0 b3 b4 b5 : Int} {Q : Int → Mem → Prop} (hM : Mo M ru kd (en a0 a1 a2 a3 a4 a5)) (hq : ∀ M', Fr [36, 37] M M' → Mo M' ru kd (en b0 a1 a2 b3 b4 b5) → Q 0 M') : Con (n + 1) md_X2_asThought [vR 36, vI b0, vI b3, vI b4, vI b5] M Q := g_X2_asThought (by
  unfold B_X2_asThought
  intro M1 h1 M2 h2 M3 h3 M4 h4
  have hm := hM.2.2
  refine hq M4 ?_ ?_
  · subst h1 h2 h3 h4
    exact (((Fr.rf.up (by decide)).up (by decide)).up (by decide)).up (by decide)
  · subst h1 h2 h3 h4
    refine ⟨?_, ?_, six ?_ ?_ ?_ ?_ ?_ ?_⟩ <;> simp [up, en, hM.1, hM.2.1, hm 1 (by decide), hm 2 (by decide)])
