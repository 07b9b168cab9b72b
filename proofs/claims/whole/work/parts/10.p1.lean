/-! SMALL CONTRACTS -/
theorem c_in {n : Nat} {a b c : Int} {M : Mem} {Q : Int → Mem → Prop} (h : Q (if b ≤ a ∧ a ≤ c then 1 else 0) M) : Con (n + 1) md_X10_in [vL a, vL b, vL c] M Q := g_X10_in (by unfold B_X10_in l_c; grind)
theorem c_within {n : Nat} {a b c : Int} {M : Mem} {Q : Int → Mem → Prop} (h : Q (if a < b then b else if c < a then c else a) M) : Con (n + 1) md_X10_within [vI a, vI b, vI c] M Q := g_X10_within (by unfold B_X10_within; grind)
theorem c_max {n : Nat} {a b : Int} {M : Mem} {Q : Int → Mem → Prop} (h : Q (max a b) M) : Con (n + 1) md_J9_max_7cf53 [vI a, vI b] M Q := g_J9_max_7cf53 (by unfold B_J9_max_7cf53; grind)
theorem c_min {n : Nat} {a b : Int} {M : Mem} {Q : Int → Mem → Prop} (h : Q (min a b) M) : Con (n + 1) md_J9_min_7cf53 [vI a, vI b] M Q := g_J9_min_7cf53 (by unfold B_J9_min_7cf53; grind)
theorem c_isFlower {n : Nat} {f : Int} {M : Mem} {Q : Int → Mem → Prop} (hm : 0 ≤ M 51 11 ∧ M 51 11 ≤ 6) (h : Q (if 0 ≤ f ∧ f < M 51 11 then 1 else 0) M) : Con (n + 2) md_X10_isFlower [vR 51, vI f] M Q := g_X10_isFlower (by
  unfold B_X10_isFlower
  refine c_in ?_
  rw [w32_id (by omega)]
  grind)
theorem c_hasFlower {n : Nat} {f : Int} {M : Mem} {Q : Int → Mem → Prop} (h : Q (if 0 ≤ f ∧ f < M 1 3 then 1 else 0) M) : Con (n + 1) md_X0_hasFlower [vR 1, vI f] M Q := g_X0_hasFlower (by unfold B_X0_hasFlower; grind)
theorem c_hasStem {n : Nat} {f : Int} {M : Mem} {Q : Int → Mem → Prop} (h : Q (if 0 ≤ f ∧ f < M 1 8 then 1 else 0) M) : Con (n + 1) md_X0_hasStem [vR 1, vI f] M Q := g_X0_hasStem (by unfold B_X0_hasStem; grind)
/-- how thick -/
def thk (k v : Int) : Int := if k = 1 then 3 + v else if k = 2 ∨ k = 4 then 1 else if k = 3 then (3 + v) / 2 else if k = 5 then 2 + v / 2 else 3
theorem c_Kthick {n : Nat} {k v : Int} {M : Mem} {Q : Int → Mem → Prop} (hv : 0 ≤ v ∧ v ≤ 9) (h : Q (thk k v) M) : Con (n + 1) md_X1_thick [vI k, vI v] M Q := g_X1_thick (by
  unfold B_X1_thick
  unfold thk at h
  have e1 : w32 (3 + v) = 3 + v := w32_id (by omega)
  have e2 : Int.tdiv (3 + v) 2 = (3 + v) / 2 := Int.tdiv_eq_ediv_of_nonneg (by omega)
  have e3 : Int.tdiv v 2 = v / 2 := Int.tdiv_eq_ediv_of_nonneg (by omega)
  have e4 : w32 ((3 + v) / 2) = (3 + v) / 2 := w32_id (by omega)
  have e5 : w32 (v / 2) = v / 2 := w32_id (by omega)
  have e6 : w32 (2 + v / 2) = 2 + v / 2 := w32_id (by omega)
  rw [e1, e2, e4, e3, e5, e6]
  grind)
