/-! ONE CALL ON BOTH: what changes the hand -/
theorem in5 {o : Nat} (h : o ∈ [1, 2, 3, 4, 5]) : 1 ≤ o ∧ o ≤ 7 := by
  simp only [List.mem_cons, List.not_mem_nil, or_false] at h; omega
theorem PP.hnd {h hk xt xs h' : Mem} {z : Int} {b : Bool} (pp : PP h hk xt xs z b) (W : Wf h') (e2 : 0 ≤ h' 0 2 ∧ h' 0 2 < z) (e3 : h 0 3 ≤ h' 0 3) (e1 : ∀ i : Nat, (i : Int) < h 0 3 → h' 1 i = h 1 i) : PP h' hk xt xs z b := by
  obtain ⟨a1, a2, a3, a4, a5, a6, a7⟩ := pp
  refine ⟨W, e2, a3, a4, a5, a6, fun e => ?_⟩
  obtain ⟨b1, b2, b3, b4⟩ := a7 e
  exact ⟨b1, b2, by omega, fun i hi => by rw [b4 i hi, e1 i (by omega)]⟩
theorem PP.hn0 {h hk xt xs h' : Mem} {z : Int} {b : Bool} (pp : PP h hk xt xs z b) (W : Wf h') (e2 : h' 0 2 = h 0 2) (e3 : h' 0 3 = h 0 3) (e1 : ∀ i : Nat, h' 1 i = h 1 i) : PP h' hk xt xs z b := pp.hnd W (by rw [e2]; exact pp.2.1) (by omega) (fun i _ => e1 i)
theorem seH_o {h : Mem} {w f v : Int} (hw : 0 ≤ w ∧ w ≤ 4) {r k : Nat} (hr : r ≤ 1) (hk : r = 0 → 2 ≤ k) : seH h w f v r k = h r k := by
  unfold seH
  split
  · exact up_ne (by omega)
  · split
    · exact up_ne (by omega)
    · exact up_ne (by omega)
theorem st_set {w f v : Int} : Step md_X9_set md_X10_set [vI w, vI f, vI v] := fun n M ca ⟨h, hk, xt, xs, τ, z, b, p, j, pp⟩ => by
  by_cases c : okS h w f v
  · exact step_of (R := geH h w f) (h' := seH h w f v) j (pp.hn0 (seH_wf pp.1 c.1 c.2.2) (seH_o c.1 (by omega) (by omega)) (seH_o c.1 (by omega) (by omega)) (fun i => seH_o c.1 (by omega) (by omega)))
      (fun Q hq => x_set (n := n + 97) p.1 pp.1 (fun c' => absurd c c') (fun _ M' F H' => hq M' (p.hnd F (fun o q => Or.inl (in5 q)) H' (fun q => absurd (q 1 (by decide)) (by omega))) (kM.of F (fun o q => by have := in5 q; omega))))
      (fun M1 Q j1 hq => mm_set (n := n + 17) j1.1 pp.1 (j1.2.1.rd (by rw [j1.2.2.1]; exact pp.2.2.1.2)) (by rw [j1.2.2.1]; exact pp.2.1) (fun c' => absurd c c') (fun _ M' F H' => hq M' (j1.hnd F (fun _ _ q => q) H') (frH F)))
  · exact step_of (R := -2) j pp
      (fun Q hq => x_set (n := n + 97) p.1 pp.1 (fun _ => hq M p kM.rf) (fun c' => absurd c' c))
      (fun M1 Q j1 hq => mm_set (n := n + 17) j1.1 pp.1 (j1.2.1.rd (by rw [j1.2.2.1]; exact pp.2.2.1.2)) (by rw [j1.2.2.1]; exact pp.2.1) (fun _ => hq M1 j1 Fr.rf) (fun c' => absurd c' c))
theorem flH_02 {h : Mem} {k m : Int} : flH h k m 0 2 = h 0 2 := by
  unfold flH; rw [up_ne (by omega), up_ne (by omega), up_ne (by omega), up_ne (by omega), up_ne (by omega)]
theorem flH_03 {h : Mem} {k m : Int} : flH h k m 0 3 = h 0 3 + 1 := by unfold flH; rw [up_same]
theorem flH_1 {h : Mem} {k m : Int} {i : Nat} (hi : (i : Int) < h 0 3) : flH h k m 1 i = h 1 i := by
  unfold flH; rw [up_ne (by omega), up_ne (by omega), up_ne (by omega), up_ne (by omega), up_ne (by omega)]
theorem st_flower {k m : Int} : Step md_X9_flower md_X10_flower [vI k, vI m] := fun n M ca ⟨h, hk, xt, xs, τ, z, b, p, j, pp⟩ => by
  by_cases c : okF k m
  · by_cases d : h 0 3 < 6
    · exact step_of (R := h 0 3) (h' := flH h k m) j (pp.hnd (flH_wf pp.1 d c.1 c.2) (by rw [flH_02]; exact pp.2.1) (by rw [flH_03]; omega) (fun i hi => flH_1 hi))
        (fun Q hq => x_flower (n := n + 97) p.1 pp.1 (fun c' => absurd c c') (fun _ d' => absurd d d') (fun _ _ M' F H' => hq M' (p.hnd F (fun o q => Or.inl (in5 q)) H' (fun q => absurd (q 1 (by decide)) (by omega))) (kM.of F (fun o q => by have := in5 q; omega))))
        (fun M1 Q j1 hq => mm_flower (n := n + 98) j1.1 pp.1 (fun c' => absurd c c') (fun _ d' => absurd d d') (fun _ _ M' F H' => hq M' (j1.hnd F (fun _ _ q => q) H') (frH F)))
    · exact step_of (R := -4) j pp
        (fun Q hq => x_flower (n := n + 97) p.1 pp.1 (fun c' => absurd c c') (fun _ _ => hq M p kM.rf) (fun _ d' => absurd d' d))
        (fun M1 Q j1 hq => mm_flower (n := n + 98) j1.1 pp.1 (fun c' => absurd c c') (fun _ _ => hq M1 j1 Fr.rf) (fun _ d' => absurd d' d))
  · exact step_of (R := -2) j pp
      (fun Q hq => x_flower (n := n + 97) p.1 pp.1 (fun _ => hq M p kM.rf) (fun c' => absurd c' c) (fun c' => absurd c' c))
      (fun M1 Q j1 hq => mm_flower (n := n + 98) j1.1 pp.1 (fun _ => hq M1 j1 Fr.rf) (fun c' => absurd c' c) (fun c' => absurd c' c))
theorem ru_wf {h : Mem} {t : Int} (W : Wf h) : Wf (up h 0 2 t) := by
  obtain ⟨a1, a2, a3, a4, a5, a6⟩ := W
  have e0 : up h 0 2 t 0 0 = h 0 0 := up_ne (by omega)
  have e1 : up h 0 2 t 0 1 = h 0 1 := up_ne (by omega)
  have e3 : up h 0 2 t 0 3 = h 0 3 := up_ne (by omega)
  have e8 : up h 0 2 t 0 8 = h 0 8 := up_ne (by omega)
  have er : ∀ r k, 1 ≤ r → up h 0 2 t r k = h r k := fun r k hr => up_ne (by omega)
  unfold Wf
  rw [e0, e1, e3, e8]
  refine ⟨a1, a2, a3, a4, fun i hi => ?_, fun s hs => ?_⟩
  · rw [er 1 i (by omega), er 2 i (by omega), er 3 i (by omega), er 4 i (by omega)]; exact a5 i hi
  · rw [er 5 s (by omega), er 6 s (by omega)]; exact a6 s hs
theorem st_force {t : Int} : Step md_X9_force md_X10_force [vI t] := fun n M ca ⟨h, hk, xt, xs, τ, z, b, p, j, pp⟩ => by
  by_cases c : 0 ≤ t ∧ t < z
  · exact step_of (R := h 0 2) (h' := up h 0 2 t) j (pp.hnd (ru_wf pp.1) (by rw [up_same]; exact c) (by rw [up_ne (by omega)]; omega) (fun i _ => up_ne (by omega)))
      (fun Q hq => x_force (n := n + 98) p.1 (fun c' => absurd c (by rw [p.2.2.1] at c'; exact c')) (fun _ M' F H' => hq M' (p.hnd F (fun o q => by simp only [List.mem_cons, List.not_mem_nil, or_false] at q; omega) H' (fun q => absurd (q 1 (by decide)) (by omega))) (kM.of F (fun o q => by simp only [List.mem_cons, List.not_mem_nil, or_false] at q; omega))))
      (fun M1 Q j1 hq => mm_force (n := n + 98) j1.1 (by rw [j1.2.2.1]; exact pp.2.2.1) (fun c' => absurd c (by rw [j1.2.2.1] at c'; exact c')) (fun _ M' F H' => hq M' (j1.hnd F (fun _ _ q => q) H') (frH F)))
  · exact step_of (R := -2) j pp
      (fun Q hq => x_force (n := n + 98) p.1 (fun _ => hq M p kM.rf) (fun c' => absurd (by rw [p.2.2.1] at c'; exact c') c))
      (fun M1 Q j1 hq => mm_force (n := n + 98) j1.1 (by rw [j1.2.2.1]; exact pp.2.2.1) (fun _ => hq M1 j1 Fr.rf) (fun c' => absurd (by rw [j1.2.2.1] at c'; exact c') c))
theorem puH_o {τ : Tau} {h : Mem} {f : Int} {r k : Nat} (hr : r ≤ 1) (hk : r = 0 → k < 8) : puH τ h f r k = h r k := by
  unfold puH adH
  rw [up_ne (by omega), up_ne (by omega), up_ne (by omega), up_ne (by omega)]
theorem in7 {o : Nat} (h : o ∈ (1 :: 5 :: 6 :: 7 :: sC)) : (1 ≤ o ∧ o ≤ 7) ∨ (32 ≤ o ∧ o ≤ 42) := by
  simp only [sC, List.mem_cons, List.not_mem_nil, or_false] at h; omega
theorem st_lay {f : Int} : Step md_X9_lay md_X10_lay [vI f] := fun n M ca ⟨h, hk, xt, xs, τ, z, b, p, j, pp⟩ => by
  by_cases c : 0 ≤ f ∧ f < h 0 3
  · by_cases d : h 4 f.toNat < 1
    · exact step_of (R := -3) j pp
        (fun Q hq => x_lay (n := n + 95) p.1 pp.1 p.2.1 (by rw [p.2.2.1]; exact pp.2.1) (fun c' => absurd c c') (fun _ _ => hq M p kM.rf) (fun _ d' => absurd d (by omega)) (fun _ d' => absurd d'.1 (by omega)))
        (fun M1 Q j1 hq => mm_lay (n := n + 17) j1.1 pp.1 (j1.2.1.rd (by rw [j1.2.2.1]; exact pp.2.2.1.2)) (by rw [j1.2.2.1]; exact pp.2.1) (fun c' => absurd c c') (fun _ _ => hq M1 j1 Fr.rf) (fun _ d' => absurd d (by omega)) (fun _ d' => absurd d'.1 (by omega)))
    · by_cases e : caH h f
      · exact step_of (R := anH τ h f) (h' := puH τ h f) j (pp.hn0 (puH_wf pp.1 c e) (puH_o (by omega) (by omega)) (puH_o (by omega) (by omega)) (fun i => puH_o (by omega) (by omega)))
          (fun Q hq => x_lay (n := n + 95) p.1 pp.1 p.2.1 (by rw [p.2.2.1]; exact pp.2.1) (fun c' => absurd c c') (fun _ d' => absurd d' d) (fun _ _ e' => absurd e e') (fun _ _ M' F H' => hq M' (p.hnd F (fun o q => in7 q) H' (fun q => absurd (q 1 List.mem_cons_self) (by omega))) (kM.of F (fun o q => by have := in7 q; omega))))
          (fun M1 Q j1 hq => mm_lay (n := n + 17) j1.1 pp.1 (j1.2.1.rd (by rw [j1.2.2.1]; exact pp.2.2.1.2)) (by rw [j1.2.2.1]; exact pp.2.1) (fun c' => absurd c c') (fun _ d' => absurd d' d) (fun _ _ e' => absurd e e') (fun _ _ M' F H' => hq M' (j1.hnd F (fun _ _ q => q) H') (frH F)))
      · exact step_of (R := -4) j pp
          (fun Q hq => x_lay (n := n + 95) p.1 pp.1 p.2.1 (by rw [p.2.2.1]; exact pp.2.1) (fun c' => absurd c c') (fun _ d' => absurd d' d) (fun _ _ _ M' F => hq M' (p.scr F (fun _ => sC_in)) (kM.of F (fun _ => sC51))) (fun _ e' => absurd e' e))
          (fun M1 Q j1 hq => mm_lay (n := n + 17) j1.1 pp.1 (j1.2.1.rd (by rw [j1.2.2.1]; exact pp.2.2.1.2)) (by rw [j1.2.2.1]; exact pp.2.1) (fun c' => absurd c c') (fun _ d' => absurd d' d) (fun _ _ _ => hq M1 j1 Fr.rf) (fun _ e' => absurd e' e))
  · exact step_of (R := -2) j pp
      (fun Q hq => x_lay (n := n + 95) p.1 pp.1 p.2.1 (by rw [p.2.2.1]; exact pp.2.1) (fun _ => hq M p kM.rf) (fun c' => absurd c' c) (fun c' => absurd c' c) (fun c' => absurd c' c))
      (fun M1 Q j1 hq => mm_lay (n := n + 17) j1.1 pp.1 (j1.2.1.rd (by rw [j1.2.2.1]; exact pp.2.2.1.2)) (by rw [j1.2.2.1]; exact pp.2.1) (fun _ => hq M1 j1 Fr.rf) (fun c' => absurd c' c) (fun c' => absurd c' c) (fun c' => absurd c' c))
theorem drH_o {h : Mem} {s r k : Nat} (hr : r ≤ 1) (hk : r = 0 → k < 8) : drH h s r k = h r k := by
  unfold drH
  rw [if_neg (by omega), if_neg (by omega), if_neg (by omega)]
theorem in8 {o : Nat} (h : o ∈ [1, 5, 6, 7]) : 1 ≤ o ∧ o ≤ 7 := by
  simp only [List.mem_cons, List.not_mem_nil, or_false] at h; omega
theorem st_draw {s : Int} : Step md_X9_draw md_X10_draw [vI s] := fun n M ca ⟨h, hk, xt, xs, τ, z, b, p, j, pp⟩ => by
  by_cases c : 0 ≤ s ∧ s < h 0 8
  · exact step_of (R := h 5 s.toNat) (h' := drH h s.toNat) j (pp.hn0 (drH_wf pp.1 (by omega)) (drH_o (by omega) (by omega)) (drH_o (by omega) (by omega)) (fun i => drH_o (by omega) (by omega)))
      (fun Q hq => x_draw (n := n + 97) p.1 pp.1 (fun c' => absurd c c') (fun _ M' F H' => hq M' (p.hnd F (fun o q => Or.inl (in8 q)) H' (fun q => absurd (q 1 (by decide)) (by omega))) (kM.of F (fun o q => by have := in8 q; omega))))
      (fun M1 Q j1 hq => mm_draw (n := n + 98) j1.1 pp.1 (fun c' => absurd c c') (fun _ M' F H' => hq M' (j1.hnd F (fun _ _ q => q) H') (frH F)))
  · exact step_of (R := -2) j pp
      (fun Q hq => x_draw (n := n + 97) p.1 pp.1 (fun _ => hq M p kM.rf) (fun c' => absurd c' c))
      (fun M1 Q j1 hq => mm_draw (n := n + 98) j1.1 pp.1 (fun _ => hq M1 j1 Fr.rf) (fun c' => absurd c' c))
