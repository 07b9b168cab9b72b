/-! ONE CALL ON BOTH: tape, texts, the image, sheets -/
theorem in6 {o : Nat} (h : o ∈ [15, 16]) : 15 ≤ o ∧ o ≤ 16 := by
  simp only [List.mem_cons, List.not_mem_nil, or_false] at h; omega
theorem st_feed {v : Int} : Step md_X9_feed md_X10_feed [vI v] := fun n M ca ⟨h, hk, xt, xs, τ, z, b, p, j, pp⟩ => by
  by_cases c : 0 ≤ v ∧ v ≤ 255
  · by_cases d : xt 1 0 < 160
    · have p5 := pp.2.2.2.2.1
      refine step_of (R := xt 1 0 + 1) (xt' := up (up xt 2 (xt 1 0).toNat v) 1 0 (xt 1 0 + 1)) j ⟨pp.1, pp.2.1, pp.2.2.1, pp.2.2.2.1, by rw [up_same]; omega, fun i hi => ?_, pp.2.2.2.2.2.2⟩
        (fun Q hq => x_feed (n := n + 98) p.2.2.2.2.1 p5 (fun c' => absurd c c') (fun _ d' => absurd d d') (fun _ _ M' F H' => hq M' (p.fr F (Or.inl fun o q => by have := in6 q; omega) (fun _ => rfl) (Or.inl fun o q => by have := in6 q; omega) (fun _ => rfl) (Or.inr H') (fun q => absurd (q 15 (by decide)) (by omega)) (fun o q => by have := in6 q; omega) (fun o q => by have := in6 q; omega)) (kM.of F (fun o q => by have := in6 q; omega))))
        (fun M1 Q j1 hq => mm_feed (n := n + 98) j1.2.2.2.2.1 p5 (fun c' => absurd c c') (fun _ d' => absurd d d') (fun _ _ M' F H' => hq M' ?_ (frP F (fun o k q => by unfold sT at q; omega))))
      · rw [up_same] at hi
        rw [up_ne (by omega)]
        by_cases e : i = (xt 1 0).toNat
        · subst e; rw [up_same]; exact c.1
        · rw [up_ne (by omega)]; exact pp.2.2.2.2.2.1 i (by omega)
      · obtain ⟨a1, a2, a3, a4, a5, a6, a7⟩ := j1
        exact ⟨a1.fr2 F (fun o k q => by unfold sT; omega), a2.fr F (fun o k q => by unfold sT; omega), (F 51 3 (by unfold sT; omega)).trans a3, a4.fr F (fun o k q1 q2 => by unfold sT; omega), H', fun e => (F 51 37 (by unfold sT; omega)).trans (a6 e), fun e => ⟨by rw [F 51 37 (by unfold sT; omega)]; exact (a7 e).1, (a7 e).2.fr F (fun o k q => by unfold sK at q; unfold sT; omega)⟩⟩
    · exact step_of (R := -4) j pp
        (fun Q hq => x_feed (n := n + 98) p.2.2.2.2.1 pp.2.2.2.2.1 (fun c' => absurd c c') (fun _ _ => hq M p kM.rf) (fun _ d' => absurd d' d))
        (fun M1 Q j1 hq => mm_feed (n := n + 98) j1.2.2.2.2.1 pp.2.2.2.2.1 (fun c' => absurd c c') (fun _ _ => hq M1 j1 Fr.rf) (fun _ d' => absurd d' d))
  · exact step_of (R := -2) j pp
      (fun Q hq => x_feed (n := n + 98) p.2.2.2.2.1 pp.2.2.2.2.1 (fun _ => hq M p kM.rf) (fun c' => absurd c' c) (fun c' => absurd c' c))
      (fun M1 Q j1 hq => mm_feed (n := n + 98) j1.2.2.2.2.1 pp.2.2.2.2.1 (fun _ => hq M1 j1 Fr.rf) (fun c' => absurd c' c) (fun c' => absurd c' c))
theorem sZ_in {o : Nat} (h : o ∈ sZ) : o = 15 ∨ (17 ≤ o ∧ o ≤ 35) := by
  simp only [sZ, List.mem_cons, List.not_mem_nil, or_false] at h; omega
section TXT
variable {h hk xt xs : Mem} {τ τ' : Tau} {z z' : Int} {b : Bool} {M M' : Mem}
theorem PI.txt (p : PI h hk xt xs τ z b M) (F : Fr sZ M M') (h15 : M' 15 1 = 0) (h17 : M' 17 0 = z') (T' : TC τ' M') : PI h hk (up xt 1 0 0) xs τ' z' b M' := by
  obtain ⟨a1, a2, a3, a4, a5, a6, a7⟩ := p
  refine ⟨a1.fr F (fun o h1 h2 q => by have := sZ_in q; omega), T', h17, a4.fr F (fun o h1 h2 q => by have := sZ_in q; omega), ⟨by rw [up_same]; exact h15, fun i hi => by rw [up_same] at hi; omega⟩, fun e => (F 0 2 (fun q => by have := sZ_in q; omega)).trans (a6 e), fun e => ⟨by rw [F 0 2 (fun q => by have := sZ_in q; omega)]; exact (a7 e).1, (a7 e).2.fr F (fun o h1 h2 q => by have := sZ_in q; omega)⟩⟩
theorem MJ.txt (j : MJ h hk xt xs τ z b M) (F : Fp sTX M M') (h6 : M' 51 6 = 0) (h3 : M' 51 3 = z') (T' : RX τ' M') : MJ h hk (up xt 1 0 0) xs τ' z' b M' := by
  obtain ⟨a1, a2, a3, a4, a5, a6, a7⟩ := j
  exact ⟨a1.fr2 F (fun o k q => by unfold sTX; omega), T', h3, a4.fr F (fun o k q1 q2 => by unfold sTX; omega), ⟨by rw [up_same]; exact h6, fun i hi => by rw [up_same] at hi; omega⟩, fun e => (F 51 37 (by unfold sTX; omega)).trans (a6 e), fun e => ⟨by rw [F 51 37 (by unfold sTX; omega)]; exact (a7 e).1, (a7 e).2.fr F (fun o k q => by unfold sK at q; unfold sTX; omega)⟩⟩
theorem PP.txt (pp : PP h hk xt xs z b) (h1 : z ≤ z') (h2 : z' ≤ 6) : PP h hk (up xt 1 0 0) xs z' b := by
  obtain ⟨a1, a2, a3, a4, a5, a6, a7⟩ := pp
  exact ⟨a1, by omega, by omega, a4, by rw [up_same]; omega, fun i hi => by rw [up_same] at hi; omega, fun e => by obtain ⟨b1, b2, b3⟩ := a7 e; exact ⟨b1, by omega, b3⟩⟩
theorem frT (hf : Fp sTX M M') : Fr sML M M' := frP hf (fun o k q => by unfold sTX at q; omega)
end TXT
theorem st_text : Step md_X9_text md_X10_text [] := fun n M ca ⟨h, hk, xt, xs, τ, z, b, p, j, pp⟩ => by
  have pz := p.2.2.1
  by_cases c : z < 6
  · match hr : rE (xt 2) (xt 1 0).toNat with
    | .inl f =>
      exact step_of (R := w32 (-100 - f)) j (pp.txt (Int.le_refl z) pp.2.2.1.2)
        (fun Q hq => x_text (n := n + 50) jl jc p.2.2.2.2.1 pp.2.2.2.2.1 p.2.1 (fun c' => absurd c (by rw [pz] at c'; exact c')) (fun _ f' hf M' F h15 h17 T' => by
          rw [hr] at hf; cases hf
          exact hq M' (p.txt F h15 (h17.trans pz) T') (kM.of F (fun o q => by have := sZ_in q; omega))) (fun _ q' hf => by rw [hr] at hf; cases hf))
        (fun M1 Q j1 hq => mm_text (n := n + 56) j1.2.2.2.2.1 pp.2.2.2.2.1 pp.2.2.2.2.2.1 (by rw [j1.2.2.1]; exact pp.2.2.1) j1.2.1 (fun c' => absurd c (by rw [j1.2.2.1] at c'; exact c')) (fun _ f' hf M' F h6 h3 T' => by
          rw [hr] at hf; cases hf
          exact hq M' (j1.txt F h6 (h3.trans j1.2.2.1) T') (frT F)) (fun _ q' hf => by rw [hr] at hf; cases hf))
    | .inr q =>
      exact step_of (R := z) (z' := z + 1) (τ' := tau1 τ (xt 2) (xt 1 0).toNat z) j (pp.txt (by omega) (by omega))
        (fun Q hq => x_text (n := n + 50) jl jc p.2.2.2.2.1 pp.2.2.2.2.1 p.2.1 (fun c' => absurd c (by rw [pz] at c'; exact c')) (fun _ f' hf => by rw [hr] at hf; cases hf) (fun _ q' hf M' F h15 h17 T' => by
          rw [pz] at h17 T' ⊢
          exact hq M' (p.txt F h15 h17 T') (kM.of F (fun o q => by have := sZ_in q; omega))))
        (fun M1 Q j1 hq => mm_text (n := n + 56) j1.2.2.2.2.1 pp.2.2.2.2.1 pp.2.2.2.2.2.1 (by rw [j1.2.2.1]; exact pp.2.2.1) j1.2.1 (fun c' => absurd c (by rw [j1.2.2.1] at c'; exact c')) (fun _ f' hf => by rw [hr] at hf; cases hf) (fun _ q' hf M' F h6 h3 T' => by
          rw [j1.2.2.1] at h3 T' ⊢
          exact hq M' (j1.txt F h6 h3 T') (frT F)))
  · exact step_of (R := -4) j pp
      (fun Q hq => x_text (n := n + 50) jl jc p.2.2.2.2.1 pp.2.2.2.2.1 p.2.1 (fun _ => hq M p kM.rf) (fun c' => absurd (by rw [pz] at c'; exact c') c) (fun c' => absurd (by rw [pz] at c'; exact c') c))
      (fun M1 Q j1 hq => mm_text (n := n + 56) j1.2.2.2.2.1 pp.2.2.2.2.1 pp.2.2.2.2.2.1 (by rw [j1.2.2.1]; exact pp.2.2.1) j1.2.1 (fun _ => hq M1 j1 Fr.rf) (fun c' => absurd (by rw [j1.2.2.1] at c'; exact c') c) (fun c' => absurd (by rw [j1.2.2.1] at c'; exact c') c))
theorem in9 {o : Nat} (h : o ∈ [0, 8, 9, 10, 11, 12, 13, 14]) : o = 0 ∨ (8 ≤ o ∧ o ≤ 14) := by
  simp only [List.mem_cons, List.not_mem_nil, or_false] at h; omega
theorem st_image : Step md_X9_image md_X10_image [] := fun n M ca ⟨h, hk, xt, xs, τ, z, b, p, j, pp⟩ => by
  have h3 := pp.1.2.2.1
  refine step_of (R := h 0 3) (hk' := h) (b' := true) (τ' := τ) j ⟨pp.1, pp.2.1, pp.2.2.1, pp.2.2.2.1, pp.2.2.2.2.1, pp.2.2.2.2.2.1, fun _ => ⟨pp.1, pp.2.1, Int.le_refl _, fun i _ => rfl⟩⟩
    (fun Q hq => x_image (n := n + 98) p.1 pp.1 (fun M' F e1 K' => hq M' ?_ (kM.of F (fun o q => by have := in9 q; omega))))
    (fun M1 Q j1 hq => mm_image (n := n + 99) j1.1 pp.1 (fun M' F K' => hq M' ?_ (frP F (fun o k q => by unfold sK at q; omega))))
  · obtain ⟨a1, a2, a3, a4, a5, a6, a7⟩ := p
    exact ⟨a1.fr F (fun o h1 h2 q => by have := in9 q; omega), a2.fr F (fun o h1 h2 q => by have := in9 q; omega), (F 17 0 (by decide)).trans a3, a4.fr F (fun o h1 h2 q => by have := in9 q; omega), a5.fr F (fun o h1 h2 q => by have := in9 q; omega), (fun e => by cases e), fun _ => ⟨by rw [e1]; decide, K'⟩⟩
  · obtain ⟨a1, a2, a3, a4, a5, a6, a7⟩ := j1
    exact ⟨a1.fr2 F (fun o k q => by unfold sK; omega), a2.fr F (fun o k q => by unfold sK; omega), (F 51 3 (by unfold sK; omega)).trans a3, a4.fr F (fun o k q1 q2 => by unfold sK; omega), a5.fr F (fun o k q => by unfold sK; omega), (fun e => by cases e), fun _ => ⟨by rw [K'.1]; omega, K'⟩⟩
theorem in10 {o : Nat} (h : o ∈ [1, 2, 3, 4, 5, 6, 7]) : 1 ≤ o ∧ o ≤ 7 := by
  simp only [List.mem_cons, List.not_mem_nil, or_false] at h; omega
theorem st_back : Step md_X9_back md_X10_back [] := fun n M ca ⟨h, hk, xt, xs, τ, z, b, p, j, pp⟩ => by
  cases b with
  | false =>
    exact step_of (R := -3) j pp
      (fun Q hq => x_back (n := n + 98) (hk := hk) (fun _ => hq M p kM.rf) (fun e => absurd (p.2.2.2.2.2.1 rfl) e) (fun e => absurd (p.2.2.2.2.2.1 rfl) e))
      (fun M1 Q j1 hq => mm_back (n := n + 99) (hk := hk) j1.1 (fun _ => hq M1 j1 Fr.rf) (fun e => absurd (j1.2.2.2.2.2.1 rfl) e) (fun e => absurd (j1.2.2.2.2.2.1 rfl) e))
  | true =>
    obtain ⟨b1, b2, b3, b4⟩ := pp.2.2.2.2.2.2 rfl
    exact step_of (R := hk 0 3) (h' := hk) j ⟨b1, b2, pp.2.2.1, pp.2.2.2.1, pp.2.2.2.2.1, pp.2.2.2.2.2.1, fun _ => ⟨b1, b2, Int.le_refl _, fun i _ => rfl⟩⟩
      (fun Q hq => x_back (n := n + 98) (hk := hk) (fun e => absurd e (p.2.2.2.2.2.2 rfl).1) (fun _ => ⟨(p.2.2.2.2.2.2 rfl).2, b1⟩) (fun _ M' F H' => hq M' (p.hnd F (fun o q => Or.inl (in10 q)) H' (fun q => absurd (q 1 (by decide)) (by omega))) (kM.of F (fun o q => by have := in10 q; omega))))
      (fun M1 Q j1 hq => mm_back (n := n + 99) (hk := hk) j1.1 (fun e => absurd e (j1.2.2.2.2.2.2 rfl).1) (fun _ => ⟨(j1.2.2.2.2.2.2 rfl).2, b1, b3, b4⟩) (fun _ M' F H' => hq M' (j1.hnd F (fun _ _ q => q) H') (frH F)))
theorem in11 {o : Nat} (h : o ∈ [44, 45, 47, 48, 49, 50]) : 43 ≤ o ∧ o ≤ 50 := by
  simp only [List.mem_cons, List.not_mem_nil, or_false] at h; omega
theorem in12 {o : Nat} (h : o ∈ (44 :: 45 :: 47 :: 48 :: 49 :: 50 :: sC)) : (43 ≤ o ∧ o ≤ 50) ∨ (32 ≤ o ∧ o ≤ 42) := by
  simp only [sC, List.mem_cons, List.not_mem_nil, or_false] at h; omega
theorem PP.sht {h hk xt xs xs' : Mem} {z : Int} {b : Bool} (pp : PP h hk xt xs z b) (W : WS xs') : PP h hk xt xs' z b := ⟨pp.1, pp.2.1, pp.2.2.1, W, pp.2.2.2.2.1, pp.2.2.2.2.2.1, pp.2.2.2.2.2.2⟩
section SHT
variable {h hk xt xs xs' : Mem} {τ : Tau} {z : Int} {b : Bool} {M M' : Mem}
theorem PI.st (p : PI h hk xt xs τ z b M) (F : Fr [44, 45, 47, 48, 49, 50] M M') (H' : Shc xs' M') : PI h hk xt xs' τ z b M' := p.sht F (fun o q => Or.inl (in11 q)) H' (fun q => absurd (q 44 (by decide)) (by omega))
theorem kM.st (F : Fr [44, 45, 47, 48, 49, 50] M M') : kM M M' := kM.of F (fun o q => by have := in11 q; omega)
theorem MJ.st (j : MJ h hk xt xs τ z b M) (F : Fp sS M M') (H' : Shm xs' M') : MJ h hk xt xs' τ z b M' := j.sht F (fun o k q => Or.inr q) H'
end SHT
theorem st_sheet {s so k : Int} : Step md_X9_sheet md_X10_sheet [vI s, vI so, vI k] := fun n M ca ⟨h, hk, xt, xs, τ, z, b, p, j, pp⟩ => by
  have W := pp.2.2.2.1
  by_cases c : okN s ∧ (so = -1 ∨ ((0 ≤ so ∧ so ≤ 2) ∧ k ≤ 40))
  · by_cases d : so = -1
    · exact step_of (R := 1) (xs' := shB xs s.toNat (-1) 0) j (pp.sht (shB_ws W (by omega) (fun e => absurd rfl e)))
        (fun Q hq => x_sheet (n := n + 97) p.2.2.2.1 (fun c' => absurd c c') (fun _ e => absurd d (by omega)) (fun _ _ M' F H' => hq M' (p.st F H') (kM.st F)) (fun _ e => absurd d (by omega)))
        (fun M1 Q j1 hq => mm_sheet (n := n + 97) j1.2.2.2.1 W (fun c' => absurd c c') (fun _ e => absurd d (by omega)) (fun _ _ M' F H' => hq M' (j1.st F H') (frS F)) (fun _ e => absurd d (by omega)))
    · have e2 : 0 ≤ so ∧ so ≤ 2 := (c.2.resolve_left d).1
      have e4 : k ≤ 40 := (c.2.resolve_left d).2
      by_cases e : k < 0
      · exact step_of (R := -14) j pp
          (fun Q hq => x_sheet (n := n + 97) p.2.2.2.1 (fun c' => absurd c c') (fun _ _ _ => hq M p kM.rf) (fun _ d' => absurd d' d) (fun _ _ q => absurd e (by omega)))
          (fun M1 Q j1 hq => mm_sheet (n := n + 97) j1.2.2.2.1 W (fun c' => absurd c c') (fun _ _ _ => hq M1 j1 Fr.rf) (fun _ d' => absurd d' d) (fun _ _ q => absurd e (by omega)))
      · exact step_of (R := 1) (xs' := shB xs s.toNat so k) j (pp.sht (shB_ws W (by omega) (fun _ => by omega)))
          (fun Q hq => x_sheet (n := n + 97) p.2.2.2.1 (fun c' => absurd c c') (fun _ _ q => absurd q e) (fun _ d' => absurd d' d) (fun _ _ _ M' F H' => hq M' (p.st F H') (kM.st F)))
          (fun M1 Q j1 hq => mm_sheet (n := n + 97) j1.2.2.2.1 W (fun c' => absurd c c') (fun _ _ q => absurd q e) (fun _ d' => absurd d' d) (fun _ _ _ M' F H' => hq M' (j1.st F H') (frS F)))
  · have cc : ¬ (okN s ∧ (so = -1 ∨ ((0 ≤ so ∧ so ≤ 2) ∧ k ≤ 40))) := c
    exact step_of (R := -2) j pp
      (fun Q hq => x_sheet (n := n + 97) p.2.2.2.1 (fun _ => hq M p kM.rf) (fun q1 q2 q3 => absurd ⟨q1, Or.inr ⟨q2, by omega⟩⟩ cc) (fun q1 q2 => absurd ⟨q1, Or.inl q2⟩ cc) (fun q1 q2 q3 => absurd ⟨q1, Or.inr ⟨q2, q3.2⟩⟩ cc))
      (fun M1 Q j1 hq => mm_sheet (n := n + 97) j1.2.2.2.1 W (fun _ => hq M1 j1 Fr.rf) (fun q1 q2 q3 => absurd ⟨q1, Or.inr ⟨q2, by omega⟩⟩ cc) (fun q1 q2 => absurd ⟨q1, Or.inl q2⟩ cc) (fun q1 q2 q3 => absurd ⟨q1, Or.inr ⟨q2, q3.2⟩⟩ cc))
theorem WS.o {x x' : Mem} (W : WS x) (e : ∀ r k, r ≤ 4 → x' r k = x r k) : WS x' := fun s hs => by rw [e 3 s (by omega), e 4 s (by omega)]; exact W s hs
theorem st_cell {s i v : Int} : Step md_X9_cell md_X10_cell [vI s, vI i, vI v] := fun n M ca ⟨h, hk, xt, xs, τ, z, b, p, j, pp⟩ => by
  have W := pp.2.2.2.1
  by_cases c : okN s
  · by_cases d : xs 3 s.toNat = -1
    · exact step_of (R := -11) j pp
        (fun Q hq => x_cell (n := n + 96) p.2.2.2.1 W (fun c' => absurd c c') (fun _ _ => hq M p kM.rf) (fun _ d' => absurd d d') (fun _ d' => absurd d d'))
        (fun M1 Q j1 hq => mm_cell (n := n + 97) j1.2.2.2.1 W (fun c' => absurd c c') (fun _ _ => hq M1 j1 Fr.rf) (fun _ d' => absurd d d') (fun _ d' => absurd d d'))
    · by_cases e : 0 ≤ i ∧ i < xs 4 s.toNat
      · exact step_of (R := 1) (xs' := up xs (5 + s.toNat) i.toNat (wrV (xs 3 s.toNat) v)) j (pp.sht (W.o (fun r k hr => up_ne (by omega))))
          (fun Q hq => x_cell (n := n + 96) p.2.2.2.1 W (fun c' => absurd c c') (fun _ d' => absurd d' d) (fun _ _ e' => absurd e e') (fun _ _ _ M' F H' => hq M' (p.st F H') (kM.st F)))
          (fun M1 Q j1 hq => mm_cell (n := n + 97) j1.2.2.2.1 W (fun c' => absurd c c') (fun _ d' => absurd d' d) (fun _ _ e' => absurd e e') (fun _ _ _ M' F H' => hq M' (j1.st F H') (frS F)))
      · exact step_of (R := -12) j pp
          (fun Q hq => x_cell (n := n + 96) p.2.2.2.1 W (fun c' => absurd c c') (fun _ d' => absurd d' d) (fun _ _ _ => hq M p kM.rf) (fun _ _ e' => absurd e' e))
          (fun M1 Q j1 hq => mm_cell (n := n + 97) j1.2.2.2.1 W (fun c' => absurd c c') (fun _ d' => absurd d' d) (fun _ _ _ => hq M1 j1 Fr.rf) (fun _ _ e' => absurd e' e))
  · exact step_of (R := -2) j pp
      (fun Q hq => x_cell (n := n + 96) p.2.2.2.1 W (fun _ => hq M p kM.rf) (fun c' => absurd c' c) (fun c' => absurd c' c) (fun c' => absurd c' c))
      (fun M1 Q j1 hq => mm_cell (n := n + 97) j1.2.2.2.1 W (fun _ => hq M1 j1 Fr.rf) (fun c' => absurd c' c) (fun c' => absurd c' c) (fun c' => absurd c' c))
theorem st_copy {s i t q k : Int} : Step md_X9_copy md_X10_copy [vI s, vI i, vI t, vI q, vI k] := fun n M ca ⟨h, hk, xt, xs, τ, z, b, p, j, pp⟩ => by
  have W := pp.2.2.2.1
  have hk32 : r32 k := ca (vI k) (by simp)
  have hkk : k ≤ 2147483647 := hk32.2
  by_cases c : okN s ∧ okN t
  · by_cases d : xs 3 s.toNat = -1 ∨ xs 3 t.toNat = -1
    · exact step_of (R := -11) j pp
        (fun Q hq => x_copy (n := n + 97) p.2.2.2.1 W hkk (fun c' => absurd c c') (fun _ _ _ => hq M p kM.rf) (fun _ _ d1 d2 => absurd d (by omega)) (fun _ _ d1 d2 => absurd d (by omega)) (fun _ _ d1 d2 => absurd d (by omega)))
        (fun M1 Q j1 hq => mm_copy (n := n + 97) j1.2.2.2.1 W hkk (fun c' => absurd c c') (fun _ _ _ => hq M1 j1 Fr.rf) (fun _ _ d1 d2 => absurd d (by omega)) (fun _ _ d1 d2 => absurd d (by omega)) (fun _ _ d1 d2 => absurd d (by omega)))
    · by_cases e : xs 3 s.toNat = xs 3 t.toNat
      · by_cases f : okC xs s i t q k
        · exact step_of (R := k) (xs' := cpX xs s.toNat i.toNat t.toNat q.toNat k.toNat) j (pp.sht (W.o (fun r u hr => by unfold cpX upr; rw [if_neg (by omega)])))
            (fun Q hq => x_copy (n := n + 97) p.2.2.2.1 W hkk (fun c' => absurd c c') (fun _ _ d' => absurd d' d) (fun _ _ _ _ e' => absurd e e') (fun _ _ _ _ f' => absurd f f') (fun _ _ _ _ _ M' F H' => hq M' (p.st F H') (kM.st F)))
            (fun M1 Q j1 hq => mm_copy (n := n + 97) j1.2.2.2.1 W hkk (fun c' => absurd c c') (fun _ _ d' => absurd d' d) (fun _ _ _ _ e' => absurd e e') (fun _ _ _ _ f' => absurd f f') (fun _ _ _ _ _ M' F H' => hq M' (j1.st F H') (frS F)))
        · exact step_of (R := -12) j pp
            (fun Q hq => x_copy (n := n + 97) p.2.2.2.1 W hkk (fun c' => absurd c c') (fun _ _ d' => absurd d' d) (fun _ _ _ _ e' => absurd e e') (fun _ _ _ _ _ => hq M p kM.rf) (fun _ _ _ _ f' => absurd f' f))
            (fun M1 Q j1 hq => mm_copy (n := n + 97) j1.2.2.2.1 W hkk (fun c' => absurd c c') (fun _ _ d' => absurd d' d) (fun _ _ _ _ e' => absurd e e') (fun _ _ _ _ _ => hq M1 j1 Fr.rf) (fun _ _ _ _ f' => absurd f' f))
      · exact step_of (R := -13) j pp
          (fun Q hq => x_copy (n := n + 97) p.2.2.2.1 W hkk (fun c' => absurd c c') (fun _ _ d' => absurd d' d) (fun _ _ _ _ _ => hq M p kM.rf) (fun _ _ _ e' => absurd e' e) (fun _ _ _ e' => absurd e' e))
          (fun M1 Q j1 hq => mm_copy (n := n + 97) j1.2.2.2.1 W hkk (fun c' => absurd c c') (fun _ _ d' => absurd d' d) (fun _ _ _ _ _ => hq M1 j1 Fr.rf) (fun _ _ _ e' => absurd e' e) (fun _ _ _ e' => absurd e' e))
  · exact step_of (R := -2) j pp
      (fun Q hq => x_copy (n := n + 97) p.2.2.2.1 W hkk (fun _ => hq M p kM.rf) (fun c1 c2 => absurd ⟨c1, c2⟩ c) (fun c1 c2 => absurd ⟨c1, c2⟩ c) (fun c1 c2 => absurd ⟨c1, c2⟩ c) (fun c1 c2 => absurd ⟨c1, c2⟩ c))
      (fun M1 Q j1 hq => mm_copy (n := n + 97) j1.2.2.2.1 W hkk (fun _ => hq M1 j1 Fr.rf) (fun c1 c2 => absurd ⟨c1, c2⟩ c) (fun c1 c2 => absurd ⟨c1, c2⟩ c) (fun c1 c2 => absurd ⟨c1, c2⟩ c) (fun c1 c2 => absurd ⟨c1, c2⟩ c))
theorem st_film {s f k : Int} : Step md_X9_film md_X10_film [vI s, vI f, vI k] := fun n M ca ⟨h, hk, xt, xs, τ, z, b, p, j, pp⟩ => by
  have W := pp.2.2.2.1
  by_cases c : okN s ∧ (0 ≤ f ∧ f < h 0 3) ∧ (0 ≤ k ∧ k ≤ 20)
  · obtain ⟨c1, c2, c3⟩ := c
    have c : okN s ∧ (0 ≤ f ∧ f < h 0 3) ∧ (0 ≤ k ∧ k ≤ 20) := ⟨c1, c2, c3⟩
    have W' : WS (fmX τ h xs s f k) := (shB_ws (s := s.toNat) (so := 0) (k := k) W (by omega) (fun _ => by omega)).o (fun r u hr => by unfold fmX upr; rw [if_neg (by omega)])
    exact step_of (R := k) (xs' := fmX τ h xs s f k) j (pp.sht W')
      (fun Q hq => x_film (n := n + 95) p.1 pp.1 p.2.1 (by rw [p.2.2.1]; exact pp.2.1) p.2.2.2.1 W (fun c' => absurd c c') (fun _ _ _ M' F H' => hq M' (p.sht F (fun o q => in12 q) H' (fun q => absurd (q 44 List.mem_cons_self) (by omega))) (kM.of F (fun o q => by have := in12 q; omega))))
      (fun M1 Q j1 hq => mm_film (n := n + 17) j1.1 pp.1 (j1.2.1.rd (by rw [j1.2.2.1]; exact pp.2.2.1.2)) (by rw [j1.2.2.1]; exact pp.2.1) j1.2.2.2.1 W (fun c' => absurd c c') (fun _ _ _ M' F H' => hq M' (j1.sht F (fun _ _ q => q) H') (frP F (fun o k q => by unfold sFS sF sL sS at q; omega))))
  · exact step_of (R := -2) j pp
      (fun Q hq => x_film (n := n + 95) p.1 pp.1 p.2.1 (by rw [p.2.2.1]; exact pp.2.1) p.2.2.2.1 W (fun _ => hq M p kM.rf) (fun c1 c2 c3 => absurd ⟨c1, c2, c3⟩ c))
      (fun M1 Q j1 hq => mm_film (n := n + 17) j1.1 pp.1 (j1.2.1.rd (by rw [j1.2.2.1]; exact pp.2.2.1.2)) (by rw [j1.2.2.1]; exact pp.2.1) j1.2.2.2.1 W (fun _ => hq M1 j1 Fr.rf) (fun c1 c2 c3 => absurd ⟨c1, c2, c3⟩ c))
theorem fsS_pp {x : Mem} {s : Nat} {a : Int} {hk xt xs : Mem} {z : Int} {b : Bool} : ∀ (k i : Nat) (h : Mem) (c : Int), PP h hk xt xs z b → PP (fsS x s a k i h c).2 hk xt xs z b
  | 0, _, _, _, pp => pp
  | k + 1, i, h, c, pp => by
    unfold fsS
    split
    · split
      · rename_i e
        exact fsS_pp k (i + 1) _ (c + 1) (pp.hnd (flH_wf pp.1 e.2 e.1.1 e.1.2) (by rw [flH_02]; exact pp.2.1) (by rw [flH_03]; omega) (fun i hi => flH_1 hi))
      · exact fsS_pp k (i + 1) h c pp
    · exact pp
theorem st_flowers {s so a k : Int} : Step md_X9_flowers md_X10_flowers [vI s, vI so, vI a, vI k] := fun n M ca ⟨h, hk, xt, xs, τ, z, b, p, j, pp⟩ => by
  have W := pp.2.2.2.1
  have ha : r32 a := ca (vI a) (by simp)
  by_cases c : okN s ∧ (0 ≤ so ∧ so ≤ 2) ∧ (0 ≤ k ∧ k ≤ 6)
  · by_cases d : xs 3 s.toNat = -1
    · exact step_of (R := -11) j pp
        (fun Q hq => x_flowers (n := n + 95) p.1 pp.1 p.2.2.2.1 W ha (fun c' => absurd c c') (fun _ _ _ _ => hq M p kM.rf) (fun _ _ _ d' => absurd d d') (fun _ _ _ d' => absurd d d'))
        (fun M1 Q j1 hq => mm_flowers (n := n + 97) j1.1 pp.1 j1.2.2.2.1 W ha (fun c' => absurd c c') (fun _ _ _ _ => hq M1 j1 Fr.rf) (fun _ _ _ d' => absurd d d') (fun _ _ _ d' => absurd d d'))
    · by_cases e : xs 3 s.toNat = so
      · exact step_of (R := (fsS xs s.toNat a k.toNat 0 h 0).1) (h' := (fsS xs s.toNat a k.toNat 0 h 0).2) j (fsS_pp _ _ _ _ pp)
          (fun Q hq => x_flowers (n := n + 95) p.1 pp.1 p.2.2.2.1 W ha (fun c' => absurd c c') (fun _ _ _ d' => absurd d' d) (fun _ _ _ _ e' => absurd e e') (fun _ _ _ _ _ M' F H' _ => hq M' (p.hnd F (fun o q => Or.inl (in5 q)) H' (fun q => absurd (q 1 (by decide)) (by omega))) (kM.of F (fun o q => by have := in5 q; omega))))
          (fun M1 Q j1 hq => mm_flowers (n := n + 97) j1.1 pp.1 j1.2.2.2.1 W ha (fun c' => absurd c c') (fun _ _ _ d' => absurd d' d) (fun _ _ _ _ e' => absurd e e') (fun _ _ _ _ _ M' F H' => hq M' (j1.hnd F (fun _ _ q => q) H') (frH F)))
      · exact step_of (R := -13) j pp
          (fun Q hq => x_flowers (n := n + 95) p.1 pp.1 p.2.2.2.1 W ha (fun c' => absurd c c') (fun _ _ _ d' => absurd d' d) (fun _ _ _ _ _ => hq M p kM.rf) (fun _ _ _ _ e' => absurd e' e))
          (fun M1 Q j1 hq => mm_flowers (n := n + 97) j1.1 pp.1 j1.2.2.2.1 W ha (fun c' => absurd c c') (fun _ _ _ d' => absurd d' d) (fun _ _ _ _ _ => hq M1 j1 Fr.rf) (fun _ _ _ _ e' => absurd e' e))
  · exact step_of (R := -2) j pp
      (fun Q hq => x_flowers (n := n + 95) p.1 pp.1 p.2.2.2.1 W ha (fun _ => hq M p kM.rf) (fun c1 c2 c3 => absurd ⟨c1, c2, c3⟩ c) (fun c1 c2 c3 => absurd ⟨c1, c2, c3⟩ c) (fun c1 c2 c3 => absurd ⟨c1, c2, c3⟩ c))
      (fun M1 Q j1 hq => mm_flowers (n := n + 97) j1.1 pp.1 j1.2.2.2.1 W ha (fun _ => hq M1 j1 Fr.rf) (fun c1 c2 c3 => absurd ⟨c1, c2, c3⟩ c) (fun c1 c2 c3 => absurd ⟨c1, c2, c3⟩ c) (fun c1 c2 c3 => absurd ⟨c1, c2, c3⟩ c))
