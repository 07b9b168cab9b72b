/-! BOTH PROGRAMS SIDE BY SIDE: one state of the document, held by both -/
abbrev Tau : Type := Int → Int → (Nat → Int) → Int
/-- the program holds it -/
def PI (h hk xt xs : Mem) (τ : Tau) (z : Int) (b : Bool) (M : Mem) : Prop := Hd h M ∧ TC τ M ∧ M 17 0 = z ∧ Shc xs M ∧ Tpc xt M ∧ (b = false → M 0 2 = 0) ∧ (b = true → M 0 2 ≠ 0 ∧ Hk hk M)
/-- the model holds it -/
def MJ (h hk xt xs : Mem) (τ : Tau) (z : Int) (b : Bool) (M : Mem) : Prop := Hm h M ∧ RX τ M ∧ M 51 3 = z ∧ Shm xs M ∧ Tpm xt M ∧ (b = false → M 51 37 = -1) ∧ (b = true → M 51 37 ≠ -1 ∧ Km hk M)
/-- it is one -/
def PP (h hk xt xs : Mem) (z : Int) (b : Bool) : Prop := Wf h ∧ (0 ≤ h 0 2 ∧ h 0 2 < z) ∧ (1 ≤ z ∧ z ≤ 6) ∧ WS xs ∧ (0 ≤ xt 1 0 ∧ xt 1 0 ≤ 160) ∧ (∀ i : Nat, (i : Int) < xt 1 0 → 0 ≤ xt 2 i) ∧ (b = true → Wf hk ∧ (0 ≤ hk 0 2 ∧ hk 0 2 < z) ∧ hk 0 3 ≤ h 0 3 ∧ ∀ i : Nat, (i : Int) < hk 0 3 → hk 1 i = h 1 i)
def Inv (M : Mem) : Prop := ∃ (h hk xt xs : Mem) (τ : Tau) (z : Int) (b : Bool), PI h hk xt xs τ z b M ∧ MJ h hk xt xs τ z b M ∧ PP h hk xt xs z b
def kM (M M' : Mem) : Prop := ∀ o k, 51 ≤ o → M' o k = M o k
abbrev sML : List Nat := List.range' 51 17
theorem mML {o : Nat} (h1 : 51 ≤ o) (h2 : o ≤ 67) : o ∈ sML := List.mem_range'_1.mpr ⟨h1, by omega⟩
theorem mML' {o : Nat} (h : o ∈ sML) : 51 ≤ o := (List.mem_range'_1.mp h).1
section INV
variable {h hk xt xs h' hk' xt' xs' : Mem} {τ τ' : Tau} {z z' : Int} {b b' : Bool} {M M' : Mem} {S : List Nat} {P : Nat → Nat → Prop}
theorem Tpc.fr (H : Tpc xt M) (hf : Fr S M M') (hs : ∀ o, 15 ≤ o → o ≤ 16 → o ∉ S) : Tpc xt M' := ⟨(hf 15 1 (hs 15 (by omega) (by omega))).trans H.1, fun i hi => (hf 16 i (hs 16 (by omega) (by omega))).trans (H.2 i hi)⟩
theorem Tpm.fr (H : Tpm xt M) (hf : Fp P M M') (hs : ∀ o k, (o = 54 ∨ (o = 51 ∧ k = 6)) → ¬ P o k) : Tpm xt M' := ⟨(hf 51 6 (hs 51 6 (by omega))).trans H.1, fun i hi => (hf 54 i (hs 54 i (by omega))).trans (H.2 i hi)⟩
theorem Hm.fr2 (H : Hm h M) (hf : Fp P M M') (hs : ∀ o k, ((55 ≤ o ∧ o ≤ 58) ∨ (o = 51 ∧ (k = 4 ∨ k = 7 ∨ k = 8 ∨ k = 11 ∨ k = 14))) → ¬ P o k) : Hm h M' := by
  have e : ∀ k, (k = 4 ∨ k = 7 ∨ k = 8 ∨ k = 11 ∨ k = 14) → M' 51 k = M 51 k := fun k hk => hf 51 k (hs 51 k (Or.inr ⟨rfl, hk⟩))
  have e2 : ∀ o k, 55 ≤ o → o ≤ 58 → M' o k = M o k := fun o k q1 q2 => hf o k (hs o k (Or.inl ⟨q1, q2⟩))
  obtain ⟨h1, h2, h3, h4, h5, h6, h7⟩ := H
  refine ⟨by rw [e 7 (by omega)]; exact h1, by rw [e 8 (by omega)]; exact h2, by rw [e 4 (by omega)]; exact h3, by rw [e 11 (by omega)]; exact h4, by rw [e 14 (by omega)]; exact h5, fun i hi => ?_, fun s hs => ?_⟩
  · rw [e2 55 _ (by omega) (by omega), e2 56 _ (by omega) (by omega), e2 56 _ (by omega) (by omega), e2 56 _ (by omega) (by omega)]; exact h6 i hi
  · rw [e2 57 _ (by omega) (by omega), e2 58 _ (by omega) (by omega)]; exact h7 s hs
/-- the program's part, some of it anew -/
theorem PI.fr (H : PI h hk xt xs τ z b M) (hf : Fr S M M') (hH : (∀ o ∈ S, o < 1 ∨ 7 < o) ∨ Hd h' M') (eH : (∀ o ∈ S, o < 1 ∨ 7 < o) → h' = h)
    (hS : (∀ o ∈ S, o < 43 ∨ 50 < o) ∨ Shc xs' M') (eS : (∀ o ∈ S, o < 43 ∨ 50 < o) → xs' = xs) (hT : (∀ o ∈ S, o < 15 ∨ 16 < o) ∨ Tpc xt' M') (eT : (∀ o ∈ S, o < 15 ∨ 16 < o) → xt' = xt)
    (hX : ∀ o ∈ S, o < 17 ∨ 31 < o) (hK : ∀ o ∈ S, (o ≠ 0 ∧ o < 8) ∨ 14 < o) : PI h' hk xt' xs' τ z b M' := by
  obtain ⟨a1, a2, a3, a4, a5, a6, a7⟩ := H
  refine ⟨?_, a2.fr hf (fun o h1 h2 q => by have := hX o q; omega), (hf 17 0 (fun q => by have := hX 17 q; omega)).trans a3, ?_, ?_, fun e => (hf 0 2 (fun q => by have := hK 0 q; omega)).trans (a6 e), fun e => ⟨by rw [hf 0 2 (fun q => by have := hK 0 q; omega)]; exact (a7 e).1, (a7 e).2.fr hf (fun o h1 h2 q => by have := hK o q; omega)⟩⟩
  · rcases hH with q | q
    · rw [eH q]; exact a1.fr hf (fun o h1 h2 r => by have := q o r; omega)
    · exact q
  · rcases hS with q | q
    · rw [eS q]; exact a4.fr hf (fun o h1 h2 r => by have := q o r; omega)
    · exact q
  · rcases hT with q | q
    · rw [eT q]; exact a5.fr hf (fun o h1 h2 r => by have := q o r; omega)
    · exact q
theorem PI.scr (H : PI h hk xt xs τ z b M) (hf : Fr S M M') (hs : ∀ o ∈ S, 32 ≤ o ∧ o ≤ 42) : PI h hk xt xs τ z b M' :=
  H.fr hf (Or.inl fun o q => by have := hs o q; omega) (fun _ => rfl) (Or.inl fun o q => by have := hs o q; omega) (fun _ => rfl) (Or.inl fun o q => by have := hs o q; omega) (fun _ => rfl) (fun o q => by have := hs o q; omega) (fun o q => by have := hs o q; omega)
theorem PI.hnd (H : PI h hk xt xs τ z b M) (hf : Fr S M M') (hs : ∀ o ∈ S, (1 ≤ o ∧ o ≤ 7) ∨ (32 ≤ o ∧ o ≤ 42)) (H' : Hd h' M') (e : (∀ o ∈ S, o < 1 ∨ 7 < o) → h' = h) : PI h' hk xt xs τ z b M' :=
  H.fr hf (Or.inr H') e (Or.inl fun o q => by have := hs o q; omega) (fun _ => rfl) (Or.inl fun o q => by have := hs o q; omega) (fun _ => rfl) (fun o q => by have := hs o q; omega) (fun o q => by have := hs o q; omega)
theorem PI.sht (H : PI h hk xt xs τ z b M) (hf : Fr S M M') (hs : ∀ o ∈ S, (43 ≤ o ∧ o ≤ 50) ∨ (32 ≤ o ∧ o ≤ 42)) (H' : Shc xs' M') (e : (∀ o ∈ S, o < 43 ∨ 50 < o) → xs' = xs) : PI h hk xt xs' τ z b M' :=
  H.fr hf (Or.inl fun o q => by have := hs o q; omega) (fun _ => rfl) (Or.inr H') e (Or.inl fun o q => by have := hs o q; omega) (fun _ => rfl) (fun o q => by have := hs o q; omega) (fun o q => by have := hs o q; omega)
theorem PI.k (H : PI h hk xt xs τ z b M) (hf : Fr sML M M') : PI h hk xt xs τ z b M' :=
  H.fr hf (Or.inl fun o q => by have := mML' q; omega) (fun _ => rfl) (Or.inl fun o q => by have := mML' q; omega) (fun _ => rfl) (Or.inl fun o q => by have := mML' q; omega) (fun _ => rfl) (fun o q => by have := mML' q; omega) (fun o q => by have := mML' q; omega)
theorem kM.of (hf : Fr S M M') (hs : ∀ o ∈ S, o < 51) : kM M M' := fun o k h => hf o k (fun q => by have := hs o q; omega)
/-- the model's part, what a call on the hand leaves -/
theorem MJ.hnd (H : MJ h hk xt xs τ z b M) (hf : Fp P M M') (hs : ∀ o k, P o k → sH o k) (H' : Hm h' M') : MJ h' hk xt xs τ z b M' := by
  obtain ⟨a1, a2, a3, a4, a5, a6, a7⟩ := H
  have no : ∀ o k, ¬ sH o k → ¬ P o k := fun o k q r => q (hs o k r)
  refine ⟨H', a2.fr hf (fun o k q => no o k (by unfold sH; omega)), (hf 51 3 (no 51 3 (by unfold sH; omega))).trans a3, a4.fr hf (fun o k q1 q2 => no o k (by unfold sH; omega)), a5.fr hf (fun o k q => no o k (by unfold sH; omega)), fun e => (hf 51 37 (no 51 37 (by unfold sH; omega))).trans (a6 e), fun e => ⟨by rw [hf 51 37 (no 51 37 (by unfold sH; omega))]; exact (a7 e).1, (a7 e).2.fr hf (fun o k q => no o k (by unfold sK at q; unfold sH; omega))⟩⟩
theorem MJ.scr (H : MJ h hk xt xs τ z b M) (hf : Fp P M M') (hs : ∀ o k, P o k → sL o k) : MJ h hk xt xs τ z b M' := H.hnd hf (fun o k q => by have := hs o k q; unfold sL at this; unfold sH; omega) (H.1.fr hf (fun k q => (hs 51 k q).2.1) (fun o k q1 q2 q => by have := hs o k q; unfold sL at this; omega))
theorem MJ.sht (H : MJ h hk xt xs τ z b M) (hf : Fp P M M') (hs : ∀ o k, P o k → sFS o k) (H' : Shm xs' M') : MJ h hk xt xs' τ z b M' := by
  obtain ⟨a1, a2, a3, a4, a5, a6, a7⟩ := H
  have no : ∀ o k, ¬ sFS o k → ¬ P o k := fun o k q r => q (hs o k r)
  refine ⟨a1.fr2 hf (fun o k q => no o k (by unfold sFS sF sL sS; omega)), a2.fr hf (fun o k q => no o k (by unfold sFS sF sL sS; omega)), (hf 51 3 (no 51 3 (by unfold sFS sF sL sS; omega))).trans a3, H', a5.fr hf (fun o k q => no o k (by unfold sFS sF sL sS; omega)), fun e => (hf 51 37 (no 51 37 (by unfold sFS sF sL sS; omega))).trans (a6 e), fun e => ⟨by rw [hf 51 37 (no 51 37 (by unfold sFS sF sL sS; omega))]; exact (a7 e).1, (a7 e).2.fr hf (fun o k q => no o k (by unfold sK at q; unfold sFS sF sL sS; omega))⟩⟩
theorem MJ.k (H : MJ h hk xt xs τ z b M) (hf : kM M M') : MJ h hk xt xs τ z b M' := by
  have F : Fp (fun o _ => o < 51) M M' := fun o k q => hf o k (by omega)
  obtain ⟨a1, a2, a3, a4, a5, a6, a7⟩ := H
  exact ⟨a1.fr2 F (fun o k q => by omega), a2.fr F (fun o k q => by omega), (hf 51 3 (by omega)).trans a3, a4.fr F (fun o k q1 q2 => by omega), a5.fr F (fun o k q => by omega), fun e => (hf 51 37 (by omega)).trans (a6 e), fun e => ⟨by rw [hf 51 37 (by omega)]; exact (a7 e).1, (a7 e).2.fr F (fun o k q => by unfold sK at q; omega)⟩⟩
theorem frP (hf : Fp P M M') (hs : ∀ o k, P o k → 51 ≤ o ∧ o ≤ 67) : Fr sML M M' := fun o k q => hf o k (fun r => q (mML (hs o k r).1 (hs o k r).2))
theorem frH (hf : Fp sH M M') : Fr sML M M' := frP hf (fun o k q => by unfold sH at q; omega)
theorem frL (hf : Fp sL M M') : Fr sML M M' := frP hf (fun o k q => by unfold sL at q; omega)
theorem frS (hf : Fp sS M M') : Fr sML M M' := frP hf (fun o k q => by unfold sS at q; omega)
/-- the two answers are one, and both hold the new state -/
theorem step_of {n : Nat} {mX mM : MD} {a1 a2 : List VV} {R : Int} (J : MJ h hk xt xs τ z b M) (pp : PP h' hk' xt' xs' z' b')
    (hx : ∀ Q : Int → Mem → Prop, (∀ M1, PI h' hk' xt' xs' τ' z' b' M1 → kM M M1 → Q R M1) → Con n mX a1 M Q)
    (hm : ∀ (M1 : Mem) (Q : Int → Mem → Prop), MJ h hk xt xs τ z b M1 → (∀ M2, MJ h' hk' xt' xs' τ' z' b' M2 → Fr sML M1 M2 → Q R M2) → Con n mM a2 M1 Q) :
    Con n mX a1 M (fun r M1 => Con n mM a2 M1 (fun r' M2 => r = r' ∧ Inv M2)) :=
  hx _ (fun M1 p1 k1 => hm M1 _ (J.k k1) (fun M2 j2 k2 => ⟨rfl, h', hk', xt', xs', τ', z', b', p1.k k2, j2, pp⟩))
theorem kM.rf : kM M M := fun _ _ _ => rfl
end INV
/-- one call on both -/
def Step (mX mM : MD) (as : List VV) : Prop := ∀ (n : Nat) (M : Mem), CanS as → Inv M → Con (n + 100) mX (vR 0 :: as) M (fun r M1 => Con (n + 100) mM (vR 51 :: as) M1 (fun r' M2 => r = r' ∧ Inv M2))
theorem sC_in {o : Nat} (h : o ∈ sC) : 32 ≤ o ∧ o ≤ 42 := by
  simp only [sC, List.mem_cons, List.not_mem_nil, or_false] at h; omega
theorem sC51 {o : Nat} (h : o ∈ sC) : o < 51 := by have := sC_in h; omega
