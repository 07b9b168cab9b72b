/-! SHEETS: x 3 sorts, x 4 sizes, x (5 + s) what sheet s holds -/
def Shc (x M : Mem) : Prop := ∀ s : Nat, s < 4 → M 44 s = x 3 s ∧ (x 3 s ≠ -1 → M 45 s = x 4 s ∧ ∀ i : Nat, (i : Int) < x 4 s → M (47 + s) i = x (5 + s) i)
def WS (x : Mem) : Prop := ∀ s : Nat, s < 4 → (-1 ≤ x 3 s ∧ x 3 s ≤ 2) ∧ (x 3 s ≠ -1 → 0 ≤ x 4 s ∧ x 4 s ≤ 40)
theorem Shc.fr {x M M' : Mem} {S : List Nat} (H : Shc x M) (hf : Fr S M M') (hs : ∀ o, 43 ≤ o → o ≤ 50 → o ∉ S) : Shc x M' := fun s h4 => by
  rw [hf 44 s (hs 44 (by omega) (by omega)), hf 45 s (hs 45 (by omega) (by omega))]
  refine ⟨(H s h4).1, fun e => ⟨((H s h4).2 e).1, fun i hi => ?_⟩⟩
  rw [hf (47 + s) i (hs _ (by omega) (by omega))]
  exact ((H s h4).2 e).2 i hi
section XS
variable {n : Nat} {x M : Mem} {Q : Int → Mem → Prop} {s : Int}
theorem c_isNumber (hq : Q (if 0 ≤ s ∧ s < 4 then 1 else 0) M) : Con (n + 1) md_X5_isNumber [vI s] M Q := g_X5_isNumber (by unfold B_X5_isNumber; grind)
theorem c_isSort (hq : Q (if 0 ≤ s ∧ s ≤ 2 then 1 else 0) M) : Con (n + 1) md_X5_isSort [vI s] M Q := g_X5_isSort (by unfold B_X5_isSort; grind)
theorem c_isMissing (H : Shc x M) (hs : 0 ≤ s ∧ s < 4) (hq : Q (if x 3 s.toNat = -1 then 1 else 0) M) : Con (n + 2) md_X5_isMissing [vR 43, vI s] M Q := g_X5_isMissing (by
  unfold B_X5_isMissing
  refine c_isNumber ?_
  rw [if_pos hs, (H s.toNat (by omega)).1]
  refine ⟨fun e => by omega, fun _ => ⟨hs, fun e => ?_, fun e => ?_⟩⟩
  · rw [if_pos e] at hq; exact hq
  · rw [if_neg e] at hq; exact hq)
theorem c_hasItem {i : Int} (H : Shc x M) (W : WS x) (hs : 0 ≤ s ∧ s < 4) (hm : x 3 s.toNat ≠ -1) (hq : Q (if 0 ≤ i ∧ i < x 4 s.toNat then 1 else 0) M) : Con (n + 2) md_X5_hasItem [vR 43, vI s, vI i] M Q := g_X5_hasItem (by
  unfold B_X5_hasItem
  have w := (W s.toNat (by omega)).2 hm
  refine c_isNumber ?_
  rw [if_pos hs, ((H s.toNat (by omega)).2 hm).1]
  refine ⟨fun e => by omega, fun _ => ⟨fun e => ?_, fun e => ⟨hs, fun e1 => ?_, fun e1 => ⟨fun e2 => by omega, fun e2 => ?_⟩⟩⟩⟩
  · rw [if_neg (by omega)] at hq; exact hq
  · rw [if_neg (by omega)] at hq; exact hq
  · rw [if_pos (by omega)] at hq; exact hq)
theorem c_hasItems {i k : Int} (H : Shc x M) (W : WS x) (hk : k ≤ 2147483647) (hs : 0 ≤ s ∧ s < 4) (hm : x 3 s.toNat ≠ -1) (hq : Q (if 0 ≤ i ∧ 0 ≤ k ∧ i ≤ x 4 s.toNat - k then 1 else 0) M) : Con (n + 2) md_X5_hasItems [vR 43, vI s, vI i, vI k] M Q := g_X5_hasItems (by
  unfold B_X5_hasItems
  have w := (W s.toNat (by omega)).2 hm
  refine c_isNumber ?_
  rw [if_pos hs, ((H s.toNat (by omega)).2 hm).1]
  refine ⟨fun e => by omega, fun _ => ⟨fun e => ?_, fun e => ⟨fun e1 => ?_, fun e1 => ⟨hs, ?_⟩⟩⟩⟩
  · rw [if_neg (by omega)] at hq; exact hq
  · rw [if_neg (by omega)] at hq; exact hq
  · rw [w32_id (by omega)]
    refine ⟨fun e2 => ?_, fun e2 => ?_⟩
    · rw [if_neg (by omega)] at hq; exact hq
    · rw [if_pos (by omega)] at hq; exact hq)
theorem c_itemAt {i : Int} (H : Shc x M) (W : WS x) (hs : 0 ≤ s ∧ s < 4) (hm : x 3 s.toNat ≠ -1) (hi : 0 ≤ i ∧ i < x 4 s.toNat) (hq : Q (x (5 + s.toNat) i.toNat) M) : Con (n + 3) md_X5_itemAt [vR 43, vI s, vI i] M Q := g_X5_itemAt (by
  unfold B_X5_itemAt
  have w := (W s.toNat (by omega)).2 hm
  refine c_hasItem H W hs hm ?_
  rw [if_pos hi]
  refine ⟨fun e => by omega, fun _ => ⟨hs, by omega, ?_⟩⟩
  rw [((H s.toNat (by omega)).2 hm).2 i.toNat (by omega)]
  exact hq)
/-- a sheet anew -/
def shB (x : Mem) (s : Nat) (so k : Int) : Mem := up (up (upr x (5 + s) (fun _ => 0)) 3 s so) 4 s k
theorem shB_3s {s : Nat} {so k : Int} : shB x s so k 3 s = so := by unfold shB; rw [up_ne (by omega), up_same]
theorem shB_3n {s s' : Nat} {so k : Int} (h : s' ≠ s) : shB x s so k 3 s' = x 3 s' := by unfold shB; rw [up_ne (by omega), up_ne (by omega)]; unfold upr; rw [if_neg (by omega)]
theorem shB_4s {s : Nat} {so k : Int} : shB x s so k 4 s = k := by unfold shB; rw [up_same]
theorem shB_4n {s s' : Nat} {so k : Int} (h : s' ≠ s) : shB x s so k 4 s' = x 4 s' := by unfold shB; rw [up_ne (by omega), up_ne (by omega)]; unfold upr; rw [if_neg (by omega)]
theorem shB_is {s i : Nat} {so k : Int} : shB x s so k (5 + s) i = 0 := by unfold shB; rw [up_ne (by omega), up_ne (by omega)]; unfold upr; rw [if_pos rfl]
theorem shB_in {s s' i : Nat} {so k : Int} (h : s' ≠ s) : shB x s so k (5 + s') i = x (5 + s') i := by unfold shB; rw [up_ne (by omega), up_ne (by omega)]; unfold upr; rw [if_neg (by omega)]
theorem shB_o {s o i : Nat} {so k : Int} (h1 : o ≠ 3) (h2 : o ≠ 4) (h3 : o ≠ 5 + s) : shB x s so k o i = x o i := by unfold shB; rw [up_ne (by omega), up_ne (by omega)]; unfold upr; rw [if_neg (by omega)]
theorem shB_ws {s : Nat} {so k : Int} (W : WS x) (hso : -1 ≤ so ∧ so ≤ 2) (hk : so ≠ -1 → 0 ≤ k ∧ k ≤ 40) : WS (shB x s so k) := fun s' h4 => by
  by_cases e : s' = s
  · subst e; rw [shB_3s, shB_4s]; exact ⟨hso, hk⟩
  · rw [shB_3n e, shB_4n e]; exact W s' h4
theorem c_become {so k : Int} (H : Shc x M) (hs : 0 ≤ s ∧ s < 4) (hk : 0 ≤ k ∧ k ≤ 40) (hq : ∀ M', Fr [44, 45, 47, 48, 49, 50] M M' → Shc (shB x s.toNat so k) M' → Q 0 M') : Con (n + 2) md_X5_become [vR 43, vI s, vI so, vI k] M Q := g_X5_become (by
  intro K hK
  unfold B_X5_become
  refine c_isNumber ?_
  rw [if_pos hs]
  refine ⟨fun e => by omega, fun _ => ⟨fun e => by omega, fun _ => ⟨fun _ => ⟨hs, fun M5 h5 => ⟨hs, fun M6 h6 => ?_⟩⟩, fun e => by omega⟩⟩⟩
  have hin : 47 + s.toNat ∈ [44, 45, 47, 48, 49, 50] := by simp; omega
  have hF6 : Fr [44, 45, 47, 48, 49, 50] M M6 := by rw [h6, h5]; exact (Fr.rf.up (by decide)).up (by decide)
  refine loopUp (P := fun j => ∀ M' : Mem, Fr [44, 45, 47, 48, 49, 50] M M' → (∀ o i, o ≠ 47 + s.toNat → M' o i = M6 o i) → (∀ i, i < j → M' (47 + s.toNat) i = 0) → K (j : Int) M') 40 ?_ ?_ 0 (by omega) M6 hF6 (fun _ _ _ => rfl) (fun i hi => by omega)
  · intro M' hF ho h0
    apply hK
    unfold B_X5_become_35
    refine ⟨fun _ => hq M' hF (fun s' h4 => ?_), fun e => absurd (by decide) e⟩
    rw [ho 44 s' (by omega), ho 45 s' (by omega)]
    by_cases e : s' = s.toNat
    · subst e
      rw [shB_3s, shB_4s]
      refine ⟨by rw [h6, up_ne (by omega), h5, up_same], fun _ => ⟨by rw [h6, up_same], fun i hi => ?_⟩⟩
      rw [shB_is]; exact h0 i (by omega)
    · rw [shB_3n e, shB_4n e]
      have q := H s' h4
      refine ⟨by rw [h6, up_ne (by omega), h5, up_ne (by omega)]; exact q.1, fun c => ⟨by rw [h6, up_ne (by omega), h5, up_ne (by omega)]; exact (q.2 c).1, fun i hi => ?_⟩⟩
      rw [shB_in e, ho (47 + s') i (by omega), h6, up_ne (by omega), h5, up_ne (by omega)]
      exact (q.2 c).2 i hi
  · intro j hj ih M' hF ho h0
    apply hK
    unfold B_X5_become_35
    refine ⟨fun e => by omega, fun _ => ⟨hs, by omega, fun M2 h2 => ?_⟩⟩
    rw [w32_id (x := (j : Int) + 1) (by omega)]
    rw [show (j : Int).toNat = j from rfl] at h2
    refine ih M2 (by rw [h2]; exact hF.up hin) (fun o i q => by rw [h2, up_ne (by omega)]; exact ho o i q) (fun i hi => ?_)
    rw [h2]
    by_cases e : i = j
    · subst e; exact up_same
    · rw [up_ne (by omega)]; exact h0 i (by omega))
def wrV (so v : Int) : Int := if so = 0 then t_b v else if so = 1 then t_s v else v
theorem Shc.wr {i : Nat} {v : Int} {s : Nat} (H : Shc x M) : Shc (up x (5 + s) i v) (up M (47 + s) i v) := fun s' h4 => by
  have q := H s' h4
  rw [up_ne (o' := 44) (by omega), up_ne (o' := 45) (by omega), up_ne (o' := 3) (by omega), up_ne (o' := 4) (by omega)]
  refine ⟨q.1, fun c => ⟨(q.2 c).1, fun j hj => ?_⟩⟩
  by_cases e : s' = s ∧ j = i
  · obtain ⟨rfl, rfl⟩ := e; rw [up_same, up_same]
  · rw [up_ne (by omega), up_ne (by omega)]; exact (q.2 c).2 j hj
theorem c_write {i v : Int} (H : Shc x M) (W : WS x) (hs : 0 ≤ s ∧ s < 4) (hm : x 3 s.toNat ≠ -1) (hi : 0 ≤ i ∧ i < x 4 s.toNat) (hq : ∀ M', Fr [44, 45, 47, 48, 49, 50] M M' → Shc (up x (5 + s.toNat) i.toNat (wrV (x 3 s.toNat) v)) M' → Q 0 M') : Con (n + 3) md_X5_write [vR 43, vI s, vI i, vI v] M Q := g_X5_write (by
  unfold B_X5_write
  have w := (W s.toNat (by omega)).2 hm
  have hin : 47 + s.toNat ∈ [44, 45, 47, 48, 49, 50] := by simp; omega
  unfold wrV at hq
  refine c_hasItem H W hs hm ?_
  rw [if_pos hi, (H s.toNat (by omega)).1]
  refine ⟨fun e => by omega, fun _ => ⟨hs, hs, fun e => ⟨by omega, fun M6 h6 => ?_⟩, fun e => ⟨fun e1 => ⟨by omega, fun M6 h6 => ?_⟩, fun e1 => ⟨by omega, fun M6 h6 => ?_⟩⟩⟩⟩
  · rw [if_pos e] at hq; rw [h6]; exact hq _ (Fr.rf.up hin) H.wr
  · rw [if_neg e, if_pos e1] at hq; rw [h6]; exact hq _ (Fr.rf.up hin) H.wr
  · rw [if_neg e, if_neg e1] at hq; rw [h6]; exact hq _ (Fr.rf.up hin) H.wr)
/-- what a call of sheet asks -/
abbrev okN (s : Int) : Prop := 0 ≤ s ∧ s < 4
theorem x_sheet {so k : Int} (H : Shc x M) (h0 : ¬ (okN s ∧ (so = -1 ∨ ((0 ≤ so ∧ so ≤ 2) ∧ k ≤ 40))) → Q (-2) M) (h1 : okN s → (0 ≤ so ∧ so ≤ 2) → k < 0 → Q (-14) M) (h2 : okN s → so = -1 → ∀ M', Fr [44, 45, 47, 48, 49, 50] M M' → Shc (shB x s.toNat (-1) 0) M' → Q 1 M') (h3 : okN s → (0 ≤ so ∧ so ≤ 2) → (0 ≤ k ∧ k ≤ 40) → ∀ M', Fr [44, 45, 47, 48, 49, 50] M M' → Shc (shB x s.toNat so k) M' → Q 1 M') : Con (n + 3) md_X9_sheet [vR 0, vI s, vI so, vI k] M Q := g_X9_sheet (by
  unfold B_X9_sheet
  refine c_isNumber ?_
  by_cases hs : 0 ≤ s ∧ s < 4
  · rw [if_pos hs]
    refine ⟨fun e => by omega, fun _ => ⟨fun e => ?_, fun e => c_isSort ?_⟩⟩
    · subst e; exact c_become H hs (by decide) (h2 hs rfl)
    · by_cases hso : 0 ≤ so ∧ so ≤ 2
      · rw [if_pos hso]
        exact ⟨fun e => by omega, fun _ => ⟨fun e1 => ⟨fun e2 => c_become H hs (by omega) (h3 hs hso (by omega)), fun e2 => h1 hs hso (by omega)⟩, fun e1 => h0 (by omega)⟩⟩
      · rw [if_neg hso]
        exact ⟨fun _ => h0 (by omega), fun e => absurd rfl e⟩
  · rw [if_neg hs]
    exact ⟨fun _ => h0 (by omega), fun e => absurd rfl e⟩)
theorem x_cell {i v : Int} (H : Shc x M) (W : WS x) (h0 : ¬ okN s → Q (-2) M) (h1 : okN s → x 3 s.toNat = -1 → Q (-11) M) (h2 : okN s → x 3 s.toNat ≠ -1 → ¬ (0 ≤ i ∧ i < x 4 s.toNat) → Q (-12) M) (h3 : okN s → x 3 s.toNat ≠ -1 → (0 ≤ i ∧ i < x 4 s.toNat) → ∀ M', Fr [44, 45, 47, 48, 49, 50] M M' → Shc (up x (5 + s.toNat) i.toNat (wrV (x 3 s.toNat) v)) M' → Q 1 M') : Con (n + 4) md_X9_cell [vR 0, vI s, vI i, vI v] M Q := g_X9_cell (by
  unfold B_X9_cell
  refine c_isNumber ?_
  by_cases hs : 0 ≤ s ∧ s < 4
  · rw [if_pos hs]
    refine ⟨fun e => by omega, fun _ => c_isMissing H hs ?_⟩
    by_cases hm : x 3 s.toNat = -1
    · rw [if_pos hm]; exact ⟨fun e => by omega, fun _ => h1 hs hm⟩
    · rw [if_neg hm]
      refine ⟨fun _ => c_hasItem H W hs hm ?_, fun e => absurd rfl e⟩
      by_cases hi : 0 ≤ i ∧ i < x 4 s.toNat
      · rw [if_pos hi]; exact ⟨fun e => by omega, fun _ => c_write H W hs hm hi (h3 hs hm hi)⟩
      · rw [if_neg hi]; exact ⟨fun _ => h2 hs hm hi, fun e => absurd rfl e⟩
  · rw [if_neg hs]; exact ⟨fun _ => h0 hs, fun e => absurd rfl e⟩)
/-- numbers of one sheet come to another -/
def cpX (x : Mem) (s i t j k : Nat) : Mem := upr x (5 + t) (fun q => if j ≤ q ∧ q < j + k then x (5 + s) (i + (q - j)) else x (5 + t) q)
theorem cpX_o {s i t j k o q : Nat} (h : o ≠ 5 + t) : cpX x s i t j k o q = x o q := by unfold cpX upr; rw [if_neg h]
abbrev okC (x : Mem) (s i t j k : Int) : Prop := 0 ≤ k ∧ 0 ≤ i ∧ 0 ≤ j ∧ i ≤ x 4 s.toNat - k ∧ j ≤ x 4 t.toNat - k
theorem x_copy {i t j k : Int} (H : Shc x M) (W : WS x) (hk : k ≤ 2147483647) (h0 : ¬ (okN s ∧ okN t) → Q (-2) M) (h1 : okN s → okN t → (x 3 s.toNat = -1 ∨ x 3 t.toNat = -1) → Q (-11) M) (h2 : okN s → okN t → x 3 s.toNat ≠ -1 → x 3 t.toNat ≠ -1 → x 3 s.toNat ≠ x 3 t.toNat → Q (-13) M) (h3 : okN s → okN t → x 3 s.toNat ≠ -1 → x 3 s.toNat = x 3 t.toNat → ¬ okC x s i t j k → Q (-12) M)
    (h4 : okN s → okN t → x 3 s.toNat ≠ -1 → x 3 s.toNat = x 3 t.toNat → okC x s i t j k → ∀ M', Fr [44, 45, 47, 48, 49, 50] M M' → Shc (cpX x s.toNat i.toNat t.toNat j.toNat k.toNat) M' → Q k M') : Con (n + 3) md_X9_copy [vR 0, vI s, vI i, vI t, vI j, vI k] M Q := g_X9_copy (by
  unfold B_X9_copy
  refine c_isNumber ?_
  by_cases hs : 0 ≤ s ∧ s < 4
  · rw [if_pos hs]
    refine ⟨fun e => by omega, fun _ => c_isNumber ?_⟩
    by_cases ht : 0 ≤ t ∧ t < 4
    · rw [if_pos ht]
      refine ⟨fun e => by omega, fun _ => c_isMissing H hs ?_⟩
      by_cases hm : x 3 s.toNat = -1
      · rw [if_pos hm]; exact ⟨fun e => by omega, fun _ => h1 hs ht (Or.inl hm)⟩
      · rw [if_neg hm]
        refine ⟨fun _ => c_isMissing H ht ?_, fun e => absurd rfl e⟩
        by_cases hm' : x 3 t.toNat = -1
        · rw [if_pos hm']; exact ⟨fun e => by omega, fun _ => h1 hs ht (Or.inr hm')⟩
        · rw [if_neg hm', (H s.toNat (by omega)).1, (H t.toNat (by omega)).1]
          refine ⟨fun _ => ⟨hs, ht, fun e => c_hasItems H W hk hs hm ?_, fun e => h2 hs ht hm hm' e⟩, fun e => absurd rfl e⟩
          have w1 := (W s.toNat (by omega)).2 hm
          have w2 := (W t.toNat (by omega)).2 hm'
          by_cases c1 : 0 ≤ i ∧ 0 ≤ k ∧ i ≤ x 4 s.toNat - k
          · rw [if_pos c1]
            refine ⟨fun e => by omega, fun _ => c_hasItems H W hk ht hm' ?_⟩
            by_cases c2 : 0 ≤ j ∧ 0 ≤ k ∧ j ≤ x 4 t.toNat - k
            · rw [if_pos c2]
              refine ⟨fun e => by omega, fun _ => ⟨hs, ht, by omega, fun M15 h15 => h4 hs ht hm e (by unfold okC; omega) M15 ?_ (fun s' h4' => ?_)⟩⟩
              · intro o q ho
                rw [h15]; unfold cpM upr; rw [if_neg (fun c => ho (by rw [c]; simp; omega))]
              · have q := H s' h4'
                have nr1 : ∀ o p, o ≠ 47 + t.toNat → M15 o p = M o p := fun o p ho => by rw [h15]; unfold cpM upr; rw [if_neg ho]
                rw [nr1 44 s' (by omega), nr1 45 s' (by omega), cpX_o (o := 3) (by omega), cpX_o (o := 4) (by omega)]
                refine ⟨q.1, fun c => ⟨(q.2 c).1, fun p hp => ?_⟩⟩
                by_cases es : s' = t.toNat
                · subst es
                  rw [h15]
                  unfold cpM upr cpX upr
                  rw [if_pos rfl, if_pos rfl]
                  show (if _ then _ else _) = (if _ then _ else _)
                  split
                  · rename_i c5
                    exact ((H s.toNat (by omega)).2 hm).2 (i.toNat + (p - j.toNat)) (by omega)
                  · exact (q.2 c).2 p hp
                · rw [nr1 (47 + s') p (by omega), cpX_o (by omega)]
                  exact (q.2 c).2 p hp
            · rw [if_neg c2]; exact ⟨fun _ => h3 hs ht hm e (fun c => c2 ⟨c.2.2.1, c.1, c.2.2.2.2⟩), fun e => absurd rfl e⟩
          · rw [if_neg c1]; exact ⟨fun _ => h3 hs ht hm e (fun c => c1 ⟨c.2.1, c.1, c.2.2.2.1⟩), fun e => absurd rfl e⟩
    · rw [if_neg ht]; exact ⟨fun _ => h0 (fun c => ht c.2), fun e => absurd rfl e⟩
  · rw [if_neg hs]; exact ⟨fun _ => h0 (fun c => hs c.1), fun e => absurd rfl e⟩)
/-- flowers by a sheet: how many came, and the hand then; none: a place outside -/
def fsS (x : Mem) (s : Nat) (a : Int) : Nat → Nat → Mem → Int → Int × Mem
  | 0, _, h, c => (c, h)
  | k + 1, i, h, c => if 0 ≤ a ∧ a + 2 * i ≤ x 4 s - 2 then
      (if okF (x (5 + s) (a + 2 * i).toNat) (x (5 + s) (a + 2 * i + 1).toNat) ∧ h 0 3 < 6 then fsS x s a k (i + 1) (flH h (x (5 + s) (a + 2 * i).toNat) (x (5 + s) (a + 2 * i + 1).toNat)) (c + 1) else fsS x s a k (i + 1) h c)
    else (-12, h)
theorem x_flowers {h : Mem} {so a k : Int} (Hh : Hd h M) (Wh : Wf h) (H : Shc x M) (W : WS x) (ha : r32 a) (h0 : ¬ (okN s ∧ (0 ≤ so ∧ so ≤ 2) ∧ (0 ≤ k ∧ k ≤ 6)) → Q (-2) M) (h1 : okN s → (0 ≤ so ∧ so ≤ 2) → (0 ≤ k ∧ k ≤ 6) → x 3 s.toNat = -1 → Q (-11) M) (h2 : okN s → (0 ≤ so ∧ so ≤ 2) → (0 ≤ k ∧ k ≤ 6) → x 3 s.toNat ≠ -1 → x 3 s.toNat ≠ so → Q (-13) M)
    (h3 : okN s → (0 ≤ so ∧ so ≤ 2) → (0 ≤ k ∧ k ≤ 6) → x 3 s.toNat ≠ -1 → x 3 s.toNat = so → ∀ M', Fr [1, 2, 3, 4, 5] M M' → Hd (fsS x s.toNat a k.toNat 0 h 0).2 M' → Wf (fsS x s.toNat a k.toNat 0 h 0).2 → Q (fsS x s.toNat a k.toNat 0 h 0).1 M') : Con (n + 5) md_X9_flowers [vR 0, vI s, vI so, vI a, vI k] M Q := g_X9_flowers (by
  intro K hK
  unfold B_X9_flowers
  unfold r32 at ha
  refine c_isNumber ?_
  by_cases hs : 0 ≤ s ∧ s < 4
  · rw [if_pos hs]
    refine ⟨fun e => by omega, fun _ => c_isSort ?_⟩
    by_cases hso : 0 ≤ so ∧ so ≤ 2
    · rw [if_pos hso]
      refine ⟨fun e => by omega, fun _ => ⟨fun e => h0 (by omega), fun e => ⟨fun e1 => c_isMissing H hs ?_, fun e1 => h0 (by omega)⟩⟩⟩
      by_cases hm : x 3 s.toNat = -1
      · rw [if_pos hm]; exact ⟨fun e => by omega, fun _ => h1 hs hso (by omega) hm⟩
      · rw [if_neg hm, (H s.toNat (by omega)).1]
        refine ⟨fun _ => ⟨hs, fun e2 => ?_, fun e2 => h2 hs hso (by omega) hm e2⟩, fun e => absurd rfl e⟩
        have h3 := h3 hs hso (by omega) hm e2
        have w := (W s.toNat (by omega)).2 hm
        obtain ⟨R, hR⟩ : ∃ R, R = fsS x s.toNat a k.toNat 0 h 0 := ⟨_, rfl⟩
        rw [← hR] at h3
        have f5 : ∀ o, 43 ≤ o → o ≤ 50 → o ∉ [1, 2, 3, 4, 5] := by simp; omega
        have key : ∀ (j i : Nat) (g M' : Mem) (c : Int), (i : Int) + j = k → (0 ≤ c ∧ c ≤ i) → Fr [1, 2, 3, 4, 5] M M' → Hd g M' → Wf g → (1 ≤ i → 0 ≤ a ∧ a ≤ 40) → fsS x s.toNat a j i g c = R → K c (i : Int) M' := by
          intro j
          induction j with
          | zero =>
            intro i g M' c hi hc hF Hg Wg _ he
            apply hK
            unfold B_X9_flowers_65
            unfold fsS at he
            refine ⟨fun _ => ?_, fun e => by omega⟩
            have e1 : c = R.1 := by rw [← he]
            rw [e1]
            exact h3 M' hF (by rw [← he]; exact Hg) (by rw [← he]; exact Wg)
          | succ j ih =>
            intro i g M' c hi hc hF Hg Wg hb he
            apply hK
            unfold B_X9_flowers_65
            have H' := H.fr hF f5
            rw [w32_id (x := 2 * (i : Int)) (by omega), w32_id (x := (i : Int) + 1) (by omega), w32_id (x := c + 1) (by omega)]
            refine ⟨fun e => by omega, fun _ => c_hasItems H' W (by decide) hs hm ?_⟩
            unfold fsS at he
            by_cases hp : 0 ≤ a ∧ a + 2 * i ≤ x 4 s.toNat - 2
            · rw [if_pos hp] at he
              rw [w32_id (x := a + 2 * (i : Int)) (by omega), if_pos (by omega)]
              refine ⟨fun e => by omega, fun _ => c_itemAt H' W hs hm (by omega) ?_⟩
              rw [w32_id (x := a + 2 * (i : Int) + 1) (by omega)]
              refine c_itemAt H' W hs hm (by omega) ?_
              by_cases ho : okF (x (5 + s.toNat) (a + 2 * i).toNat) (x (5 + s.toNat) (a + 2 * i + 1).toNat) ∧ g 0 3 < 6
              · rw [if_pos ho] at he
                have wg3 := Wg.2.2.1
                refine c_addFlower Hg Wg (fun q => absurd ho.1 q) (fun _ q => absurd ho.2 q) (fun _ _ M'' hF'' Hg'' => ⟨fun e => by omega, fun _ => ?_⟩)
                exact ih (i + 1) _ M'' (c + 1) (by omega) (by omega) (hF.tr hF'') Hg'' (flH_wf Wg ho.2 ho.1.1 ho.1.2) (fun _ => by omega) he
              · rw [if_neg ho] at he
                refine c_addFlower Hg Wg (fun q => ⟨fun _ => ?_, fun e => by omega⟩) (fun _ q => ⟨fun _ => ?_, fun e => by omega⟩) (fun q1 q2 => absurd ⟨q1, q2⟩ ho)
                · exact ih (i + 1) g M' c (by omega) (by omega) hF Hg Wg (fun _ => by omega) he
                · exact ih (i + 1) g M' c (by omega) (by omega) hF Hg Wg (fun _ => by omega) he
            · rw [if_neg hp] at he
              have hcond : ¬ (0 ≤ w32 (a + 2 * (i : Int)) ∧ (0 : Int) ≤ 2 ∧ w32 (a + 2 * (i : Int)) ≤ x 4 s.toNat - 2) := by
                by_cases hi0 : 1 ≤ i
                · have := hb hi0
                  rw [w32_id (by omega)]; omega
                · have : i = 0 := by omega
                  subst this
                  rw [w32_id (by omega)]; omega
              rw [if_neg hcond]
              refine ⟨fun _ => ?_, fun e => absurd rfl e⟩
              have e1 : (-12 : Int) = R.1 := by rw [← he]
              rw [e1]
              exact h3 M' hF (by rw [← he]; exact Hg) (by rw [← he]; exact Wg)
        exact key k.toNat 0 h M 0 (by omega) (by omega) Fr.rf Hh Wh (fun q => by omega) hR.symm
    · rw [if_neg hso]; exact ⟨fun _ => h0 (by omega), fun e => absurd rfl e⟩
  · rw [if_neg hs]; exact ⟨fun _ => h0 (by omega), fun e => absurd rfl e⟩)
end XS
