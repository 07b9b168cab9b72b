/-! ORDERS -/
abbrev BO : Type := Option (Int × Int)
def fld (f : BO → Nat → BO) : Nat → BO → BO
  | 0, b => b
  | i + 1, b => f (fld f i b) i
def u1 (u i : Nat) : Nat := (o_r (u : Int) (sh_l 1 (i : Int))).toNat
def stp (τ : Int → Int → (Nat → Int) → Int) (h : Mem) (f : Int) : Mem := if caH h f then puH τ h f else h
def btr : BO → Int → Int → BO
  | none, g, t => some (g, t)
  | some p, g, t => if t < p.2 then some (g, t) else some p
theorem btr_s {p : Int × Int} {g t : Int} : btr (some p) g t = if t < p.2 then some (g, t) else some p := rfl
def pru : BO → Int → Bool
  | none, _ => false
  | some p, t => decide (p.2 ≤ t)
abbrev fre (F : Nat → Int) (u i : Nat) : Prop := ubF (u : Int) (i : Int) ∧ ∀ j, j < i → ¬ (ubF (u : Int) (j : Int) ∧ F j = F i)
def mS (τ : Int → Int → (Nat → Int) → Int) (F : Nat → Int) (m : Nat) : Nat → Nat → Int → Mem → BO → BO
  | 0, _, g, h, b => btr b g (tcH h)
  | k + 1, u, g, h, b => fld (fun b i => if ubF (u : Int) (i : Int) then mS τ F m k (u1 u i) (10 * g + i + 1) (stp τ h (F i)) b else b) m b
def cS (τ : Int → Int → (Nat → Int) → Int) (F : Nat → Int) (m : Nat) : Nat → Nat → Int → Mem → BO → BO
  | 0, _, g, h, b => if pru b (tcH h) then b else some (g, tcH h)
  | k + 1, u, g, h, b => if pru b (tcH h) then b else fld (fun b i => if fre F u i then cS τ F m k (u1 u i) (10 * g + i + 1) (stp τ h (F i)) b else b) m b
section OR
variable {τ : Int → Int → (Nat → Int) → Int} {F : Nat → Int} {m : Nat}
theorem stp_tc {h : Mem} (h8 : 0 ≤ h 0 8) (f : Int) : tcH h ≤ tcH (stp τ h f) := by
  unfold stp
  split
  · have e : tcH (puH τ h f) = tcH h + nbS h (h 0 8).toNat (h 3 f.toNat) (anH τ h f) := adH_tc h8
    have := nbS_b h (h 0 8).toNat (h 3 f.toNat) (anH τ h f)
    omega
  · exact Int.le_refl _
theorem stp_8 {h : Mem} (h8 : 0 ≤ h 0 8) (f : Int) : 0 ≤ stp τ h f 0 8 := by
  unfold stp
  split
  · have e : puH τ h f 0 8 = h 0 8 + 1 := adH_n
    omega
  · exact h8
theorem fld_id {f : BO → Nat → BO} {b : BO} : ∀ n, (∀ i, i < n → f b i = b) → fld f n b = b
  | 0, _ => rfl
  | n + 1, h => by
    unfold fld
    rw [fld_id n (fun i hi => h i (by omega))]
    exact h n (by omega)
theorem mS_prune : ∀ (k u : Nat) (g : Int) (h : Mem) (b : BO), 0 ≤ h 0 8 → pru b (tcH h) = true → mS τ F m k u g h b = b
  | 0, u, g, h, b, _, hp => by
    unfold mS
    match b, hp with
    | some p, hp =>
      have : p.2 ≤ tcH h := of_decide_eq_true hp
      rw [btr_s, if_neg (by omega)]
  | k + 1, u, g, h, b, h8, hp => by
    unfold mS
    apply fld_id
    intro i hi
    show (if ubF (u : Int) (i : Int) then mS τ F m k (u1 u i) (10 * g + i + 1) (stp τ h (F i)) b else b) = b
    split
    · refine mS_prune k _ _ _ b (stp_8 h8 _) ?_
      match b, hp with
      | some p, hp =>
        have : p.2 ≤ tcH h := of_decide_eq_true hp
        have := stp_tc (τ := τ) h8 (F i)
        exact decide_eq_true (by omega)
    · rfl
def lb (b : BO) (t : Int) : Prop := ∀ p, b = some p → t ≤ p.2
def imp (b b' : BO) : Prop := ∀ t, lb b' t → lb b t
def LB (τ : Int → Int → (Nat → Int) → Int) (F : Nat → Int) (m : Nat) : Nat → Nat → Mem → Int → Prop
  | 0, _, h, t => t ≤ tcH h
  | k + 1, u, h, t => ∀ i, i < m → ubF (u : Int) (i : Int) → LB τ F m k (u1 u i) (stp τ h (F i)) t
def LBo (τ : Int → Int → (Nat → Int) → Int) (F : Nat → Int) (m : Nat) (k u : Nat) (h : Mem) (r : BO) : Prop := ∀ t, lb r t → LB τ F m k u h t
theorem imp.tr {a b c : BO} (h : imp a b) (h' : imp b c) : imp a c := fun t q => h t (h' t q)
theorem LBo.im {k u : Nat} {h : Mem} {r r' : BO} (H : LBo τ F m k u h r) (hi : imp r r') : LBo τ F m k u h r' := fun t q => H t (hi t q)
theorem fld_imp {f : BO → Nat → BO} (hf : ∀ b i, imp b (f b i)) : ∀ (n i : Nat) (b : BO), i ≤ n → imp (fld f i b) (fld f n b)
  | 0, i, b, hi => by have : i = 0 := by omega
                      subst this; exact fun _ q => q
  | n + 1, i, b, hi => by
    by_cases e : i = n + 1
    · subst e; exact fun _ q => q
    · exact (fld_imp hf n i b (by omega)).tr (hf _ _)
theorem mS_imp : ∀ (k u : Nat) (g : Int) (h : Mem) (b : BO), imp b (mS τ F m k u g h b)
  | 0, u, g, h, b => by
    intro t q p hp
    unfold mS at q
    subst hp
    rw [btr_s] at q
    by_cases c : tcH h < p.2
    · rw [if_pos c] at q; have := q _ rfl; dsimp only at this; omega
    · rw [if_neg c] at q; exact q _ rfl
  | k + 1, u, g, h, b => by
    unfold mS
    refine fld_imp (fun b i => ?_) m 0 b (Nat.zero_le _)
    show imp b (if ubF (u : Int) (i : Int) then mS τ F m k (u1 u i) (10 * g + i + 1) (stp τ h (F i)) b else b)
    split
    · exact mS_imp k _ _ _ b
    · exact fun _ q => q
theorem stf_imp (k u : Nat) (g : Int) (h : Mem) : ∀ b i, imp b ((fun (b : BO) (i : Nat) => if ubF (u : Int) (i : Int) then mS τ F m k (u1 u i) (10 * g + i + 1) (stp τ h (F i)) b else b) b i) := fun b i => by
  show imp b (if ubF (u : Int) (i : Int) then mS τ F m k (u1 u i) (10 * g + i + 1) (stp τ h (F i)) b else b)
  split
  · exact mS_imp k _ _ _ b
  · exact fun _ q => q
theorem mS_LBo : ∀ (k u : Nat) (g : Int) (h : Mem) (b : BO), LBo τ F m k u h (mS τ F m k u g h b)
  | 0, u, g, h, b => by
    intro t q
    unfold mS at q
    show t ≤ tcH h
    match b, q with
    | none, q => exact q _ rfl
    | some p, q =>
      rw [btr_s] at q
      by_cases c : tcH h < p.2
      · rw [if_pos c] at q; exact q _ rfl
      · rw [if_neg c] at q; have := q _ rfl; omega
  | k + 1, u, g, h, b => by
    intro t q i hi hu
    unfold mS at q
    have q1 := fld_imp (stf_imp (τ := τ) (F := F) (m := m) k u g h) m (i + 1) b (by omega) t q
    have e : fld (fun b i => if ubF (u : Int) (i : Int) then mS τ F m k (u1 u i) (10 * g + i + 1) (stp τ h (F i)) b else b) (i + 1) b = mS τ F m k (u1 u i) (10 * g + i + 1) (stp τ h (F i)) (fld (fun b i => if ubF (u : Int) (i : Int) then mS τ F m k (u1 u i) (10 * g + i + 1) (stp τ h (F i)) b else b) i b) := by
      show (if ubF (u : Int) (i : Int) then _ else _) = _
      rw [if_pos hu]
    rw [e] at q1
    exact mS_LBo k _ _ _ _ t q1
theorem mS_keep : ∀ (k u : Nat) (g : Int) (h : Mem) (r : BO), LBo τ F m k u h r → mS τ F m k u g h r = r
  | 0, u, g, h, r, H => by
    unfold mS
    match r, H with
    | none, H =>
      have : tcH h + 1 ≤ tcH h := H (tcH h + 1) (fun p q => by cases q)
      omega
    | some p, H =>
      have : p.2 ≤ tcH h := H p.2 (fun p' q => by cases q; exact Int.le_refl _)
      rw [btr_s, if_neg (by omega)]
  | k + 1, u, g, h, r, H => by
    unfold mS
    apply fld_id
    intro i hi
    show (if ubF (u : Int) (i : Int) then mS τ F m k (u1 u i) (10 * g + i + 1) (stp τ h (F i)) r else r) = r
    split
    · rename_i c
      exact mS_keep k _ _ _ r (fun t q => H t q i hi c)
    · rfl
theorem u1_ok {u i : Nat} (hu : u < 64) (hi : i < 6) : u1 u i < 64 ∧ ((u1 u i : Nat) : Int) = o_r (u : Int) (sh_l 1 (i : Int)) ∧ ∀ f : Nat, f < 6 → (ubF ((u1 u i : Nat) : Int) (f : Int) ↔ (ubF (u : Int) (f : Int) ∧ f ≠ i)) := by
  have h := ubs u hu i hi
  have e : ((u1 u i : Nat) : Int) = o_r (u : Int) (sh_l 1 (i : Int)) := by unfold u1; omega
  exact ⟨by unfold u1; omega, e, fun f hf => by rw [e]; exact h.2 f hf⟩
theorem LB_perm {σ : Nat → Nat} (hm : m ≤ 6) (hσ : ∀ i, i < m → σ i < m ∧ σ (σ i) = i ∧ F (σ i) = F i) : ∀ (k u u' : Nat) (h : Mem) (t : Int), u < 64 → u' < 64 → (∀ i, i < m → (ubF (u' : Int) (i : Int) ↔ ubF (u : Int) ((σ i : Nat) : Int))) → LB τ F m k u h t → LB τ F m k u' h t
  | 0, _, _, _, _, _, _, _, H => H
  | k + 1, u, u', h, t, hu, hu', he, H => by
    intro i hi hf
    obtain ⟨s1, s2, s3⟩ := hσ i hi
    have a := u1_ok hu (show σ i < 6 by omega)
    have b := u1_ok hu' (show i < 6 by omega)
    have H' := H (σ i) s1 ((he i hi).1 hf)
    rw [s3] at H'
    refine LB_perm hm hσ k (u1 u (σ i)) (u1 u' i) _ t a.1 b.1 (fun j hj => ?_) H'
    obtain ⟨r1, r2, r3⟩ := hσ j hj
    rw [b.2.2 j (by omega), a.2.2 (σ j) (by omega), he j hj]
    refine ⟨fun q => ⟨q.1, fun c => q.2 ?_⟩, fun q => ⟨q.1, fun c => q.2 (by rw [c])⟩⟩
    rw [← r2, c, s2]
theorem cS_eq (hm : m ≤ 6) : ∀ (k u : Nat) (g : Int) (h : Mem) (b : BO), u < 64 → 0 ≤ h 0 8 → cS τ F m k u g h b = mS τ F m k u g h b
  | 0, u, g, h, b, hu, h8 => by
    unfold cS
    split
    · rename_i c; exact (mS_prune 0 u g h b h8 c).symm
    · rename_i c
      unfold mS
      match b, c with
      | none, _ => rfl
      | some p, c =>
        have : ¬ p.2 ≤ tcH h := fun q => c (decide_eq_true q)
        rw [btr_s, if_pos (by omega)]
  | k + 1, u, g, h, b, hu, h8 => by
    unfold cS
    split
    · rename_i c; exact (mS_prune (k + 1) u g h b h8 c).symm
    · unfold mS
      have key : ∀ i, i ≤ m → fld (fun b i => if fre F u i then cS τ F m k (u1 u i) (10 * g + i + 1) (stp τ h (F i)) b else b) i b = fld (fun b i => if ubF (u : Int) (i : Int) then mS τ F m k (u1 u i) (10 * g + i + 1) (stp τ h (F i)) b else b) i b := by
        intro i
        induction i with
        | zero => intro _; rfl
        | succ i ih =>
          intro hi
          unfold fld
          rw [ih (by omega)]
          show (if fre F u i then cS τ F m k (u1 u i) (10 * g + i + 1) (stp τ h (F i)) _ else _) = (if ubF (u : Int) (i : Int) then mS τ F m k (u1 u i) (10 * g + i + 1) (stp τ h (F i)) _ else _)
          generalize hr : fld (fun b i => if ubF (u : Int) (i : Int) then mS τ F m k (u1 u i) (10 * g + i + 1) (stp τ h (F i)) b else b) i b = r
          by_cases cu : ubF (u : Int) (i : Int)
          · rw [if_pos cu]
            by_cases cf : fre F u i
            · rw [if_pos cf]; exact cS_eq hm k _ _ _ r (u1_ok hu (by omega)).1 (stp_8 h8 _)
            · rw [if_neg cf]
              have : ∃ j, j < i ∧ ubF (u : Int) (j : Int) ∧ F j = F i := by
                apply Classical.byContradiction
                intro hn
                exact cf ⟨cu, fun j hj q => hn ⟨j, hj, q⟩⟩
              obtain ⟨j, hj, cj, ej⟩ := this
              refine (mS_keep k _ _ _ r ?_).symm
              have q1 : LBo τ F m k (u1 u j) (stp τ h (F j)) r := by
                rw [← hr]
                intro t q
                have q1 := fld_imp (stf_imp (τ := τ) (F := F) (m := m) k u g h) i (j + 1) b (by omega) t q
                have e : fld (fun b i => if ubF (u : Int) (i : Int) then mS τ F m k (u1 u i) (10 * g + i + 1) (stp τ h (F i)) b else b) (j + 1) b = mS τ F m k (u1 u j) (10 * g + j + 1) (stp τ h (F j)) (fld (fun b i => if ubF (u : Int) (i : Int) then mS τ F m k (u1 u i) (10 * g + i + 1) (stp τ h (F i)) b else b) j b) := by
                  show (if ubF (u : Int) (j : Int) then _ else _) = _
                  rw [if_pos cj]
                rw [e] at q1
                exact mS_LBo k _ _ _ _ t q1
              rw [ej] at q1
              intro t q
              have a := u1_ok hu (show j < 6 by omega)
              have c := u1_ok hu (show i < 6 by omega)
              refine LB_perm (σ := fun p => if p = i then j else if p = j then i else p) hm (fun p hp => ?_) k (u1 u j) (u1 u i) _ t a.1 c.1 (fun p hp => ?_) (q1 t q)
              · show (if p = i then j else if p = j then i else p) < m ∧ (if (if p = i then j else if p = j then i else p) = i then j else if (if p = i then j else if p = j then i else p) = j then i else (if p = i then j else if p = j then i else p)) = p ∧ F (if p = i then j else if p = j then i else p) = F p
                by_cases p1 : p = i
                · subst p1; rw [if_pos rfl, if_neg (by omega), if_pos rfl]; exact ⟨by omega, rfl, ej⟩
                · by_cases p2 : p = j
                  · subst p2; rw [if_neg p1, if_pos rfl, if_pos rfl]; exact ⟨by omega, rfl, ej.symm⟩
                  · rw [if_neg p1, if_neg p2, if_neg p1, if_neg p2]; exact ⟨hp, rfl, rfl⟩
              · show ubF ((u1 u i : Nat) : Int) (p : Int) ↔ ubF ((u1 u j : Nat) : Int) (((if p = i then j else if p = j then i else p) : Nat) : Int)
                rw [c.2.2 p (by omega)]
                by_cases p1 : p = i
                · subst p1
                  rw [if_pos rfl, a.2.2 j (by omega)]
                  exact ⟨fun q => absurd rfl q.2, fun q => absurd rfl q.2⟩
                · by_cases p2 : p = j
                  · subst p2
                    rw [if_neg p1, if_pos rfl, a.2.2 i (by omega)]
                    exact ⟨fun _ => ⟨cu, by omega⟩, fun _ => ⟨cj, p1⟩⟩
                  · rw [if_neg p1, if_neg p2, a.2.2 p (by omega)]
                    exact ⟨fun q => ⟨q.1, p2⟩, fun q => ⟨q.1, p1⟩⟩
          · rw [if_neg cu, if_neg (fun q => cu q.1)]
      exact key m (Nat.le_refl _)
end OR
