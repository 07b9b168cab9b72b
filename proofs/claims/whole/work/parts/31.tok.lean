/-! TOKENS -/
def bt (B : Nat → Int) (N : Nat) (i : Nat) : Int := if i < N then B i else -1
def bl (x : Int) : Bool := decide (x = 32 ∨ x = 10)
def le (x : Int) : Bool := decide (97 ≤ x ∧ x ≤ 122)
def di (x : Int) : Bool := decide (48 ≤ x ∧ x ≤ 57)
abbrev sg (x : Int) : Prop := x = 40 ∨ x = 41 ∨ x = 42 ∨ x = 43 ∨ x = 45 ∨ x = 59 ∨ x = 60 ∨ x = 61
def ru (c : Int → Bool) (B : Nat → Int) (N : Nat) : Nat → Nat → Nat
  | 0, p => p
  | f + 1, p => if c (bt B N p) then ru c B N f (p + 1) else p
def ruE (c : Int → Bool) (B : Nat → Int) (N p : Nat) : Nat := ru c B N (N - p) p
def numv (B : Nat → Int) (N s : Nat) : Nat → Int
  | 0 => 0
  | k + 1 => 10 * numv B N s k + (bt B N (s + k) - 48)
def wsL : List Int := [115,116,101,109,32,99,111,108,111,117,114,32,110,117,109,98,101,114,32,97,110,103,108,101,32,108,101,102,116,32,114,111,111,109,32,116,117,114,110,115,32,99,111,115,116,115,32,108,97,115,116,115,32,111,114,32,97,110,100,32,110,111,116,32]
def ws (i : Nat) : Int := wsL.getD i 0
abbrev weq (B : Nat → Int) (N s e b en : Nat) : Prop := en - b = e - s ∧ ∀ j, j < en - b → ws (b + j) = bt B N (s + j)
def wl (B : Nat → Int) (N s e : Nat) : Nat → Nat → Nat → Nat → Int
  | 0, _, _, _ => 14
  | f + 1, n, b, i => if ws i = 32 then (if weq B N s e b i then (n : Int) else wl B N s e f (n + 1) (i + 1) (i + 1)) else wl B N s e f n b (i + 1)
def wbL : List (Nat × Nat) := [(0,4),(5,11),(12,18),(19,24),(25,29),(30,34),(35,40),(41,46),(47,52),(53,55),(56,59),(60,63)]
def wb (k : Nat) : Nat × Nat := wbL.getD k (0, 0)
def wf (B : Nat → Int) (N s e : Nat) : Nat → Int
  | 0 => 14
  | r + 1 => if weq B N s e (wb (11 - r)).1 (wb (11 - r)).2 then ((11 - r : Nat) : Int) else wf B N s e r
section TK
variable {B : Nat → Int} {N : Nat}
theorem bt_lt {i : Nat} (h : bt B N i ≠ -1) : i < N := by
  apply Classical.byContradiction
  intro q; exact h (if_neg q)
theorem ruE_f {c : Int → Bool} {p : Nat} (h : c (bt B N p) = false) : ruE c B N p = p := by
  unfold ruE
  match N - p with
  | 0 => rfl
  | f + 1 => unfold ru; rw [if_neg (by rw [h]; decide)]
theorem ruE_t {c : Int → Bool} {p : Nat} (hc : c (-1) = false) (h : c (bt B N p) = true) : p < N ∧ ruE c B N p = ruE c B N (p + 1) := by
  have hp : p < N := bt_lt (fun q => by rw [q, hc] at h; cases h)
  refine ⟨hp, ?_⟩
  unfold ruE
  rw [show N - p = (N - (p + 1)) + 1 by omega]
  show (if c (bt B N p) then _ else _) = _
  rw [if_pos h]
theorem ruE_le {c : Int → Bool} : ∀ (d p : Nat), N - p = d → p ≤ N → p ≤ ruE c B N p ∧ ruE c B N p ≤ N
  | 0, p, hd, hp => by unfold ruE; rw [hd]; unfold ru; omega
  | d + 1, p, hd, hp => by
    by_cases h : c (bt B N p) = true
    · have ih := ruE_le (c := c) d (p + 1) (by omega) (by omega)
      have e : ruE c B N p = ruE c B N (p + 1) := by
        unfold ruE
        rw [show N - p = (N - (p + 1)) + 1 by omega]
        show (if c (bt B N p) then _ else _) = _
        rw [if_pos h]
      omega
    · rw [ruE_f (by simpa using h)]; omega
theorem ruE_b {c : Int → Bool} {p : Nat} (hp : p ≤ N) : p ≤ ruE c B N p ∧ ruE c B N p ≤ N := ruE_le _ p rfl hp
theorem ruE_in {c : Int → Bool} (hc : c (-1) = false) : ∀ (d p : Nat), N - p = d → ∀ i, p ≤ i → i < ruE c B N p → c (bt B N i) = true
  | 0, p, hd, i, h1, h2 => by unfold ruE at h2; rw [hd] at h2; unfold ru at h2; omega
  | d + 1, p, hd, i, h1, h2 => by
    by_cases h : c (bt B N p) = true
    · by_cases e : i = p
      · subst e; exact h
      · have e2 := (ruE_t hc h).2
        rw [e2] at h2
        exact ruE_in hc d (p + 1) (by omega) i (by omega) h2
    · rw [ruE_f (by simpa using h)] at h2; omega
theorem ruE_end {c : Int → Bool} (hc : c (-1) = false) : ∀ (d p : Nat), N - p = d → c (bt B N (ruE c B N p)) = false
  | 0, p, hd => by
    have : ruE c B N p = p := by unfold ruE; rw [hd]; rfl
    rw [this]
    have : bt B N p = -1 := if_neg (by omega)
    rw [this]; exact hc
  | d + 1, p, hd => by
    by_cases h : c (bt B N p) = true
    · rw [(ruE_t hc h).2]; exact ruE_end hc d (p + 1) (by omega)
    · have h' : c (bt B N p) = false := by simpa using h
      rw [ruE_f h']; exact h'
theorem wl_word {s e : Nat} (f n b en : Nat) (h2 : ws en = 32) : ∀ (d i : Nat), i + d = en → (∀ j, j < en → i ≤ j → ws j ≠ 32) → wl B N s e (f + d + 1) n b i = if weq B N s e b en then (n : Int) else wl B N s e f (n + 1) (en + 1) (en + 1)
  | 0, i, hi, h1 => by
    have : i = en := by omega
    subst this
    show (if ws i = 32 then _ else _) = _
    rw [if_pos h2]
  | d + 1, i, hi, h1 => by
    show (if ws i = 32 then _ else _) = _
    rw [if_neg (h1 i (by omega) (by omega))]
    exact wl_word f n b en h2 d (i + 1) (by omega) (fun j q1 q2 => h1 j q1 (by omega))
theorem wl_wf {s e : Nat} : wl B N s e 64 0 0 0 = wf B N s e 12 := by
  have a0 := wl_word (B := B) (N := N) (s := s) (e := e) 59 0 0 4 (by decide) 4 0 (by decide) (by decide)
  have a1 := wl_word (B := B) (N := N) (s := s) (e := e) 52 1 5 11 (by decide) 6 5 (by decide) (by decide)
  have a2 := wl_word (B := B) (N := N) (s := s) (e := e) 45 2 12 18 (by decide) 6 12 (by decide) (by decide)
  have a3 := wl_word (B := B) (N := N) (s := s) (e := e) 39 3 19 24 (by decide) 5 19 (by decide) (by decide)
  have a4 := wl_word (B := B) (N := N) (s := s) (e := e) 34 4 25 29 (by decide) 4 25 (by decide) (by decide)
  have a5 := wl_word (B := B) (N := N) (s := s) (e := e) 29 5 30 34 (by decide) 4 30 (by decide) (by decide)
  have a6 := wl_word (B := B) (N := N) (s := s) (e := e) 23 6 35 40 (by decide) 5 35 (by decide) (by decide)
  have a7 := wl_word (B := B) (N := N) (s := s) (e := e) 17 7 41 46 (by decide) 5 41 (by decide) (by decide)
  have a8 := wl_word (B := B) (N := N) (s := s) (e := e) 11 8 47 52 (by decide) 5 47 (by decide) (by decide)
  have a9 := wl_word (B := B) (N := N) (s := s) (e := e) 8 9 53 55 (by decide) 2 53 (by decide) (by decide)
  have a10 := wl_word (B := B) (N := N) (s := s) (e := e) 4 10 56 59 (by decide) 3 56 (by decide) (by decide)
  have a11 := wl_word (B := B) (N := N) (s := s) (e := e) 0 11 60 63 (by decide) 3 60 (by decide) (by decide)
  refine a0.trans ?_
  rw [show wl B N s e 59 (0 + 1) (4 + 1) (4 + 1) = _ from a1, show wl B N s e 52 (1 + 1) (11 + 1) (11 + 1) = _ from a2, show wl B N s e 45 (2 + 1) (18 + 1) (18 + 1) = _ from a3, show wl B N s e 39 (3 + 1) (24 + 1) (24 + 1) = _ from a4, show wl B N s e 34 (4 + 1) (29 + 1) (29 + 1) = _ from a5, show wl B N s e 29 (5 + 1) (34 + 1) (34 + 1) = _ from a6, show wl B N s e 23 (6 + 1) (40 + 1) (40 + 1) = _ from a7, show wl B N s e 17 (7 + 1) (46 + 1) (46 + 1) = _ from a8, show wl B N s e 11 (8 + 1) (52 + 1) (52 + 1) = _ from a9, show wl B N s e 8 (9 + 1) (55 + 1) (55 + 1) = _ from a10, show wl B N s e 4 (10 + 1) (59 + 1) (59 + 1) = _ from a11]
  rfl
theorem wdis : ∀ k, k < 12 → ∀ l, l < 12 → k ≠ l → (wb k).2 - (wb k).1 = (wb l).2 - (wb l).1 → ∃ j, j < (wb k).2 - (wb k).1 ∧ ws ((wb k).1 + j) ≠ ws ((wb l).1 + j) := by decide +kernel
theorem weq_one {s e k l : Nat} (hk : k < 12) (hl : l < 12) (h1 : weq B N s e (wb k).1 (wb k).2) (h2 : weq B N s e (wb l).1 (wb l).2) : k = l := by
  apply Classical.byContradiction
  intro hn
  obtain ⟨j, hj, hw⟩ := wdis k hk l hl hn (h1.1.trans h2.1.symm)
  exact hw ((h1.2 j hj).trans (h2.2 j (by have := h1.1; have := h2.1; omega)).symm)
theorem wf_or {s e : Nat} : ∀ r, r ≤ 12 → (∃ k : Nat, 12 - r ≤ k ∧ k < 12 ∧ weq B N s e (wb k).1 (wb k).2 ∧ wf B N s e r = (k : Int)) ∨ (wf B N s e r = 14 ∧ ∀ k, 12 - r ≤ k → k < 12 → ¬ weq B N s e (wb k).1 (wb k).2)
  | 0, _ => Or.inr ⟨rfl, fun k h1 h2 => by omega⟩
  | r + 1, hr => by
    by_cases c : weq B N s e (wb (11 - r)).1 (wb (11 - r)).2
    · exact Or.inl ⟨11 - r, by omega, by omega, c, if_pos c⟩
    · have ef : wf B N s e (r + 1) = wf B N s e r := if_neg c
      rcases wf_or r (by omega) with ⟨k, q1, q2, q3, q4⟩ | ⟨q1, q2⟩
      · exact Or.inl ⟨k, by omega, q2, q3, ef.trans q4⟩
      · refine Or.inr ⟨ef.trans q1, fun k h1 h2 => ?_⟩
        by_cases e : k = 11 - r
        · subst e; exact c
        · exact q2 k (by omega) h2
def wc (B : Nat → Int) (N s e : Nat) : Int := wl B N s e 64 0 0 0
theorem wc_iff {s e k : Nat} (hk : k < 12) : wc B N s e = (k : Int) ↔ weq B N s e (wb k).1 (wb k).2 := by
  unfold wc
  rw [wl_wf]
  rcases wf_or (B := B) (N := N) (s := s) (e := e) 12 (by omega) with ⟨l, q1, q2, q3, q4⟩ | ⟨q1, q2⟩
  · rw [q4]
    refine ⟨fun h => ?_, fun h => ?_⟩
    · have : l = k := by omega
      subst this; exact q3
    · have := weq_one hk q2 h q3
      omega
  · rw [q1]
    exact ⟨fun h => by omega, fun h => absurd h (q2 k (by omega) hk)⟩
theorem wc_r {s e : Nat} : (0 ≤ wc B N s e ∧ wc B N s e ≤ 11) ∨ wc B N s e = 14 := by
  unfold wc
  rw [wl_wf]
  rcases wf_or (B := B) (N := N) (s := s) (e := e) 12 (by omega) with ⟨l, q1, q2, q3, q4⟩ | ⟨q1, q2⟩
  · rw [q4]; omega
  · exact Or.inr q1
end TK
/-- a token: where it stands, what it is, what is behind it -/
def sta (B : Nat → Int) (N p : Nat) : Nat := ruE bl B N p
def tkc (B : Nat → Int) (N p : Nat) : Int := if bt B N (sta B N p) = -1 then 13 else if le (bt B N (sta B N p)) then wc B N (sta B N p) (ruE le B N (sta B N p)) else if di (bt B N (sta B N p)) then (if ruE di B N (sta B N p) - sta B N p ≤ 4 then 12 else 14) else if sg (bt B N (sta B N p)) then bt B N (sta B N p) else 14
def nxt (B : Nat → Int) (N p : Nat) : Nat := if bt B N (sta B N p) = -1 then sta B N p else if le (bt B N (sta B N p)) then ruE le B N (sta B N p) else if di (bt B N (sta B N p)) then ruE di B N (sta B N p) else if sg (bt B N (sta B N p)) then sta B N p + 1 else sta B N p
def tvl (B : Nat → Int) (N p : Nat) : Int := numv B N (sta B N p) (ruE di B N (sta B N p) - sta B N p)
section TK2
variable {B : Nat → Int} {N p : Nat}
theorem sta_b (hp : p ≤ N) : p ≤ sta B N p ∧ sta B N p ≤ N := ruE_b hp
theorem nxt_b (hp : p ≤ N) : p ≤ nxt B N p ∧ nxt B N p ≤ N := by
  have h := sta_b (B := B) hp
  unfold nxt
  by_cases c : bt B N (sta B N p) = -1
  · rw [if_pos c]; exact h
  · rw [if_neg c]
    have hl := bt_lt c
    split
    · have := ruE_b (B := B) (c := le) (p := sta B N p) h.2; omega
    · split
      · have := ruE_b (B := B) (c := di) (p := sta B N p) h.2; omega
      · split <;> omega
/-- what is taken moves on -/
theorem nxt_s (hp : p ≤ N) (h1 : tkc B N p ≠ 13) (h2 : tkc B N p ≠ 14) : p + 1 ≤ nxt B N p := by
  have h := sta_b (B := B) hp
  unfold tkc at h1 h2
  unfold nxt
  by_cases c : bt B N (sta B N p) = -1
  · rw [if_pos c] at h1; exact absurd rfl h1
  · rw [if_neg c] at h1 h2 ⊢
    have hl := bt_lt c
    by_cases c1 : le (bt B N (sta B N p)) = true
    · rw [if_pos c1]
      have := (ruE_t (c := le) (B := B) (N := N) (p := sta B N p) rfl c1).2
      have := ruE_b (B := B) (N := N) (c := le) (p := sta B N p + 1) (by omega)
      omega
    · rw [if_neg c1] at h2 ⊢
      by_cases c2 : di (bt B N (sta B N p)) = true
      · rw [if_pos c2]
        have := (ruE_t (c := di) (B := B) (N := N) (p := sta B N p) rfl c2).2
        have := ruE_b (B := B) (N := N) (c := di) (p := sta B N p + 1) (by omega)
        omega
      · rw [if_neg c2] at h2 ⊢
        by_cases c3 : sg (bt B N (sta B N p))
        · rw [if_pos c3]; omega
        · rw [if_neg c3] at h2; exact absurd rfl h2
end TK2
