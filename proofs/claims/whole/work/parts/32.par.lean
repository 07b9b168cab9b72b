/-! READING, PURE -/
abbrev RR : Type := Sum Int (List Int × Nat)
section PA
variable (B : Nat → Int) (N : Nat)
def tok : RR → Int
  | .inl _ => 14
  | .inr q => tkc B N q.2
def adv : RR → RR
  | .inl f => .inl f
  | .inr q => .inr (q.1, nxt B N q.2)
def mk (s : Int) : RR → RR
  | .inl f => .inl f
  | .inr q => .inr (q.1 ++ [s], q.2)
def mkv : RR → RR
  | .inl f => .inl f
  | .inr q => .inr (q.1 ++ [tvl B N q.2], q.2)
def fl : RR → RR
  | .inl f => .inl f
  | .inr q => .inl ((sta B N q.2 : Nat) : Int)
def ex (due : Int) (r : RR) : RR := if tok B N r = due then adv B N r else fl B N r
def lp (X : RR → RR) (st : Int → Int) : Nat → RR → RR
  | 0, r => r
  | f + 1, r => if st (tok B N r) = 0 then r else lp X st f (mk (st (tok B N r)) (X (adv B N r)))
def stT (t : Int) : Int := if t = 42 then -17 else 0
def stS (t : Int) : Int := if t = 43 then -15 else if t = 45 then -16 else 0
def stA (t : Int) : Int := if t = 10 then -11 else 0
def stO (t : Int) : Int := if t = 9 then -10 else 0
def oneS (d0 : Bool) (A O : RR → RR) (r : RR) : RR :=
  if tok B N r = 12 then adv B N (mkv B N r) else if 0 ≤ tok B N r ∧ tok B N r < 6 then adv B N (mk (-1 - tok B N r) r)
  else if tok B N r = 45 ∧ d0 = true then mk (-18) (A (adv B N r)) else if tok B N r = 40 ∧ d0 = true then ex B N 41 (O (adv B N r)) else fl B N r
def termS (A : RR → RR) (r : RR) : RR := lp B N A stT 160 (A r)
def sumS (A : RR → RR) (r : RR) : RR := lp B N (termS B N A) stS 160 (termS B N A r)
def cmpS (A : RR → RR) (r : RR) : RR := if tok B N r = 60 then mk (-13) (sumS B N A (adv B N r)) else if tok B N r = 61 then mk (-14) (sumS B N A (adv B N r)) else r
def notS (d0 : Bool) (Nn A : RR → RR) (r : RR) : RR := if tok B N r = 11 ∧ d0 = true then mk (-12) (Nn (adv B N r)) else cmpS B N A (sumS B N A r)
def andS (Nt : RR → RR) (r : RR) : RR := lp B N Nt stA 160 (Nt r)
def orQ (Nt : RR → RR) (r : RR) : RR := lp B N (andS B N Nt) stO 160 (andS B N Nt r)
def pN : Nat → (RR → RR) × (RR → RR)
  | 0 => (oneS B N false id id, notS B N false id (oneS B N false id id))
  | d + 1 => (oneS B N true (pN d).1 (orQ B N (pN d).2), notS B N true (pN d).2 (oneS B N true (pN d).1 (orQ B N (pN d).2)))
def pt (k : Int) (r : RR) : RR := ex B N 59 (orQ B N (pN B N 5).2 (ex B N (6 + k) r))
def rT (k : Nat) : RR := match k with
  | 0 => .inr ([], 0)
  | 1 => pt B N 0 (.inr ([], 0))
  | 2 => pt B N 1 (pt B N 0 (.inr ([], 0)))
  | _ => pt B N 2 (pt B N 1 (pt B N 0 (.inr ([], 0))))
def rE : RR := ex B N 13 (rT B N 3)
end PA
section PB
variable {B : Nat → Int} {N : Nat}
def WR (N k : Nat) (r : RR) : Prop := ∀ q, r = .inr q → q.1.length + k ≤ q.2 ∧ q.2 ≤ N
theorem WR.le {k k' : Nat} {r : RR} (h : WR N k r) (hk : k' ≤ k) : WR N k' r := fun q e => by have := h q e; omega
theorem adv_W {k : Nat} {r : RR} (h : WR N k r) : WR N k (adv B N r) := fun q e => by
  match r, h, e with
  | .inr q', h, e =>
    have h := h q' rfl
    have := nxt_b (B := B) h.2
    cases e; dsimp only; omega
theorem adv_W1 {k : Nat} {r : RR} (h : WR N k r) (h1 : tok B N r ≠ 13) (h2 : tok B N r ≠ 14) : WR N (k + 1) (adv B N r) := fun q e => by
  match r, h, h1, h2, e with
  | .inr q', h, h1, h2, e =>
    have h := h q' rfl
    have := nxt_b (B := B) h.2
    have := nxt_s (B := B) h.2 h1 h2
    cases e; dsimp only; omega
theorem mk_W {k : Nat} {s : Int} {r : RR} (h : WR N (k + 1) r) : WR N k (mk s r) := fun q e => by
  match r, h, e with
  | .inr q', h, e =>
    have h := h q' rfl
    cases e; dsimp only; simp only [List.length_append, List.length_cons, List.length_nil]; omega
theorem fl_W {k : Nat} {r : RR} : WR N k (fl B N r) := fun q e => by
  match r, e with
  | .inl f, e => cases e
  | .inr q', e => cases e
theorem ex_W {k : Nat} {due : Int} {r : RR} (h : WR N k r) : WR N k (ex B N due r) := by
  unfold ex; split
  · exact adv_W h
  · exact fl_W
theorem lp_W {X : RR → RR} {st : Int → Int} (hX : ∀ k r, WR N k r → WR N k (X r)) (h13 : st 13 = 0) (h14 : st 14 = 0) : ∀ (f k : Nat) (r : RR), WR N k r → WR N k (lp B N X st f r)
  | 0, k, r, h => h
  | f + 1, k, r, h => by
    unfold lp
    split
    · exact h
    · rename_i c
      exact lp_W hX h13 h14 f k _ (mk_W (hX _ _ (adv_W1 h (fun q => c (by rw [q]; exact h13)) (fun q => c (by rw [q]; exact h14)))))
theorem oneS_W {d0 : Bool} {A O : RR → RR} (hA : ∀ k r, WR N k r → WR N k (A r)) (hO : ∀ k r, WR N k r → WR N k (O r)) (k : Nat) (r : RR) (h : WR N k r) : WR N k (oneS B N d0 A O r) := by
  unfold oneS
  split
  · rename_i c
    intro q e
    match r, h, c, e with
    | .inr q', h, c, e =>
      have h := h q' rfl
      have c' : tkc B N q'.2 = 12 := c
      have := nxt_b (B := B) h.2
      have := nxt_s (B := B) h.2 (by rw [c']; decide) (by rw [c']; decide)
      cases e; dsimp only; simp only [List.length_append, List.length_cons, List.length_nil]; omega
  · split
    · rename_i c
      intro q e
      match r, h, c, e with
      | .inr q', h, c, e =>
        have h := h q' rfl
        have c' : 0 ≤ tkc B N q'.2 ∧ tkc B N q'.2 < 6 := c
        have := nxt_b (B := B) h.2
        have := nxt_s (B := B) h.2 (by omega) (by omega)
        cases e; dsimp only; simp only [List.length_append, List.length_cons, List.length_nil]; omega
      | .inl f, h, c, e => cases e
    · split
      · rename_i c
        exact mk_W (hA _ _ (adv_W1 h (by rw [c.1]; decide) (by rw [c.1]; decide)))
      · split
        · exact ex_W (hO _ _ (adv_W h))
        · exact fl_W
theorem termS_W {A : RR → RR} (hA : ∀ k r, WR N k r → WR N k (A r)) (k : Nat) (r : RR) (h : WR N k r) : WR N k (termS B N A r) := lp_W hA rfl rfl 160 k _ (hA k r h)
theorem sumS_W {A : RR → RR} (hA : ∀ k r, WR N k r → WR N k (A r)) (k : Nat) (r : RR) (h : WR N k r) : WR N k (sumS B N A r) := lp_W (termS_W hA) rfl rfl 160 k _ (termS_W hA k r h)
theorem cmpS_W {A : RR → RR} (hA : ∀ k r, WR N k r → WR N k (A r)) (k : Nat) (r : RR) (h : WR N k r) : WR N k (cmpS B N A r) := by
  unfold cmpS
  split
  · rename_i c; exact mk_W (sumS_W hA _ _ (adv_W1 h (by rw [c]; decide) (by rw [c]; decide)))
  · split
    · rename_i c; exact mk_W (sumS_W hA _ _ (adv_W1 h (by rw [c]; decide) (by rw [c]; decide)))
    · exact h
theorem notS_W {d0 : Bool} {Nn A : RR → RR} (hN : ∀ k r, WR N k r → WR N k (Nn r)) (hA : ∀ k r, WR N k r → WR N k (A r)) (k : Nat) (r : RR) (h : WR N k r) : WR N k (notS B N d0 Nn A r) := by
  unfold notS
  split
  · rename_i c; exact mk_W (hN _ _ (adv_W1 h (by rw [c.1]; decide) (by rw [c.1]; decide)))
  · exact cmpS_W hA _ _ (sumS_W hA _ _ h)
theorem andS_W {Nt : RR → RR} (hA : ∀ k r, WR N k r → WR N k (Nt r)) (k : Nat) (r : RR) (h : WR N k r) : WR N k (andS B N Nt r) := lp_W hA rfl rfl 160 k _ (hA k r h)
theorem orQ_W {Nt : RR → RR} (hA : ∀ k r, WR N k r → WR N k (Nt r)) (k : Nat) (r : RR) (h : WR N k r) : WR N k (orQ B N Nt r) := lp_W (andS_W hA) rfl rfl 160 k _ (andS_W hA k r h)
theorem id_W (k : Nat) (r : RR) (h : WR N k r) : WR N k (id r) := h
theorem pN_W : ∀ d : Nat, (∀ k r, WR N k r → WR N k ((pN B N d).1 r)) ∧ (∀ k r, WR N k r → WR N k ((pN B N d).2 r))
  | 0 => ⟨oneS_W id_W id_W, notS_W id_W (oneS_W id_W id_W)⟩
  | d + 1 => ⟨oneS_W (pN_W d).1 (orQ_W (pN_W d).2), notS_W (pN_W d).2 (oneS_W (pN_W d).1 (orQ_W (pN_W d).2))⟩
theorem pt_W {j : Int} (k : Nat) (r : RR) (h : WR N k r) : WR N k (pt B N j r) := ex_W (orQ_W (pN_W 5).2 _ _ (ex_W h))
/-- steps as a list -/
def rl (e : Nat → Int) : List Int → List Int → Option (List Int)
  | [], s => some s
  | a :: c, s => (st1 e a s).bind (rl e c)
theorem rl_app {e : Nat → Int} : ∀ (c c' : List Int) (s : List Int), rl e (c ++ c') s = (rl e c s).bind (rl e c')
  | [], c', s => rfl
  | a :: c, c', s => by
    show (st1 e a s).bind (rl e (c ++ c')) = ((st1 e a s).bind (rl e c)).bind (rl e c')
    cases st1 e a s with
    | none => rfl
    | some s' => exact rl_app c c' s'
/-- behind the steps c0 those of r make v -/
def PV (e : Nat → Int) (c0 : List Int) (r : RR) (v : Int) : Prop := ∀ q, r = .inr q → ∃ c, q.1 = c0 ++ c ∧ ∀ s, rl e c s = some (v :: s)
theorem PV.adv {e : Nat → Int} {c0 : List Int} {r : RR} {v : Int} (h : PV e c0 r v) : PV e c0 (adv B N r) v := fun q e' => by
  match r, h, e' with
  | .inr q', h, e' =>
    obtain ⟨c, h1, h2⟩ := h q' rfl
    cases e'; exact ⟨c, h1, h2⟩
theorem PV.fl {e : Nat → Int} {c0 : List Int} {r : RR} {v : Int} : PV e c0 (fl B N r) v := fun q e' => by
  match r, e' with
  | .inl f, e' => cases e'
  | .inr q', e' => cases e'
theorem PV.ex {e : Nat → Int} {c0 : List Int} {r : RR} {v due : Int} (h : PV e c0 r v) : PV e c0 (ex B N due r) v := by
  unfold Jvm.Pilot.@@N@@.ex; split
  · exact h.adv
  · exact PV.fl
theorem PV.one {e : Nat → Int} {c : List Int} {p : Nat} {a v : Int} (ha : ∀ s, st1 e a s = some (v :: s)) : PV e c (.inr (c ++ [a], p)) v := fun q e' => by
  cases e'
  refine ⟨[a], rfl, fun s => ?_⟩
  show (st1 e a s).bind (rl e []) = _
  rw [ha]; rfl
theorem PV.un {e : Nat → Int} {c0 : List Int} {r : RR} {a s0 v : Int} (h : PV e c0 r a) (hs : ∀ s, st1 e s0 (a :: s) = some (v :: s)) : PV e c0 (mk s0 r) v := fun q e' => by
  match r, h, e' with
  | .inr q', h, e' =>
    obtain ⟨c, h1, h2⟩ := h q' rfl
    cases e'
    refine ⟨c ++ [s0], by show q'.1 ++ [s0] = _; rw [h1, List.append_assoc], fun s => ?_⟩
    rw [rl_app, h2]
    show (st1 e s0 (a :: s)).bind (rl e []) = _
    rw [hs]; rfl
theorem PV.bin {e : Nat → Int} {c0 : List Int} {q1 : List Int × Nat} {r : RR} {a b s0 v : Int} (h : PV e c0 (.inr q1) a) (h' : PV e q1.1 r b) (hs : ∀ s, st1 e s0 (b :: a :: s) = some (v :: s)) : PV e c0 (mk s0 r) v := fun q e' => by
  match r, h', e' with
  | .inr q', h', e' =>
    obtain ⟨c, h1, h2⟩ := h q1 rfl
    obtain ⟨c', h3, h4⟩ := h' q' rfl
    cases e'
    refine ⟨c ++ c' ++ [s0], by show q'.1 ++ [s0] = _; rw [h3, h1, List.append_assoc, List.append_assoc, List.append_assoc], fun s => ?_⟩
    rw [rl_app, rl_app, h2]
    show ((rl e c' (a :: s))).bind (rl e [s0]) = _
    rw [h4]
    show (st1 e s0 (b :: a :: s)).bind (rl e []) = _
    rw [hs]; rfl
end PB
