/-! THE LAW: words of the skeleton, rows for the script -/
def R_law : String := "FortyStemsLaw"
def lw_P (b : Addr) (xs : List Int32) (args : Array Value) (s : State) : Prop := args = #[.ref b] ∧ s.IntsAt b xs ∧ xs.length ≤ 3072 ∧ (Jvm.Cond.and given_1 narrow_1).before args s = true
def lw_Q (_ : Array Value) (s : State) (o : Outcome) (t : State) : Prop := o = .returned (some (.int 1)) ∧ Framed s o t [] 600000 7302249
def lw_Z (below : List Frame) (a : Array Value) (s : State) : State → Prop := fun t => ∃ o, t.status = .running ∧ Ended t below o ∧ lw_Q a s o t
/-- the law's own end, with 1 on the stack, nothing written that was there before, its room as the claim has it -/
theorem lw_ret {p : Program} {l : Launch} {e : Env} {s : State} {m : MethodId} {below : List Frame} {meth : Method} {c : Code} {b : Nat} (hx : p.tables.exec = Jvm.exec) (hb : c.code = code) (hr : meth.sig.returnType = ret) (hlocks : meth.locks = false) {pc : Nat} {H : Heap} {ls : Array Slot} (hdg : decode code pc = .ok (.ireturn, 1)) : W p l e room_1 s m #[Value.ref b] below meth c H [] 600000 7302249 (lw_Z below #[Value.ref b] s) (F0 m pc ls [.int 1]) := by
  intro T hT X
  obtain ⟨fs, hret, hrun, hended, hW, hframe⟩ := X.leave (v := some (.int 1)) (hlocks := hlocks) (fun h => by rw [hr] at h; cases h)
  have hmeth' : T.vm.method? m = some meth := X.method'
  refine ⟨T.setFrames fs, ?_, .returned (some (.int 1)), hrun, hended, rfl, ⟨_, rfl⟩, hW, hframe⟩
  jvm_step X.here [X.here.top, hx, hb, hdg, hmeth', hr, ret, narrow_b1]
  (try refine ⟨rfl, ?_⟩); (try refine ⟨rfl, ?_⟩)
  first | (intro acts; rw [hret _ acts rfl rfl rfl]) | rw [hret _ _ rfl rfl rfl]
  exact Steps.refl _
/-- what holds at the law's entry: the machine, the code, the tables' words (any of lw_tbl by 'hts w (by decide +kernel)'), the script of L ints xs at the cell b, what the Statement gives of the start (any of its parts by flat_of_before) -/
def lw_At (p : Program) (s : State) (m : MethodId) (meth : Method) (c : Code) (b L : Nat) (xs : Nat → Int32) : Prop :=
  p.tables.exec = Jvm.exec ∧ c.code = code ∧ meth.sig.returnType = ret ∧ c.maxLocals = 4 ∧ s.vm.findClass R_law = some m.cls ∧ (∀ w ∈ lw_tbl, w.before #[Value.ref b] s = true) ∧ va_X b L xs s s.heap ∧ b < s.heap.size ∧ meth.locks = false ∧ (Jvm.Cond.and given_1 narrow_1).before #[Value.ref b] s = true
-- the script's id
abbrev idA : Nat := 71
/-- the script stands, apart from all cells of the world -/
def SC (X : CT) (N : Nat) (xs : Nat → Int32) : Prop := va_X (X.2.2.2.2.1 idA) N xs X.1.2.2.2.2 X.1.2.2.2.2.heap ∧ X.2.2.2.2.1 idA < X.1.2.2.2.2.heap.size ∧ ¬ Ag X.2.2.2 (X.2.2.2.2.1 idA)
abbrev L0 (i : Nat) : List (Nat × VV) := [(0, vR idA), (1, vR 0), (2, vR 51), (3, vI (i : Int))]
theorem canI : ∀ l : List Int32, CanS (l.map (fun x => vI x.toInt))
  | [] => fun _ h => by cases h
  | x :: l => CanS.push (canI l) (iN_r x)
theorem l_c_0 (r : Int) : l_c r r = 0 := by unfold l_c; rw [if_neg (by omega), if_pos rfl]
section LROWS
variable {X : CT} {cc : ByteArray} {own : String} {n pc : Nat} {L : List (Nat × VV)} {S : List VV} {M : Mem} {N : Nat} {xs : Nat → Int32}
theorem m_sld (C : Cx X cc own n) (A : SC X N xs) {i : Int} (hin : 0 ≤ i ∧ i < (N : Int)) (hd : decode cc pc = .ok (.iaload, 1)) (K : WM X (pc + 1) L (vI (xs i.toNat).toInt :: S) M) : WM X pc L (vI i :: vR idA :: S) M :=
  fun a b c H lo ls hP hS hl => va_sld C.1 C.2.1 A.1 A.2.1 A.2.2 hS (iN_in c.hd hin) hd (by
    have h := K a b (c.tl.tl.push (iN_r _)) H lo ls hP hS hl
    rw [List.map_cons, show tv X.2.2.2 (vI (xs i.toNat).toInt) = .int (xs i.toNat) from congrArg Value.int (Int32.ofInt_toInt _), ← iN_cl c.hd] at h
    exact h)
theorem m_slen (C : Cx X cc own n) (A : SC X N xs) (hN : N ≤ 3072) (hd : decode cc pc = .ok (.arraylength, 1)) (K : WM X (pc + 1) L (vI (N : Int) :: S) M) : WM X pc L (vR idA :: S) M :=
  fun a b c H lo ls hP hS hl => va_slen C.1 C.2.1 A.1 A.2.1 A.2.2 hS hd (by
    have h := K a b (c.tl.push (show r32 (N : Int) by unfold r32; omega)) H lo ls hP hS hl
    rw [List.map_cons, show tv X.2.2.2 (vI (N : Int)) = .int (Int32.ofNat N) from congrArg Value.int (Int32.ofInt_eq_ofNat)] at h
    exact h)
theorem m_sarg {i : Nat} (C : Cx X cc own n) (A : SC X N xs) (hN : N ≤ 3072) {j : Nat} (hij : i + j < N) (d0 : decode cc pc = .ok (.aload_n 0, 1)) (d1 : decode cc (pc + 1) = .ok (.iload_n 3, 1)) (d2 : decode cc (pc + 1 + 1) = .ok (.iconst (j : Int), 1)) (d3 : decode cc (pc + 1 + 1 + 1) = .ok (.iadd, 1)) (d4 : decode cc (pc + 1 + 1 + 1 + 1) = .ok (.iaload, 1)) (K : WM X (pc + 1 + 1 + 1 + 1 + 1) (L0 i) (vI (xs (i + j)).toInt :: S) M) : WM X pc (L0 i) S M := by
  refine m_aload_n C 0 d0 rfl rfl ?_
  refine m_iload_n C 3 d1 rfl rfl ?_
  refine m_iconst C d2 (by unfold r32; omega) ?_
  refine m_iadd C d3 ?_
  rw [w32_id (x := (i : Int) + (j : Int)) (by omega)]
  refine m_sld C A (by omega) d4 ?_
  rw [show ((i : Int) + (j : Int)).toNat = i + j by omega]
  exact K
end LROWS
