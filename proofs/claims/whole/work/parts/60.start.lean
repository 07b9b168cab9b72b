/-! THE START: the tables' words, the constants, the world's addresses -/
theorem ns_on {w : Cond} (h : isNest w = true) : w.onTables = true := by
  cases w <;> first | rfl | cases h
section START
variable {s : State} {b : Nat}
theorem st_nw (hts : ∀ w ∈ lw_tbl, w.before #[Value.ref b] s = true) : NW s := fun w hw => va_Nw.of (ns_on (List.mem_filter.mp hw).2) (hts w (List.mem_append_right _ (List.mem_filter.mp hw).1))
theorem st_cls (hgd : ∀ w ∈ gd_tbl, w.before #[Value.ref b] s = true) : ∃ D : va_G, ∀ (k : Nat) (q : vw_C), mm_cl[k]? = some q → u_Kn s q.1 q.2.1 q.2.2 (D.1 k) (D.2 k) := by
  have h0 : ∀ k : Nat, ∃ d : ClassId × (Nat → Nat), ∀ q : vw_C, mm_cl[k]? = some q → u_Kn s q.1 q.2.1 q.2.2 d.1 d.2 := by
    intro k
    match k with
    | 0 => obtain ⟨c, i, h⟩ := u_known hgd clw_X0 (hgd _ in_X0); exact ⟨(c, i), fun q hq => by cases hq; exact h⟩
    | 1 => obtain ⟨c, i, h⟩ := u_known hgd clw_X2 (hgd _ in_X2); exact ⟨(c, i), fun q hq => by cases hq; exact h⟩
    | 2 => obtain ⟨c, i, h⟩ := u_known hgd clw_X3 (hgd _ in_X3); exact ⟨(c, i), fun q hq => by cases hq; exact h⟩
    | 3 => obtain ⟨c, i, h⟩ := u_known hgd clw_X4 (hgd _ in_X4); exact ⟨(c, i), fun q hq => by cases hq; exact h⟩
    | 4 => obtain ⟨c, i, h⟩ := u_known hgd clw_X5 (hgd _ in_X5); exact ⟨(c, i), fun q hq => by cases hq; exact h⟩
    | 5 => obtain ⟨c, i, h⟩ := u_known hgd clw_X6 (hgd _ in_X6); exact ⟨(c, i), fun q hq => by cases hq; exact h⟩
    | 6 => obtain ⟨c, i, h⟩ := u_known hgd clw_X7 (hgd _ in_X7); exact ⟨(c, i), fun q hq => by cases hq; exact h⟩
    | 7 => obtain ⟨c, i, h⟩ := u_known hgd clw_X8 (hgd _ in_X8); exact ⟨(c, i), fun q hq => by cases hq; exact h⟩
    | 8 => obtain ⟨c, i, h⟩ := u_known hgd clw_X9 (hgd _ in_X9); exact ⟨(c, i), fun q hq => by cases hq; exact h⟩
    | 9 => obtain ⟨c, i, h⟩ := u_known hgd clw_X10 (hgd _ in_X10); exact ⟨(c, i), fun q hq => by cases hq; exact h⟩
    | k + 10 => exact ⟨(0, fun _ => 0), fun q hq => by rw [List.getElem?_eq_none (show 10 ≤ k + 10 by omega)] at hq; cases hq⟩
  obtain ⟨f, hf⟩ := Classical.axiomOfChoice h0
  exact ⟨(fun k => (f k).1, fun k => (f k).2), fun k q hq => hf k q hq⟩
set_option maxRecDepth 100000 in
theorem ao_mem : Cond.arrayOver (.array .int) ∈ lw_tbl := List.mem_of_getElem? (i := 224) rfl
theorem st_tys (hgd : ∀ w ∈ gd_tbl, w.before #[Value.ref b] s = true) (hAO : AOv s) : ∃ cI cZ cO : ClassId, ∀ (k : Nat) (q : ClassId × FieldType), ([(cI, FieldType.int), (cZ, .boolean), (cO, .array .int)] : List (ClassId × FieldType))[k]? = some q → ArrOfT s q.1 q.2 ∧ va_RA s q.1 q.2 := by
  obtain ⟨cI, kI, pI, i1, i2, i3⟩ := Cond.arrayClass_spec (hgd _ ac_int)
  obtain ⟨cZ, kZ, pZ, z1, z2, z3⟩ := Cond.arrayClass_spec (hgd _ ac_boo)
  obtain ⟨pO, cO, kO, o1, o2, o3, o4, o5⟩ := Jvm.Stand.arrayOver_specB hAO
  refine ⟨cI, cZ, cO, fun k q hq => ?_⟩
  match k, hq with
  | 0, hq => cases hq; exact ⟨fun n z => ⟨fun k h => (by cases h), kI, i2, pI, i3⟩, i1⟩
  | 1, hq => cases hq; exact ⟨fun n z => ⟨fun k h => (by cases h), kZ, z2, pZ, z3⟩, z1⟩
  | 2, hq => cases hq; exact ⟨fun n z => ⟨fun k h => (by cases h), kO, o3, pO, o4⟩, o5⟩
  | k + 3, hq => rw [List.getElem?_eq_none (show 3 ≤ k + 3 by omega)] at hq; cases hq
abbrev tUN : Term := .static "FortyStems$Kind" "UNDER" "[I"
abbrev tST : Term := .string "FortyStems$Reader" 99
abbrev tSV : Term := .field tST "java/lang/String" "value" "[B"
set_option maxRecDepth 100000 in
theorem ls_UN : Cond.laysStatic "FortyStems$Kind" "UNDER" "[I" ∈ lw_tbl := List.mem_of_getElem? (i := 971) rfl
set_option maxRecDepth 100000 in
theorem ls_CS : Cond.laysStatic "java/lang/String" "COMPACT_STRINGS" "Z" ∈ lw_tbl := List.mem_of_getElem? (i := 565) rfl
set_option maxRecDepth 100000 in
theorem ls_SF : Cond.laysStatic "jdk/internal/util/Preconditions" "SIOOBE_FORMATTER" "Ljava/util/function/BiFunction;" ∈ lw_tbl := List.mem_of_getElem? (i := 581) rfl
set_option maxRecDepth 100000 in
theorem iz_K : Cond.initialized "FortyStems$Kind" ∈ lw_tbl := List.mem_of_getElem? (i := 126) rfl
set_option maxRecDepth 100000 in
theorem iz_S : Cond.initialized "java/lang/String" ∈ lw_tbl := List.mem_of_getElem? (i := 128) rfl
set_option maxRecDepth 100000 in
theorem iz_P : Cond.initialized "jdk/internal/util/Preconditions" ∈ lw_tbl := List.mem_of_getElem? (i := 130) rfl
set_option maxRecDepth 100000 in
theorem sr_W : Cond.stringRef "FortyStems$Reader" 99 wtx ∈ lw_tbl := List.mem_of_getElem? (i := 555) rfl
abbrev gvF : List Cond := flatC (Jvm.Cond.and given_1 narrow_1)
set_option maxRecDepth 100000 in
theorem gv_el : ∀ j : Nat, j < 64 → Cond.eq (.elem tSV (.int (Int32.ofNat j))) (.int (wbt.getD j 0)) ∈ gvF := by decide +kernel
set_option maxRecDepth 100000 in
theorem gv_un : ∀ j : Nat, j < 6 → Cond.eq (.elem tUN (.int (Int32.ofNat j))) (.int (un_l.getD j 0)) ∈ gvF := by decide +kernel
/-- the constants, apart from all that will be made -/
theorem st_con (hts : ∀ w ∈ lw_tbl, w.before #[Value.ref b] s = true) (hgv : (Jvm.Cond.and given_1 narrow_1).before #[Value.ref b] s = true) {A : Nat → Prop} (hA : ∀ a : Nat, a < s.heap.size → ¬ A a) : ∃ aS aU aB : Nat,
    va_Z "FortyStems$Kind" "UNDER" "[I" (.ref aU) A s s.heap ∧ va_T .int aU 6 (fun j => .int (un_l.getD j 0)) A s s.heap ∧ va_Z "java/lang/String" "COMPACT_STRINGS" "Z" (.int 1) A s s.heap ∧ va_Zq "jdk/internal/util/Preconditions" "SIOOBE_FORMATTER" "Ljava/util/function/BiFunction;" A s s.heap ∧ vk_R "FortyStems$Reader" 99 wtx aS s ∧ vk_S 1 [64] [wbt] (fun _ => aS) (fun _ => aB) A s s.heap := by
  have hf := flat_of_before _ hgv
  obtain ⟨aU, u1, u2⟩ := va_Tof (tm := tUN) (ty := .int) (N := 6) (f := fun j => .int (un_l.getD j 0)) (A := A) (by decide) (hf (Cond.arrayOf tUN .int) (by decide +kernel)) (va_eqt (hf (Cond.eq (.length tUN) (.int 6)) (by decide +kernel))) (fun j hj => va_eqt (hf _ (gv_un j hj))) hA
  have z1 := va_Zof (A := A) (hts _ ls_UN) (hts _ iz_K) u1 hA
  have z2 := va_Zof (A := A) (hts _ ls_CS) (hts _ iz_S) (va_eqi (hf (Cond.eq (.static "java/lang/String" "COMPACT_STRINGS" "Z") (.int 1)) (by decide +kernel))) hA
  have z3 := va_Zqof (A := A) (hts _ ls_SF) (hts _ iz_P) (hf (Cond.isRef (.static "jdk/internal/util/Preconditions" "SIOOBE_FORMATTER" "Ljava/util/function/BiFunction;")) (by decide +kernel)) hA
  have one : ∀ i : Nat, i < 1 → i = 0 := fun i hi => by omega
  obtain ⟨adK, adV, k1, k2⟩ := vk_Sof (N := 1) (tm := fun _ => tST) (len := [64]) (byt := [wbt]) (A := A) (fun i hi => by rw [one i hi]; decide) (fun i hi => hf (Cond.exactly tST "java/lang/String") (by decide +kernel)) (fun i hi => hf (Cond.eq (.field tST "java/lang/String" "coder" "B") (.int 0)) (by decide +kernel))
    (fun i hi => hf (Cond.arrayOf tSV .byte) (by decide +kernel)) (fun i hi => by rw [one i hi]; exact hf (Cond.eq (.length tSV) (.int 64)) (by decide +kernel))
    (fun i hi j hj => by rw [one i hi] at hj ⊢; exact hf _ (gv_el j hj))
    (fun i j hi hj hne => absurd ((one i hi).trans (one j hj).symm) hne) hA
  have e2 := k2 0 (by decide)
  refine ⟨adK 0, aU, adV 0, z1, u2, z2, z3, vk_R.of (hts _ sr_W) (A := #[Value.ref b]) ?_, ⟨fun i hi => by rw [one i hi]; exact k1.1 0 (by decide), fun i j hi hj _ => by rw [one i hi, one j hj]⟩⟩
  exact e2
end START
/-- from the entry, for every script of at most 3072 ints, the law comes to its end with true -/
theorem whole_start {p : Program} {e : Env} {s : State} {m : MethodId} {below : List Frame} {meth : Method} {c : Code} (l : Launch) (hflags : l.flags = flags0) {b L : Nat} {xs : Nat → Int32} (hL : L ≤ 3072) (C0 : lw_At p s m meth c b L xs) : W p l e room_1 s m #[Value.ref b] below meth c s.heap [] 0 0 (lw_Z below #[Value.ref b] s) (entryFrame m ([Value.ref b] : List Value).toArray 4) := by
  obtain ⟨hx, hb, hr, hml, hown, hts, hX, hbl, hlocks, hgv⟩ := C0
  have hgd : ∀ w ∈ gd_tbl, w.before #[Value.ref b] s = true := fun w hw => hts w (List.mem_filter.mp hw).1
  have hAO : AOv s := AOv.of (hts _ ao_mem)
  obtain ⟨D, hD⟩ := st_cls hgd
  obtain ⟨cI, cZ, cO, hty⟩ := st_tys hgd hAO
  obtain ⟨aS, aU, aB, s1, s2, s3, s4, s5, s6⟩ := st_con hts hgv (A := fun q => s.heap.size ≤ q) (fun a ha h => by have : s.heap.size ≤ a := h; omega)
  obtain ⟨ad, had⟩ : ∃ ad : Nat → Nat, ad = fun o => if o < 68 then s.heap.size + o else if o = 68 then aS else if o = 69 then aU else if o = 70 then aB else b := ⟨_, rfl⟩
  have hsq : ∀ o, o < shN → ad o = s.heap.size + o := fun o ho => by rw [had]; exact if_pos ho
  have a68 : ad idS = aS := by rw [had]; rfl
  have a69 : ad idU = aU := by rw [had]; rfl
  have a70 : ad idB = aB := by rw [had]; rfl
  have a71 : ad idA = b := by rw [had]; rfl
  have hAg : ∀ q, Ag (D, ad, (cI, cZ, cO)) q → s.heap.size ≤ q := fun q hq => by
    obtain ⟨i, hi, he⟩ := hq
    rw [he]
    show s.heap.size ≤ ad i
    rw [hsq i hi]; omega
  refine law_go (g := (D, ad, (cI, cZ, cO))) hL hx hb hr hml hown hgd hlocks hsq ⟨⟨hD, hty⟩, st_nw hts, fun i j hi hj he => ?_⟩ ⟨?_, ?_, s3.narrow hAg, s4.narrow hAg, ?_, ?_⟩ hAO a71 hX hbl
  · have he : ad i = ad j := he
    rw [hsq i hi, hsq j hj] at he
    omega
  · show va_Z _ _ _ (.ref (ad idU)) _ _ _
    rw [a69]; exact s1.narrow hAg
  · show va_T _ (ad idU) _ _ _ _ _
    rw [a69]; exact s2.narrow hAg
  · show vk_R _ _ _ (ad idS) _
    rw [a68]; exact s5
  · show vk_S _ _ _ (fun _ => ad idS) (fun _ => ad idB) _ _ _
    rw [a68, a70]; exact s6.narrow hAg
