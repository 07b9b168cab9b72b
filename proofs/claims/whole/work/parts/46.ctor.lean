/-! OBJECTS ARE MADE: the cells lie one behind the other from the heap's old end on -/
def mkw (g : GX) (es : List va_E) : va_W := es.mapIdx (fun i e => (g.2.1 i, e))
theorem mkw_get (g : GX) (es : List va_E) (i : Nat) : (mkw g es)[i]? = (es[i]?).map (fun e => (g.2.1 i, e)) := by
  unfold mkw; rw [List.getElem?_mapIdx]
theorem mkw_at {g : GX} {es : List va_E} {i : Nat} {e : va_E} (h : es[i]? = some e) : (mkw g es)[i]? = some (g.2.1 i, e) := by rw [mkw_get, h]; rfl
theorem mkw_set (g : GX) (es : List va_E) (i : Nat) (e : va_E) : (mkw g es).set i (g.2.1 i, e) = mkw g (es.set i e) := by
  apply List.ext_getElem?
  intro j
  by_cases h : j = i
  · subst h
    rw [mkw_get, List.getElem?_set, List.getElem?_set, if_pos rfl, if_pos rfl]
    have hl : (mkw g es).length = es.length := by unfold mkw; rw [List.length_mapIdx]
    rw [hl]
    by_cases hj : j < es.length
    · rw [if_pos hj, if_pos hj]; rfl
    · rw [if_neg hj, if_neg hj]; rfl
  · rw [List.getElem?_set_ne (Ne.symm h), mkw_get, mkw_get, List.getElem?_set_ne (Ne.symm h)]
theorem mkw_D {g : GX} (h : AdOk g) {es : List va_E} (hl : es.length ≤ shN) : va_D (Ag g) (mkw g es) := by
  have hat : ∀ (i : Nat) (p : Nat × va_E), (mkw g es)[i]? = some p → i < shN ∧ p.1 = g.2.1 i := by
    intro i p hp
    rw [mkw_get] at hp
    cases hs : es[i]? with
    | none => rw [hs] at hp; cases hp
    | some e =>
      rw [hs] at hp
      cases hp
      exact ⟨Nat.lt_of_lt_of_le (List.getElem?_eq_some_iff.mp hs).1 hl, rfl⟩
  refine ⟨fun i j p q hp hq hpq => ?_, fun k q hq => ?_⟩
  · obtain ⟨h1, h2⟩ := hat i p hp
    obtain ⟨h3, h4⟩ := hat j q hq
    exact h i j h1 h3 (by rw [← h2, ← h4, hpq])
  · obtain ⟨h1, h2⟩ := hat k q hq
    exact ⟨k, h1, h2⟩
theorem mkw_push {g : GX} {D : va_G} {cl : List vw_C} {es es2 : List va_E} {H H1 : Heap} (hP : va_P D cl (mkw g es) H) (hk : ∀ x : Nat, x < H.size → H1[x]? = H[x]?) (hnew : ∀ (j : Nat) (e : va_E), es2[j]? = some e → va_at D cl (g.2.1 (es.length + j), e) H1) : va_P D cl (mkw g (es ++ es2)) H1 := by
  intro k q hq
  rw [mkw_get] at hq
  by_cases hl : k < es.length
  · rw [List.getElem?_append_left hl, ← mkw_get] at hq
    have := hP k q hq
    exact this.kept (hk q.1 this.lt)
  · rw [List.getElem?_append_right (by omega)] at hq
    cases he : es2[k - es.length]? with
    | none => rw [he] at hq; cases hq
    | some e =>
      rw [he] at hq
      cases hq
      have := hnew _ e he
      rw [show es.length + (k - es.length) = k by omega] at this
      exact this
theorem wld_mkw (g : GX) (M : Mem) : wld g M = mkw g (shp.mapIdx (fun o e => ent g M o e)) := by
  apply List.ext_getElem?
  intro i
  rw [wld_get, mkw_get, List.getElem?_mapIdx]
  cases shp[i]? <;> rfl
/-- int and boolean arrays of zeros; an array of arrays -/
abbrev eA (g : GX) (N : Nat) : va_E := .inl (g.2.2.1, N, .inl (fun _ => Int32.ofInt 0))
abbrev eZ (g : GX) (N : Nat) : va_E := .inl (g.2.2.2.1, N, .inl (fun _ => Int32.ofInt 0))
abbrev eO (g : GX) (ids : List Nat) : va_E := .inl (g.2.2.2.2, ids.length, .inr (.inr (.inr (.inr (fun j => (ids[j]?).map g.2.1)))))
def CW (X : CT) (sz pc : Nat) (L : List (Nat × Value)) (S : List Value) (es : List va_E) (k n : Nat) : Prop :=
  ∀ (H : Heap) (locs : List Loc) (ls : Array Slot), va_P X.2.2.2.1 mm_cl (mkw X.2.2.2 es) H → H.size = sz + es.length → va_S (Ag X.2.2.2) X.1.2.2.2.2.heap H locs → lv_has ls X.2.2.1.1 L →
    W X.1.1 X.1.2.1 X.1.2.2.1 X.1.2.2.2.1 X.1.2.2.2.2 X.2.1.1 X.2.1.2.1 X.2.1.2.2.1 X.2.1.2.2.2.1 X.2.1.2.2.2.2 H locs k n X.2.2.1.2.2.2 (F0 X.2.1.1 pc ls S)
def Ck (X : CT) (cc : ByteArray) (own : String) (d sz : Nat) : Prop := Cx X cc own d ∧ (∀ o, o < shN → X.2.2.2.2.1 o = sz + o) ∧ AOv X.1.2.2.2.2
def rmC (d mc ms : Nat) : Room := { frames := d, cells := mc, slots := ms, locals := 60 * d }
def PcC (g : GX) (sz : Nat) (as : List Value) (es : List va_E) : Array Value → State → Prop := fun v U => v = as.toArray ∧ va_P g.1 mm_cl (mkw g es) U.heap ∧ U.heap.size = sz + es.length ∧ KK g U ∧ SS g U U.heap ∧ AOv U
def QcC (g : GX) (sz : Nat) (es : List va_E) : Array Value → State → Outcome → State → Prop := fun _ st oc t => (oc = .returned none ∧ va_P g.1 mm_cl (mkw g es) t.heap ∧ t.heap.size = sz + es.length) ∧ va_F (Ag g) st t
def CC (g : GX) (sz : Nat) (md : MD) (d mc ms : Nat) (as : List Value) (es es' : List va_E) : Prop := ∀ l : Launch, Met l md.1 (.code md.1 md.2.1 md.2.2.1 none :: gd_tbl) (rmC d mc ms) (PcC g sz as es) (QcC g sz es') mc ms (Ag g)
theorem PcC.blind (g : GX) (sz : Nat) (as : List Value) (es : List va_E) : FrameBlind (PcC g sz as es) := by
  intro a U fr mk h
  obtain ⟨h1, h2, h3, h4, h5, h6⟩ := h
  exact ⟨h1, h2, h3, KK.same (s := U) (U := U.calling fr mk a) rfl h4, SS.same (s := U) (U := U.calling fr mk a) rfl h5, AOv.moved (s := U) (U := U.calling fr mk a) (Vm.Alike.refl U.vm) h6⟩
set_option maxRecDepth 100000 in
theorem oi_inst : Cond.instanceMethod Lib.objectInit ∈ gd_tbl := gd_mem 139 rfl rfl
set_option maxRecDepth 100000 in
theorem oi_code : Cond.code Lib.objectInit ⟨#[0xb1]⟩ 1 none ∈ gd_tbl := gd_mem 140 rfl rfl
set_option maxRecDepth 100000 in
theorem ac_int : Cond.arrayClass .int ∈ gd_tbl := gd_mem 202 rfl rfl
set_option maxRecDepth 100000 in
theorem ac_boo : Cond.arrayClass .boolean ∈ gd_tbl := gd_mem 1120 rfl rfl
/-- what a call of a constructor asks of the tables -/
def iOk (md : MD) (k : Nat) : Prop := mOk md k ∧ Cond.instanceMethod md.1 ∈ gd_tbl ∧ md.1.name = "<init>" ∧ md.2.2.2 = none
section KROWS
variable {X : CT} {cc : ByteArray} {own : String} {d sz pc : Nat} {L : List (Nat × Value)} {S : List Value} {es es' : List va_E} {k n : Nat}
theorem k_aload (C : Ck X cc own d sz) {j : Fin 4} {i a : Nat} (q : Nat) (hd : decode cc pc = .ok (.aload_n j, 1)) (hi : (j : Nat) = i) (hk : L[q]? = some (i, .ref a)) (K : CW X sz (pc + 1) L (.ref a :: S) es k n) : CW X sz pc L S es k n :=
  fun H lo ls hP hz hS hl => lv_aload_n C.1.1 C.1.2.1 hd hi (lv_at hl q hk) (K H lo ls hP hz hS hl)
theorem k_astore (C : Ck X cc own d sz) {j : Fin 4} {i a : Nat} {L' : List (Nat × Value)} (hd : decode cc pc = .ok (.astore_n j, 1)) (hi : (j : Nat) = i) (hn : i < X.2.2.1.1) (hL : (i, Value.ref a) :: L.filter (fun q => !(q.1 == i) && !(q.1 + 1 == i && q.2.category == 2)) = L') (K : CW X sz (pc + 1) L' S es k n) : CW X sz pc L (.ref a :: S) es k n :=
  fun H lo ls hP hz hS hl => lv_astore_n C.1.1 C.1.2.1 hd hi hl hn hL (fun ls' hl' => K H lo ls' hP hz hS hl')
theorem k_iconst (C : Ck X cc own d sz) {v : Int} (hd : decode cc pc = .ok (.iconst v, 1)) (K : CW X sz (pc + 1) L (.int (Int32.ofInt v) :: S) es k n) : CW X sz pc L S es k n :=
  fun H lo ls hP hz hS hl => lv_iconst C.1.1 C.1.2.1 hd rfl (K H lo ls hP hz hS hl)
theorem k_bipush (C : Ck X cc own d sz) {v : Int} (hd : decode cc pc = .ok (.bipush v, 2)) (he : (Int8.ofInt v).toInt32 = Int32.ofInt v) (K : CW X sz (pc + 2) L (.int (Int32.ofInt v) :: S) es k n) : CW X sz pc L S es k n :=
  fun H lo ls hP hz hS hl => lv_bipush C.1.1 C.1.2.1 hd he (K H lo ls hP hz hS hl)
theorem k_sipush (C : Ck X cc own d sz) {v : Int} (hd : decode cc pc = .ok (.sipush v, 3)) (he : (Int16.ofInt v).toInt32 = Int32.ofInt v) (K : CW X sz (pc + 3) L (.int (Int32.ofInt v) :: S) es k n) : CW X sz pc L S es k n :=
  fun H lo ls hP hz hS hl => lv_sipush C.1.1 C.1.2.1 hd he (K H lo ls hP hz hS hl)
theorem k_dup (C : Ck X cc own d sz) {a : Nat} (hd : decode cc pc = .ok (.dup, 1)) (K : CW X sz (pc + 1) L (.ref a :: .ref a :: S) es k n) : CW X sz pc L (.ref a :: S) es k n :=
  fun H lo ls hP hz hS hl => lv_dup C.1.1 C.1.2.1 hd rfl (K H lo ls hP hz hS hl)
theorem k_obj (C : Ck X cc own d sz) {idx a : Nat} (hlk : Cond.methodLink own idx Lib.objectInit ∈ gd_tbl) (hd : decode cc pc = .ok (.invokespecial idx, 3)) (K : CW X sz (pc + 3) L [] es k n) : CW X sz pc L [.ref a] es k n :=
  fun H lo ls hP hz hS hl => W.objInit C.1.1 C.1.2.1 C.1.2.2.2.1 (C.1.2.2.2.2.1 _ hlk) (C.1.2.2.2.2.1 _ oi_inst) (C.1.2.2.2.2.1 _ oi_code) rfl (hl.1.trans C.1.2.2.1.symm) rfl hd (by have := C.1.2.2.2.2.2.2.2.1; omega) (by have := C.1.2.2.2.2.2.2.2.2.1; show 2 * 0 + 0 + 12 ≤ _; omega) (K H lo ls hP hz hS hl)
theorem k_get (C : Ck X cc own d sz) {q fi ci N index : Nat} {CN : String} {T : u_T} {ty : Nat → FieldType} {fs : List Value} {v : Value} (hc : clOk ci CN T N ty) (hq : es[q]? = some (.inr (ci, fs))) (hk : fi < N) (hlk : Cond.fieldLink own index (T fi).1 (T fi).2.1 (T fi).2.2.1 ∈ gd_tbl) (hv : fs[fi]? = some v) (hd : decode cc pc = .ok (.getfield index, 3)) (K : CW X sz (pc + 3) L (v :: S) es k n) : CW X sz pc L (.ref (X.2.2.2.2.1 q) :: S) es k n :=
  fun H lo ls hP hz hS hl => va_get (ref := (T fi).1) C.1.1 C.1.2.1 C.1.2.2.2.2.1 hc.2.1 C.1.2.2.2.1 C.1.2.2.2.2.2.1.1 hP q (mkw_at hq) hc.1 fi hk (C.1.2.2.2.2.1 _ hlk) (fun _ h => h) hv hd (K H lo ls hP hz hS hl)
theorem k_put (C : Ck X cc own d sz) {q fi ci N index : Nat} {CN : String} {T : u_T} {ty : Nat → FieldType} {fs : List Value} {v : Value} (hc : clOk ci CN T N ty) (hq : es[q]? = some (.inr (ci, fs))) (hk : fi < N) (hfin : (T fi).2.2.2 = false) (hlk : Cond.fieldLink own index (T fi).1 (T fi).2.1 (T fi).2.2.1 ∈ gd_tbl) (hn : narrow (ty fi) v = v) (hfit : fits (ty fi) v = true) (hlf : fi < fs.length) (hlen : es.length ≤ shN) (hes : es.set q (.inr (ci, fs.set fi v)) = es') (hd : decode cc pc = .ok (.putfield index, 3)) (K : CW X sz (pc + 3) L S es' k n) : CW X sz pc L (v :: .ref (X.2.2.2.2.1 q) :: S) es k n :=
  fun H lo ls hP hz hS hl => va_put (ref := (T fi).1) C.1.1 C.1.2.1 C.1.2.2.2.2.1 hc.2.1 ty hc.2.2.1 hc.2.2.2 C.1.2.2.2.1 C.1.2.2.2.2.2.1.1 hP (mkw_D C.1.2.2.2.2.2.1.2.2 hlen) hS q (mkw_at hq) hc.1 fi hk (C.1.2.2.2.2.1 _ hlk) (fun _ h => h) hfin (hc.2.2.1 fi hk) hn hfit hlf hd (fun H1 l1 hP1 _ hS1 => by
    intro T hT Xs
    have hz1 : H1.size = sz + es'.length := by
      sorry
    exact K H1 l1 ls (by rw [mkw_set, hes] at hP1; exact hP1) hz1 hS1 hl T hT Xs)
end KROWS
