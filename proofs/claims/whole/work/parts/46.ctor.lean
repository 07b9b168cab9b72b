/-! OBJECTS ARE MADE: the cells lie one behind the other from the heap's old end on -/
def mkw (g : GX) (es : List va_E) : va_W := es.mapIdx (fun i e => (g.2.1 i, e))
theorem mkw_get (g : GX) (es : List va_E) (i : Nat) : (mkw g es)[i]? = (es[i]?).map (fun e => (g.2.1 i, e)) := by
  unfold mkw; rw [List.getElem?_mapIdx]
theorem mkw_at {g : GX} {es : List va_E} {i : Nat} {e : va_E} (h : es[i]? = some e) : (mkw g es)[i]? = some (g.2.1 i, e) := by rw [mkw_get, h]; rfl
theorem mkw_set (g : GX) (es : List va_E) (i : Nat) (e : va_E) : (mkw g es).set i (g.2.1 i, e) = mkw g (es.set i e) := by
  apply List.ext_getElem?
  intro j
  by_cases h : j = i
  · subst h
    rw [mkw_get, List.getElem?_set, List.getElem?_set, if_pos rfl, if_pos rfl]
    have hl : (mkw g es).length = es.length := by unfold mkw; rw [List.length_mapIdx]
    rw [hl]
    by_cases hj : j < es.length
    · rw [if_pos hj, if_pos hj]; rfl
    · rw [if_neg hj, if_neg hj]; rfl
  · rw [List.getElem?_set_ne (Ne.symm h), mkw_get, mkw_get, List.getElem?_set_ne (Ne.symm h)]
theorem mkw_D {g : GX} (h : AdOk g) {es : List va_E} (hl : es.length ≤ shN) : va_D (Ag g) (mkw g es) := by
  have hat : ∀ (i : Nat) (p : Nat × va_E), (mkw g es)[i]? = some p → i < shN ∧ p.1 = g.2.1 i := by
    intro i p hp
    rw [mkw_get] at hp
    cases hs : es[i]? with
    | none => rw [hs] at hp; cases hp
    | some e =>
      rw [hs] at hp
      cases hp
      exact ⟨Nat.lt_of_lt_of_le (List.getElem?_eq_some_iff.mp hs).1 hl, rfl⟩
  refine ⟨fun i j p q hp hq hpq => ?_, fun k q hq => ?_⟩
  · obtain ⟨h1, h2⟩ := hat i p hp
    obtain ⟨h3, h4⟩ := hat j q hq
    exact h i j h1 h3 (by rw [← h2, ← h4, hpq])
  · obtain ⟨h1, h2⟩ := hat k q hq
    exact ⟨k, h1, h2⟩
theorem mkw_push {g : GX} {D : va_G} {cl : List vw_C} {es es2 : List va_E} {H H1 : Heap} (hP : va_P D cl (mkw g es) H) (hk : ∀ x : Nat, x < H.size → H1[x]? = H[x]?) (hnew : ∀ (j : Nat) (e : va_E), es2[j]? = some e → va_at D cl (g.2.1 (es.length + j), e) H1) : va_P D cl (mkw g (es ++ es2)) H1 := by
  intro k q hq
  rw [mkw_get] at hq
  by_cases hl : k < es.length
  · rw [List.getElem?_append_left hl, ← mkw_get] at hq
    have := hP k q hq
    exact this.kept (hk q.1 this.lt)
  · rw [List.getElem?_append_right (by omega)] at hq
    cases he : es2[k - es.length]? with
    | none => rw [he] at hq; cases hq
    | some e =>
      rw [he] at hq
      cases hq
      have := hnew _ e he
      rw [show es.length + (k - es.length) = k by omega] at this
      exact this
theorem wld_mkw (g : GX) (M : Mem) : wld g M = mkw g (shp.mapIdx (fun o e => ent g M o e)) := by
  apply List.ext_getElem?
  intro i
  rw [wld_get, mkw_get, List.getElem?_mapIdx]
  cases shp[i]? <;> rfl
/-- int and boolean arrays of zeros; an array of arrays -/
abbrev eA (g : GX) (N : Nat) : va_E := .inl (g.2.2.1, N, .inl (fun _ => Int32.ofInt 0))
abbrev eZ (g : GX) (N : Nat) : va_E := .inl (g.2.2.2.1, N, .inl (fun _ => Int32.ofInt 0))
abbrev eO (g : GX) (ids : List Nat) : va_E := .inl (g.2.2.2.2, ids.length, .inr (.inr (.inr (.inr (fun j => (ids[j]?).map g.2.1)))))
def CW (X : CT) (sz pc : Nat) (L : List (Nat × Value)) (S : List Value) (es : List va_E) (k n : Nat) : Prop :=
  ∀ (H : Heap) (locs : List Loc) (ls : Array Slot), va_P X.2.2.2.1 mm_cl (mkw X.2.2.2 es) H → H.size = sz + es.length → va_S (Ag X.2.2.2) X.1.2.2.2.2.heap H locs → lv_has ls X.2.2.1.1 L →
    W X.1.1 X.1.2.1 X.1.2.2.1 X.1.2.2.2.1 X.1.2.2.2.2 X.2.1.1 X.2.1.2.1 X.2.1.2.2.1 X.2.1.2.2.2.1 X.2.1.2.2.2.2 H locs k n X.2.2.1.2.2.2 (F0 X.2.1.1 pc ls S)
def Ck (X : CT) (cc : ByteArray) (own : String) (d sz : Nat) : Prop := Cx X cc own d ∧ (∀ o, o < shN → X.2.2.2.2.1 o = sz + o) ∧ AOv X.1.2.2.2.2
def rmC (d mc ms : Nat) : Room := { frames := d, cells := mc, slots := ms, locals := 60 * d }
def PcC (g : GX) (sz : Nat) (as : List Value) (es : List va_E) : Array Value → State → Prop := fun v U => v = as.toArray ∧ va_P g.1 mm_cl (mkw g es) U.heap ∧ U.heap.size = sz + es.length ∧ KK g U ∧ SS g U U.heap ∧ AOv U
def QcC (g : GX) (sz : Nat) (es : List va_E) : Array Value → State → Outcome → State → Prop := fun _ st oc t => (oc = .returned none ∧ va_P g.1 mm_cl (mkw g es) t.heap ∧ t.heap.size = sz + es.length) ∧ va_F (Ag g) st t
def CC (g : GX) (sz : Nat) (md : MD) (d mc ms : Nat) (as : List Value) (es es' : List va_E) : Prop := ∀ l : Launch, Met l md.1 (.code md.1 md.2.1 md.2.2.1 none :: gd_tbl) (rmC d mc ms) (PcC g sz as es) (QcC g sz es') mc ms (Ag g)
theorem PcC.blind (g : GX) (sz : Nat) (as : List Value) (es : List va_E) : FrameBlind (PcC g sz as es) := by
  intro a U fr mk h
  obtain ⟨h1, h2, h3, h4, h5, h6⟩ := h
  exact ⟨h1, h2, h3, KK.same (s := U) (U := U.calling fr mk a) rfl h4, SS.same (s := U) (U := U.calling fr mk a) rfl h5, AOv.moved (s := U) (U := U.calling fr mk a) (Vm.Alike.refl U.vm) h6⟩
set_option maxRecDepth 100000 in
theorem oi_inst : Cond.instanceMethod Lib.objectInit ∈ gd_tbl := gd_mem 139 rfl rfl
set_option maxRecDepth 100000 in
theorem oi_code : Cond.code Lib.objectInit ⟨#[0xb1]⟩ 1 none ∈ gd_tbl := gd_mem 140 rfl rfl
set_option maxRecDepth 100000 in
theorem ac_int : Cond.arrayClass .int ∈ gd_tbl := gd_mem 202 rfl rfl
set_option maxRecDepth 100000 in
theorem ac_boo : Cond.arrayClass .boolean ∈ gd_tbl := gd_mem 1120 rfl rfl
/-- what a call of a constructor asks of the tables -/
def iOk (md : MD) (k : Nat) : Prop := mOk md k ∧ Cond.instanceMethod md.1 ∈ gd_tbl ∧ md.1.name = "<init>" ∧ md.2.2.2 = none
section KROWS
variable {X : CT} {cc : ByteArray} {own : String} {d sz pc : Nat} {L : List (Nat × Value)} {S : List Value} {es es' : List va_E} {k n : Nat}
theorem k_aload (C : Ck X cc own d sz) {j : Fin 4} {i a : Nat} (q : Nat) (hd : decode cc pc = .ok (.aload_n j, 1)) (hi : (j : Nat) = i) (hk : L[q]? = some (i, .ref a)) (K : CW X sz (pc + 1) L (.ref a :: S) es k n) : CW X sz pc L S es k n :=
  fun H lo ls hP hz hS hl => lv_aload_n C.1.1 C.1.2.1 hd hi (lv_at hl q hk) (K H lo ls hP hz hS hl)
theorem k_astore (C : Ck X cc own d sz) {j : Fin 4} {i a : Nat} {L' : List (Nat × Value)} (hd : decode cc pc = .ok (.astore_n j, 1)) (hi : (j : Nat) = i) (hn : i < X.2.2.1.1) (hL : (i, Value.ref a) :: L.filter (fun q => !(q.1 == i) && !(q.1 + 1 == i && q.2.category == 2)) = L') (K : CW X sz (pc + 1) L' S es k n) : CW X sz pc L (.ref a :: S) es k n :=
  fun H lo ls hP hz hS hl => lv_astore_n C.1.1 C.1.2.1 hd hi hl hn hL (fun ls' hl' => K H lo ls' hP hz hS hl')
theorem k_iconst (C : Ck X cc own d sz) {v : Int} (hd : decode cc pc = .ok (.iconst v, 1)) (K : CW X sz (pc + 1) L (.int (Int32.ofInt v) :: S) es k n) : CW X sz pc L S es k n :=
  fun H lo ls hP hz hS hl => lv_iconst C.1.1 C.1.2.1 hd rfl (K H lo ls hP hz hS hl)
theorem k_bipush (C : Ck X cc own d sz) {v : Int} (hd : decode cc pc = .ok (.bipush v, 2)) (he : (Int8.ofInt v).toInt32 = Int32.ofInt v) (K : CW X sz (pc + 2) L (.int (Int32.ofInt v) :: S) es k n) : CW X sz pc L S es k n :=
  fun H lo ls hP hz hS hl => lv_bipush C.1.1 C.1.2.1 hd he (K H lo ls hP hz hS hl)
theorem k_sipush (C : Ck X cc own d sz) {v : Int} (hd : decode cc pc = .ok (.sipush v, 3)) (he : (Int16.ofInt v).toInt32 = Int32.ofInt v) (K : CW X sz (pc + 3) L (.int (Int32.ofInt v) :: S) es k n) : CW X sz pc L S es k n :=
  fun H lo ls hP hz hS hl => lv_sipush C.1.1 C.1.2.1 hd he (K H lo ls hP hz hS hl)
theorem k_dup (C : Ck X cc own d sz) {a : Nat} (hd : decode cc pc = .ok (.dup, 1)) (K : CW X sz (pc + 1) L (.ref a :: .ref a :: S) es k n) : CW X sz pc L (.ref a :: S) es k n :=
  fun H lo ls hP hz hS hl => lv_dup C.1.1 C.1.2.1 hd rfl (K H lo ls hP hz hS hl)
theorem k_obj (C : Ck X cc own d sz) {idx a : Nat} (hlk : Cond.methodLink own idx Lib.objectInit ∈ gd_tbl) (hd : decode cc pc = .ok (.invokespecial idx, 3)) (K : CW X sz (pc + 3) L [] es k n) : CW X sz pc L [.ref a] es k n :=
  fun H lo ls hP hz hS hl => W.objInit C.1.1 C.1.2.1 C.1.2.2.2.1 (C.1.2.2.2.2.1 _ hlk) (C.1.2.2.2.2.1 _ oi_inst) (C.1.2.2.2.2.1 _ oi_code) rfl (hl.1.trans C.1.2.2.1.symm) rfl hd (by have := C.1.2.2.2.2.2.2.2.1; omega) (by have := C.1.2.2.2.2.2.2.2.2.1; show 2 * 0 + 0 + 12 ≤ _; omega) (K H lo ls hP hz hS hl)
theorem k_get (C : Ck X cc own d sz) {q fi ci N index : Nat} {CN : String} {T : u_T} {ty : Nat → FieldType} {fs : List Value} {v : Value} (hc : clOk ci CN T N ty) (hq : es[q]? = some (.inr (ci, fs))) (hk : fi < N) (hlk : Cond.fieldLink own index (T fi).1 (T fi).2.1 (T fi).2.2.1 ∈ gd_tbl) (hv : fs[fi]? = some v) (hd : decode cc pc = .ok (.getfield index, 3)) (K : CW X sz (pc + 3) L (v :: S) es k n) : CW X sz pc L (.ref (X.2.2.2.2.1 q) :: S) es k n :=
  fun H lo ls hP hz hS hl => va_get (ref := (T fi).1) C.1.1 C.1.2.1 C.1.2.2.2.2.1 hc.2.1 C.1.2.2.2.1 C.1.2.2.2.2.2.1.1 hP q (mkw_at hq) hc.1 fi hk (C.1.2.2.2.2.1 _ hlk) (fun _ h => h) hv hd (K H lo ls hP hz hS hl)
theorem k_put (C : Ck X cc own d sz) {q fi ci N index : Nat} {CN : String} {T : u_T} {ty : Nat → FieldType} {fs : List Value} {v : Value} (hc : clOk ci CN T N ty) (hq : es[q]? = some (.inr (ci, fs))) (hk : fi < N) (hfin : (T fi).2.2.2 = false) (hlk : Cond.fieldLink own index (T fi).1 (T fi).2.1 (T fi).2.2.1 ∈ gd_tbl) (hn : narrow (ty fi) v = v) (hfit : fits (ty fi) v = true) (hlf : fi < fs.length) (hlen : es.length ≤ shN) (hes : es.set q (.inr (ci, fs.set fi v)) = es') (hd : decode cc pc = .ok (.putfield index, 3)) (K : CW X sz (pc + 3) L S es' k n) : CW X sz pc L (v :: .ref (X.2.2.2.2.1 q) :: S) es k n := by
  intro H lo ls hP hz hS0 hl
  have hts := C.1.2.2.2.2.1
  have hK := C.1.2.2.2.2.2.1.1
  have hD := mkw_D C.1.2.2.2.2.2.1.2.2 hlen
  have he := mkw_at (g := X.2.2.2) hq
  have hap := va_apart (own := own) hts hc.2.1 ty hc.2.2.1 hc.2.2.2 hK hc.1
  obtain ⟨r, h1, cell, q1, q2, q3, q4⟩ := hP q _ he
  have hr : r = (CN, T, N) := Option.some.inj (h1.symm.trans hc.1)
  subst hr
  obtain ⟨hSl, hfc, kC, hkC, hkind⟩ := hK.1 ci _ hc.1
  obtain ⟨cf, kf, fi', f, hi, hsl⟩ := hSl fi hk
  have hlay := hts _ (hc.2.1 _ (u_in_lay hk))
  unfold u_lay at hlay
  rw [if_neg (by rw [hfin]; decide)] at hlay
  have hst := (u_facts hfc hkC (u_lays hts hc.2.1 hk) hi).1
  have h6 := u_store hfc hkC hkind hlay hi (hc.2.2.1 fi hk) hn hfit
  refine W.putK C.1.1 C.1.2.1 (f := f) ⟨C.1.2.2.2.1, hts _ hlk, ⟨_, _, _, hi⟩, hst⟩ (by rw [q2]; exact h6) q1 q3 (by rw [hsl]; exact k2_hasslot (q4 fi hk)) rfl rfl hd fun H' e1 e2 e3 => ?_
  rw [hsl] at e1 ⊢
  have hP1 := hP.set (e := .inr (ci, fs.set fi v)) hD he ⟨_, hc.1, t_OB.to (V := updV (vp_V fs) fi v) ⟨_, e1, q2, q3, t_set q4 hap hk v⟩ (fun j _ => vp_updV_set hlf v j)⟩ e3
  rw [mkw_set, hes] at hP1
  exact K H' _ ls hP1 (by rw [e2, hz, ← hes, List.length_set]) (hS0.put e2 e3 (hD.2 q _ he)) hl
theorem k_putF (C : Ck X cc own d sz) (hin : X.2.1.2.2.2.1.name = "<init>") {q fi ci N index : Nat} {CN : String} {T : u_T} {ty : Nat → FieldType} {fs : List Value} {v : Value} (hc : clOk ci CN T N ty) (hq : es[q]? = some (.inr (ci, fs))) (hk : fi < N) (hfin : (T fi).2.2.2 = true) (hdecl : (T fi).1 = own) (hlk : Cond.fieldLink own index (T fi).1 (T fi).2.1 (T fi).2.2.1 ∈ gd_tbl) (hn : narrow (ty fi) v = v) (hfit : fits (ty fi) v = true) (hlf : fi < fs.length) (hlen : es.length ≤ shN) (hes : es.set q (.inr (ci, fs.set fi v)) = es') (hd : decode cc pc = .ok (.putfield index, 3)) (K : CW X sz (pc + 3) L S es' k n) : CW X sz pc L (v :: .ref (X.2.2.2.2.1 q) :: S) es k n := by
  intro H lo ls hP hz hS0 hl
  have hts := C.1.2.2.2.2.1
  have hown := C.1.2.2.2.1
  have hK := C.1.2.2.2.2.2.1.1
  have hD := mkw_D C.1.2.2.2.2.2.1.2.2 hlen
  have he := mkw_at (g := X.2.2.2) hq
  have hap := va_apart (own := own) hts hc.2.1 ty hc.2.2.1 hc.2.2.2 hK hc.1
  obtain ⟨r, h1, cell, q1, q2, q3, q4⟩ := hP q _ he
  have hr : r = (CN, T, N) := Option.some.inj (h1.symm.trans hc.1)
  subst hr
  obtain ⟨hSl, hfc, kC, hkC, hkind⟩ := hK.1 ci _ hc.1
  obtain ⟨cf, kf, fi', f, hi, hsl⟩ := hSl fi hk
  have hlay := hts _ (hc.2.1 _ (u_in_lay hk))
  unfold u_lay at hlay
  rw [if_pos hfin] at hlay
  have hst := (u_facts hfc hkC (u_lays hts hc.2.1 hk) hi).1
  have hcf : X.2.1.1.cls = cf := by
    obtain ⟨_, _, c', _, _, _, -, -, hf', -, -, -, hown2, -⟩ := Cond.laysFinal_spec hlay
    have e1 : c' = cf := by have := hi.symm.trans hf'; simp at this; exact this.1.symm
    rw [hdecl] at hown2
    rw [← e1]; exact Option.some.inj (hown.symm.trans hown2)
  have h6 := u_fits hfc hkC hkind (Or.inr hlay) hi (hc.2.2.1 fi hk) hn hfit
  refine W.putFinK C.1.1 C.1.2.1 hown (hts _ hlk) hi hst hcf hin (by rw [q2]; exact h6) q1 q3 (by rw [hsl]; exact k2_hasslot (q4 fi hk)) rfl rfl hd fun H' e1 e2 e3 => ?_
  rw [hsl] at e1 ⊢
  have hP1 := hP.set (e := .inr (ci, fs.set fi v)) hD he ⟨_, hc.1, t_OB.to (V := updV (vp_V fs) fi v) ⟨_, e1, q2, q3, t_set q4 hap hk v⟩ (fun j _ => vp_updV_set hlf v j)⟩ e3
  rw [mkw_set, hes] at hP1
  exact K H' _ ls hP1 (by rw [e2, hz, ← hes, List.length_set]) (hS0.put e2 e3 (hD.2 q _ he)) hl
theorem k_iast (C : Ck X cc own d sz) {q N : Nat} {f : Nat → Int32} {i x : Int} (hq : es[q]? = some (.inl (X.2.2.2.2.2.1, N, .inl f))) (hi : r32 i) (hin : 0 ≤ i ∧ i < (N : Int)) (hlen : es.length ≤ shN) (hes : es.set q (.inl (X.2.2.2.2.2.1, N, .inl (upd f i.toNat (Int32.ofInt x)))) = es') (hd : decode cc pc = .ok (.iastore, 1)) (K : CW X sz (pc + 1) L S es' k n) : CW X sz pc L (.int (Int32.ofInt x) :: .int (Int32.ofInt i) :: .ref (X.2.2.2.2.1 q) :: S) es k n := by
  intro H lo ls hP hz hS0 hl
  have hD := mkw_D C.1.2.2.2.2.2.1.2.2 hlen
  have he := mkw_at (g := X.2.2.2) hq
  have hin' : vp_in (Int32.ofInt i) N := iN_in hi hin
  refine W.iast C.1.1 C.1.2.1 (hP q _ he) ((C.1.2.2.2.2.2.1.1.2 0 _ rfl).1 N (fun j => .int (f j))) (fun q => by cases q) (by show ¬ (_ < 0 ∨ (arrV _ _ _).slots.size ≤ _); rw [arrV_size]; exact hin') rfl rfl hd fun H1 e z oq => ?_
  have hP1 := hP.set (e := .inl (X.2.2.2.2.2.1, N, .inl (upd f i.toNat (Int32.ofInt x)))) hD he (by
    rw [iN_cl hi] at e
    show H1[_]? = some (vp_cell _ _)
    rw [e]
    rw [vp_cell_i, vp_cell_i, arrV_store]
    congr 2
    funext q
    unfold updV upd
    split <;> rfl) oq
  rw [mkw_set, hes] at hP1
  exact K H1 _ ls hP1 (by rw [z, hz, ← hes, List.length_set]) (hS0.put z oq (hD.2 q _ he)) hl
theorem k_aald (C : Ck X cc own d sz) {q p : Nat} {ids : List Nat} {i : Int} (hq : es[q]? = some (eO X.2.2.2 ids)) (hi : r32 i) (hin : 0 ≤ i ∧ i < (ids.length : Int)) (hp : ids[i.toNat]? = some p) (hd : decode cc pc = .ok (.aaload, 1)) (K : CW X sz (pc + 1) L (.ref (X.2.2.2.2.1 p) :: S) es k n) : CW X sz pc L (.int (Int32.ofInt i) :: .ref (X.2.2.2.2.1 q) :: S) es k n := by
  intro H lo ls hP hz hS hl
  have hin' : vp_in (Int32.ofInt i) ids.length := iN_in hi hin
  have hlt : (Int32.ofInt i).toNatClampNeg < ids.length := Nat.not_le.mp fun q => hin' (Or.inr q)
  refine W.aald (v := .ref (X.2.2.2.2.1 p)) (ty := .array .int) C.1.1 C.1.2.1 (hP q _ (mkw_at hq)) ((C.1.2.2.2.2.2.1.1.2 2 _ rfl).1 ids.length (fun j => va_rf ((ids[j]?).map X.2.2.2.2.1))) rfl (fun q => by cases q) (by show ¬ (_ ∨ (arrV _ _ _).slots.size ≤ _); rw [arrV_size]; exact hin') ?_ rfl rfl hd (K H lo ls hP hz hS hl)
  show (arrV _ _ _).slots[_]? = _
  rw [arrV_read _ _ hlt, iN_cl hi]
  show some (va_rf ((ids[i.toNat]?).map X.2.2.2.2.1)) = _
  rw [hp]
  rfl
theorem Ck.end (C : Ck X cc own d sz) {H : Heap} (hz : H.size = sz + es.length) (hlen : es.length < shN) : H.size = X.2.2.2.2.1 es.length := by rw [C.2.1 _ hlen, hz]
theorem va_S.grow {A : Nat → Prop} {H0 H H1 : Heap} {lo : List Loc} (hS : va_S A H0 H lo) (hz : H.size ≤ H1.size) (hk : ∀ x : Nat, x < H.size → H1[x]? = H[x]?) : va_S A H0 H1 lo := ⟨Nat.le_trans hS.1 hz, fun x h1 h2 => (hk x (Nat.lt_of_lt_of_le h1 hS.1)).trans (hS.2.1 x h1 h2), hS.2.2⟩
theorem k_newa (C : Ck X cc own d sz) {N : Nat} {v : Int} (hv : v = (N : Int)) (hN : N ≤ 1000) (hlen : es.length < shN) (hk1 : k + 1 ≤ X.2.2.1.2.1) (hn1 : n + N ≤ X.2.2.1.2.2.1) (hd : decode cc pc = .ok (.newarray .int, 2)) (K : CW X sz (pc + 2) L (.ref (X.2.2.2.2.1 es.length) :: S) (es ++ [eA X.2.2.2 N]) (k + 1) (n + N)) : CW X sz pc L (.int (Int32.ofInt v) :: S) es k n := by
  intro H lo ls hP hz hS hl
  subst hv
  have h32 : r32 (N : Int) := by unfold r32; omega
  refine va_newaK (atype := .int) C.1.1 C.1.2.1 (C.1.2.2.2.2.1 _ ac_int) rfl hd rfl (fun e => absurd ((iN_lt h32 r32_0).mp e) (by omega)) (N := N) (by rw [iN_cl h32]; rfl) (by show N * 4 ≤ _; omega) (Nat.le_trans hk1 C.1.2.2.2.2.2.2.2.2.2.1) (Nat.le_trans hn1 C.1.2.2.2.2.2.2.2.2.2.2) (C.end hz hlen) (fun H1 cA e1 z1 o1 hAr hNm => ?_)
  have hcA : cA = X.2.2.2.2.2.1 := Option.some.inj (hNm.symm.trans (C.1.2.2.2.2.2.1.1.2 0 _ rfl).2)
  subst hcA
  have he := C.end hz hlen
  have hk : ∀ x : Nat, x < H.size → H1[x]? = H[x]? := fun x hx => o1 x (by rw [← he]; exact hx)
  refine K H1 lo ls (mkw_push hP hk (fun j e hj => ?_)) (by rw [z1, ← he, hz, List.length_append]; rfl) (hS.grow (by rw [z1, ← he]; omega) hk) hl
  have hj0 : j = 0 := by have := (List.getElem?_eq_some_iff.mp hj).1; simp at this; exact this
  subst hj0
  cases hj
  exact e1
theorem k_newz (C : Ck X cc own d sz) {N : Nat} {v : Int} (hv : v = (N : Int)) (hN : N ≤ 1000) (hlen : es.length < shN) (hk1 : k + 1 ≤ X.2.2.1.2.1) (hn1 : n + N ≤ X.2.2.1.2.2.1) (hd : decode cc pc = .ok (.newarray .boolean, 2)) (K : CW X sz (pc + 2) L (.ref (X.2.2.2.2.1 es.length) :: S) (es ++ [eZ X.2.2.2 N]) (k + 1) (n + N)) : CW X sz pc L (.int (Int32.ofInt v) :: S) es k n := by
  intro H lo ls hP hz hS hl
  subst hv
  have h32 : r32 (N : Int) := by unfold r32; omega
  refine va_newaK (atype := .boolean) C.1.1 C.1.2.1 (C.1.2.2.2.2.1 _ ac_boo) rfl hd rfl (fun e => absurd ((iN_lt h32 r32_0).mp e) (by omega)) (N := N) (by rw [iN_cl h32]; rfl) (by show N * 1 ≤ _; omega) (Nat.le_trans hk1 C.1.2.2.2.2.2.2.2.2.2.1) (Nat.le_trans hn1 C.1.2.2.2.2.2.2.2.2.2.2) (C.end hz hlen) (fun H1 cA e1 z1 o1 hAr hNm => ?_)
  have hcA : cA = X.2.2.2.2.2.2.1 := Option.some.inj (hNm.symm.trans (C.1.2.2.2.2.2.1.1.2 1 _ rfl).2)
  subst hcA
  have he := C.end hz hlen
  have hk : ∀ x : Nat, x < H.size → H1[x]? = H[x]? := fun x hx => o1 x (by rw [← he]; exact hx)
  refine K H1 lo ls (mkw_push hP hk (fun j e hj => ?_)) (by rw [z1, ← he, hz, List.length_append]; rfl) (hS.grow (by rw [z1, ← he]; omega) hk) hl
  have hj0 : j = 0 := by have := (List.getElem?_eq_some_iff.mp hj).1; simp at this; exact this
  subst hj0
  cases hj
  exact e1
theorem k_mna (C : Ck X cc own d sz) {index N J : Nat} {v w : Int} {ids : List Nat} (hcl : Cond.classLink own index "[[I" ∈ gd_tbl) (hv : v = (N : Int)) (hw : w = (J : Int)) (hN : N ≤ 1000) (hJ : J ≤ 1000) (hlen : es.length + N < shN) (hids : ids.length = N) (hid : ∀ i, i < N → ids[i]? = some (es.length + 1 + i)) (hk1 : k + (1 + N) ≤ X.2.2.1.2.1) (hn1 : n + (N + N * J) ≤ X.2.2.1.2.2.1) (hd : decode cc pc = .ok (.multianewarray index 2, 4)) (K : CW X sz (pc + 4) L (.ref (X.2.2.2.2.1 es.length) :: S) (es ++ (eO X.2.2.2 ids :: List.replicate N (eA X.2.2.2 J))) (k + 1 + N) (n + N + N * J)) : CW X sz pc L (.int (Int32.ofInt w) :: .int (Int32.ofInt v) :: S) es k n := by
  intro H lo ls hP hz hS hl
  subst hv
  subst hw
  have hv32 : r32 (N : Int) := by unfold r32; omega
  have hw32 : r32 (J : Int) := by unfold r32; omega
  refine W_mna C.1.1 C.1.2.1 C.1.2.2.2.1 (C.1.2.2.2.2.1 _ hcl) C.2.2 (C.1.2.2.2.2.1 _ ac_int) (fun e => absurd ((iN_lt hv32 r32_0).mp e) (by omega)) (fun e => absurd ((iN_lt hw32 r32_0).mp e) (by omega)) (N := N) (K := J) (by rw [iN_cl hv32]; rfl) (by rw [iN_cl hw32]; rfl) hN hJ (Nat.le_trans hk1 C.1.2.2.2.2.2.2.2.2.2.1) (Nat.le_trans hn1 C.1.2.2.2.2.2.2.2.2.2.2) hd (fun H1 cA cy fA fC z1 o1 e1 e2 => ?_)
  have hcA : cA = X.2.2.2.2.2.2.2 := Option.some.inj (fA.symm.trans (C.1.2.2.2.2.2.1.1.2 2 _ rfl).2)
  have hcy : cy = X.2.2.2.2.2.1 := Option.some.inj (fC.symm.trans (C.1.2.2.2.2.2.1.1.2 0 _ rfl).2)
  subst hcA
  subst hcy
  have he := C.end hz (by omega)
  rw [he]
  refine K H1 lo ls (mkw_push hP o1 (fun j e hj => ?_)) (by rw [z1, hz, List.length_append, List.length_cons, List.length_replicate]; omega) (hS.grow (by rw [z1]; omega) o1) hl
  cases j with
  | zero =>
    cases hj
    show H1[X.2.2.2.2.1 (es.length + 0)]? = some (vp_cell _ _)
    rw [Nat.add_zero, ← he, e1, hids]
    congr 7
    funext i
    by_cases h : i < N
    · rw [if_pos h, hid i h]
      show _ = some (X.2.2.2.2.1 _)
      rw [C.2.1 _ (by omega), hz]
      congr 1
      omega
    · rw [if_neg h, List.getElem?_eq_none (by omega)]
      rfl
  | succ j =>
    have hj : (List.replicate N (eA X.2.2.2 J))[j]? = some e := hj
    have hjN : j < N := by have := (List.getElem?_eq_some_iff.mp hj).1; rwa [List.length_replicate] at this
    rw [List.getElem?_replicate, if_pos hjN] at hj
    cases hj
    show H1[X.2.2.2.2.1 (es.length + (j + 1))]? = some (vp_cell _ _)
    rw [C.2.1 _ (by omega), show sz + (es.length + (j + 1)) = H.size + 1 + j by omega]
    exact e2 j hjN
theorem k_new (C : Ck X cc own d sz) {ci N index : Nat} {CN : String} {T : u_T} {ty : Nat → FieldType} {fs : List Value} (hc : clOk ci CN T N ty) (hcl : Cond.classLink own index CN ∈ gd_tbl) (hins : Cond.instantiable CN N ∈ gd_tbl) (hini : Cond.initialized CN ∈ gd_tbl) (hfs : ∀ j, j < N → defaultValue (ty j) = vp_V fs j) (hlen : es.length < shN) (hk1 : k + 1 ≤ X.2.2.1.2.1) (hn1 : n + N ≤ X.2.2.1.2.2.1) (hd : decode cc pc = .ok (.new index, 3)) (K : CW X sz (pc + 3) L (.ref (X.2.2.2.2.1 es.length) :: S) (es ++ [.inr (ci, fs)]) (k + 1) (n + N)) : CW X sz pc L S es k n := by
  intro H lo ls hP hz hS hl
  have hts := C.1.2.2.2.2.1
  have hKn := C.1.2.2.2.2.2.1.1.1 ci _ hc.1
  refine W.newcK C.1.1 C.1.2.1 C.1.2.2.2.1 (hts _ hcl) (hts _ hins) (hts _ hini) rfl hd (Nat.le_trans hk1 C.1.2.2.2.2.2.2.2.2.2.1) (Nat.le_trans hn1 C.1.2.2.2.2.2.2.2.2.2.2) hKn.2.1 (C.end hz hlen) (fun H1 kC hkC e1 z1 o1 => ?_)
  have he := C.end hz hlen
  have hk : ∀ x : Nat, x < H.size → H1[x]? = H[x]? := fun x hx => o1 x (by rw [← he]; exact hx)
  refine K H1 lo ls (mkw_push hP hk (fun j e hj => ?_)) (by rw [z1, ← he, hz, List.length_append]; rfl) (hS.grow (by rw [z1, ← he]; omega) hk) hl
  have hj0 : j = 0 := by have := (List.getElem?_eq_some_iff.mp hj).1; simp at this; exact this
  subst hj0
  cases hj
  exact ⟨_, hc.1, (u_born ty hts hc.2.1 hKn hkC e1 hc.2.2.1).to hfs⟩
/-- a call of a constructor -/
theorem k_run (C : Ck X cc own d sz) {md : MD} {d' mc ms na index q : Nat} {as rest : List Value} {Qc : Array Value → State → Outcome → State → Prop} (hM : ∀ l : Launch, Met l md.1 (.code md.1 md.2.1 md.2.2.1 none :: gd_tbl) (rmC d' mc ms) (PcC X.2.2.2 sz (.ref (X.2.2.2.2.1 q) :: as) es) Qc mc ms (Ag X.2.2.2)) (hm : iOk md na) (hlk : mLk own index md.1) (hna : as.length = na) (hrest : (rest.map fun v => v.category).sum ≤ 8) (hd' : d' ≤ d) (hk1 : k + mc ≤ X.2.2.1.2.1) (hn1 : n + ms ≤ X.2.2.1.2.2.1) (hd : decode cc pc = .ok (.invokespecial index, 3)) {H : Heap} {lo : List Loc} {ls : Array Slot} (hP : va_P X.2.2.2.1 mm_cl (mkw X.2.2.2 es) H) (hz : H.size = sz + es.length) (hS : va_S (Ag X.2.2.2) X.1.2.2.2.2.heap H lo) (hl : lv_has ls X.2.2.1.1 L) :
    va_Run X.1.1 X.1.2.1 X.1.2.2.1 X.1.2.2.2.1 X.1.2.2.2.2 X.2.1.1 X.2.1.2.1 X.2.1.2.2.1 X.2.1.2.2.2.1 X.2.1.2.2.2.2 H lo k n mc ms (F0 X.2.1.1 pc ls (as.reverse ++ .ref (X.2.2.2.2.1 q) :: rest)) rest (Qc (Value.ref (X.2.2.2.2.1 q) :: as).toArray) (Ag X.2.2.2) := by
  obtain ⟨⟨hcode, hini, hy, h40⟩, hins, hnm, hnone⟩ := hm
  rw [hnone] at hcode
  obtain ⟨⟨hx, hb, hml, hown, hts, hKK, hSS, hR1, hR2, hR3, hR4⟩, hsq, hao⟩ := C
  have hR : (rmC d' mc ms).frames + 1 ≤ X.1.2.2.2.1.frames ∧ 8 + (md.2.2.1 + 11) + (rmC d' mc ms).locals ≤ X.1.2.2.2.1.locals := ⟨by show d' + 1 ≤ _; omega, by show 8 + (md.2.2.1 + 11) + 60 * d' ≤ _; omega⟩
  have hpre : PreS X.1.2.2.2.2 H (PcC X.2.2.2 sz (.ref (X.2.2.2.2.1 q) :: as) es) (.ref (X.2.2.2.2.1 q) :: as) := ⟨PcC.blind _ _ _ _, fun U hU hW => ⟨rfl, by rw [hU]; exact hP, by rw [hU]; exact hz, hKK.warm hW, hSS.go hW (fun q h1 h2 => by rw [hU]; exact hS.2.1 q h1 h2), hao.moved hW.alike⟩⟩
  rcases hlk with h | ⟨host, h⟩
  · exact va_runI (bytes := md.2.1) (maxL := md.2.2.1) (n := na) (Ts := gd_tbl) ⟨hx, hb, hml, hown, hts⟩ (hM X.1.2.1) ⟨callB_of na hts (gd_in0 hcode) rfl rfl rfl (hts _ hini) (hts _ h) hy hR, hnm, hts _ hins⟩ hpre rfl hna hl.1 rfl (by show 2 * 0 + _ ≤ 8; rw [Nat.mul_zero, Nat.zero_add]; exact hrest) hd ⟨Nat.le_trans hk1 hR3, Nat.le_trans hn1 hR4⟩
  · exact va_runIN (bytes := md.2.1) (maxL := md.2.2.1) (n := na) (host := host) (Ts := gd_tbl) ⟨hx, hb, hml, hown, hts⟩ (hM X.1.2.1) ⟨va_cnB na hts (gd_in0 hcode) rfl rfl rfl (hKK.2.1 _ h) (hts _ hini) hy hR, hnm, hts _ hins⟩ hpre rfl hna hl.1 rfl (by show 2 * 0 + _ ≤ 8; rw [Nat.mul_zero, Nat.zero_add]; exact hrest) hd ⟨Nat.le_trans hk1 hR3, Nat.le_trans hn1 hR4⟩
theorem k_call (C : Ck X cc own d sz) {md : MD} {d' mc ms na index q : Nat} {as rest : List Value} (hM : CC X.2.2.2 sz md d' mc ms (.ref (X.2.2.2.2.1 q) :: as) es es') (hm : iOk md na) (hlk : mLk own index md.1) (hna : as.length = na) (hS0 : S = as.reverse ++ .ref (X.2.2.2.2.1 q) :: rest) (hrest : (rest.map fun v => v.category).sum ≤ 8) (hd' : d' ≤ d) (hk1 : k + mc ≤ X.2.2.1.2.1) (hn1 : n + ms ≤ X.2.2.1.2.2.1) (hd : decode cc pc = .ok (.invokespecial index, 3)) (K : CW X sz (pc + 3) L rest es' (k + mc) (n + ms)) : CW X sz pc L S es k n := by
  intro H lo ls hP hz hS hl
  subst hS0
  have hr := k_run C hM hm hlk hna hrest hd' hk1 hn1 hd hP hz hS hl
  intro T hT Xs
  obtain ⟨v, st₀, t, T', Lc, h0, X', hL, e1, e2, ⟨⟨hv, hP', hz'⟩, hzz, hkk⟩, st⟩ := hr T hT Xs
  have hv : v = none := by injection hv
  subst hv
  rw [h0] at hzz hkk
  obtain ⟨t2, a1, b1⟩ := K T'.heap (lo ++ Lc) ls (by rw [e1]; exact hP') (by rw [e1]; exact hz') ⟨Nat.le_trans hS.1 (by rw [e1]; exact hzz), fun q h1 h2 => by rw [e1, hkk q (Nat.lt_of_lt_of_le h1 hS.1) h2]; exact hS.2.1 q h1 h2, fun q hq => (List.mem_append.mp hq).elim (hS.2.2 q) (hL q)⟩ hl T' rfl X'
  exact ⟨t2, st t2 a1, b1⟩
/-- the end of a constructor -/
theorem k_ret (C : Ck X cc own d sz) (E : X.2.1.2.2.2.1.sig.returnType = none ∧ X.2.1.2.2.2.1.locks = false ∧ X.2.2.1.2.2.2 = MQ X.2.1.2.2.1 (QcC X.2.2.2 sz es) X.2.1.2.1 X.1.2.2.2.2 X.2.2.1.2.1 X.2.2.1.2.2.1 (Ag X.2.2.2)) (hk1 : k ≤ X.2.2.1.2.1) (hn1 : n ≤ X.2.2.1.2.2.1) (hd : decode cc pc = .ok (.return_, 1)) : CW X sz pc L [] es k n := by
  intro H lo ls hP hz hS hl
  rw [E.2.2]
  exact W.widen hk1 hn1 (W.vret C.1.1 C.1.2.1 E.1 (fun t ht hW => ⟨⟨rfl, by rw [ht]; exact hP, by rw [ht]; exact hz⟩, hS.F ht⟩) hS.2.2 hd (hlocks := E.2.1))
/-- all cells are made: on in the small machine -/
theorem CW.toWM {M : Mem} {Lv : List (Nat × VV)} {Sv : List VV} (hes : mkw X.2.2.2 es = wld X.2.2.2 M) (hM : Can M) (hcL : CanL Lv) (hcS : CanS Sv) (hL : Lv.map (fun q => (q.1, tv X.2.2.2 q.2)) = L) (hS0 : Sv.map (tv X.2.2.2) = S) (hk1 : k ≤ X.2.2.1.2.1) (hn1 : n ≤ X.2.2.1.2.2.1) (K : WM X pc Lv Sv M) : CW X sz pc L S es k n := by
  intro H lo ls hP hz hS hl
  subst hL
  subst hS0
  rw [hes] at hP
  exact W.widen hk1 hn1 (K hM hcL hcS H lo ls hP hS hl)
end KROWS
theorem Met.ofC {g : GX} {sz : Nat} {y : MethodName} {cc : ByteArray} {nL d mc ms : Nat} {as : List Value} {es : List va_E} {Qc : Array Value → State → Outcome → State → Prop} (hsq : ∀ o, o < shN → g.2.1 o = sz + o) (hy : plainFor y = true) (hnm : y.name = "<init>") (hw : (lg_sl as).length ≤ nL)
    (h : ∀ X : CT, X.2.2.2 = g → Ck X cc y.cls d sz → X.2.1.2.2.2.1.name = "<init>" → (X.2.1.2.2.2.1.sig.returnType = none ∧ X.2.1.2.2.2.1.locks = false ∧ X.2.2.1.2.2.2 = MQ X.2.1.2.2.1 Qc X.2.1.2.1 X.1.2.2.2.2 X.2.2.1.2.1 X.2.2.1.2.2.1 (Ag X.2.2.2)) → X.2.2.1.1 = nL → X.2.2.1.2.1 = mc → X.2.2.1.2.2.1 = ms → CW X sz 0 (lv_args 0 as) [] es 0 0) (l : Launch) :
    Met l y (.code y cc nL none :: gd_tbl) (rmC (d + 1) mc ms) (PcC g sz as es) Qc mc ms (Ag g) := by
  refine va_MetF (cc := cc) (maxL := nL) (ret := none) hy rfl ?_
  intro p e s m args below meth c s₁ B hml hv
  obtain ⟨rfl, hP, hz, hK, hS, hA⟩ := hv
  have hts := atoms_spec (ws := .code y cc nL none :: gd_tbl) B.pre
  have hown : s.vm.findClass y.cls = some m.cls := findClass_of_methodNamed B.named
  have hin : meth.name = y.name := (name_of_methodNamed B.named B.method).1
  rw [lg_entry_eq]
  have hl := lv_entry as (n := nL) hw
  exact h ((p, l, e, rmC (d + 1) mc ms, s), (m, as.toArray, below, meth, c), (nL, mc, ms, MQ below Qc as.toArray s mc ms (Ag g)), g) rfl
    ⟨⟨B.exec, B.bytes, hml, hown, fun w hw => hts w (List.mem_cons_of_mem _ hw), hK, hS, Nat.le_refl _, by show 60 * d + 60 ≤ 60 * (d + 1); omega, Nat.le_refl _, Nat.le_refl _⟩, hsq, hA⟩ (hin.trans hnm) ⟨B.returns, B.notSynchronized, rfl⟩ rfl rfl rfl s.heap [] _ hP hz va_S.rf hl
