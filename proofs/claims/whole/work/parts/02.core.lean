/-! THE SMALL MACHINE: memory is a table of whole numbers (object, place); objects and their references never change once made -/
abbrev Mem : Type := Nat → Nat → Int
abbrev VV : Type := Int ⊕ (Int ⊕ Nat)
abbrev vI (x : Int) : VV := Sum.inl x
abbrev vL (x : Int) : VV := Sum.inr (Sum.inl x)
abbrev vR (o : Nat) : VV := Sum.inr (Sum.inr o)
def w32 (x : Int) : Int := x.bmod 4294967296
def w64 (x : Int) : Int := x.bmod 18446744073709551616
def r32 (x : Int) : Prop := -2147483648 ≤ x ∧ x ≤ 2147483647
def r64 (x : Int) : Prop := -9223372036854775808 ≤ x ∧ x ≤ 9223372036854775807
theorem w32_r (x : Int) : r32 (w32 x) := by
  unfold r32 w32 Int.bmod; dsimp only; split <;> omega
theorem w64_r (x : Int) : r64 (w64 x) := by
  unfold r64 w64 Int.bmod; dsimp only; split <;> omega
theorem w32_id {x : Int} (h : -2147483648 ≤ x ∧ x ≤ 2147483647) : w32 x = x := by
  unfold w32 Int.bmod; dsimp only; split <;> omega
theorem w64_id {x : Int} (h : -9223372036854775808 ≤ x ∧ x ≤ 9223372036854775807) : w64 x = x := by
  unfold w64 Int.bmod; dsimp only; split <;> omega
theorem r32_64 {x : Int} (h : r32 x) : r64 x := by unfold r32 at h; unfold r64; omega
theorem iN_w (x : Int) : Int32.ofInt (w32 x) = Int32.ofInt x := Int32.toInt_inj.1 (by
  rw [Int32.toInt_ofInt, Int32.toInt_ofInt]; exact Int.bmod_bmod)
theorem lN_w (x : Int) : Int64.ofInt (w64 x) = Int64.ofInt x := Int64.toInt_inj.1 (by
  rw [Int64.toInt_ofInt, Int64.toInt_ofInt]; exact Int.bmod_bmod)
theorem iN_t {x : Int} (h : r32 x) : (Int32.ofInt x).toInt = x := by
  rw [Int32.toInt_ofInt]; exact w32_id h
theorem lN_t {x : Int} (h : r64 x) : (Int64.ofInt x).toInt = x := by
  rw [Int64.toInt_ofInt]; exact w64_id h
theorem iN_r (x : Int32) : r32 x.toInt := ⟨by have := x.le_toInt; omega, by have := x.toInt_lt; omega⟩
theorem lN_r (x : Int64) : r64 x.toInt := ⟨by have := x.le_toInt; omega, by have := x.toInt_lt; omega⟩
theorem iN_lt {a b : Int} (ha : r32 a) (hb : r32 b) : Int32.ofInt a < Int32.ofInt b ↔ a < b := by rw [Int32.lt_iff_toInt_lt, iN_t ha, iN_t hb]
theorem iN_le {a b : Int} (ha : r32 a) (hb : r32 b) : Int32.ofInt a ≤ Int32.ofInt b ↔ a ≤ b := by rw [Int32.le_iff_toInt_le, iN_t ha, iN_t hb]
theorem iN_eq {a b : Int} (ha : r32 a) (hb : r32 b) : Int32.ofInt a = Int32.ofInt b ↔ a = b := by rw [← Int32.toInt_inj, iN_t ha, iN_t hb]
theorem lN_lt' {a b : Int} (ha : r64 a) (hb : r64 b) : Int64.ofInt a < Int64.ofInt b ↔ a < b := by rw [Int64.lt_iff_toInt_lt, lN_t ha, lN_t hb]
theorem lN_eq' {a b : Int} (ha : r64 a) (hb : r64 b) : Int64.ofInt a = Int64.ofInt b ↔ a = b := by rw [← Int64.toInt_inj, lN_t ha, lN_t hb]
theorem r32_0 : r32 0 := ⟨by decide, by decide⟩
theorem iN_cl {i : Int} (h : r32 i) : (Int32.ofInt i).toNatClampNeg = i.toNat := Int32.toNatClampNeg_ofInt_of_le (by unfold r32 at h; omega) (by unfold r32 at h; omega)
theorem iN_in {i : Int} {n : Nat} (h : r32 i) (h0 : 0 ≤ i ∧ i < n) : vp_in (Int32.ofInt i) n := vp_in_iff.mpr (by rw [iN_t h]; exact h0)
def sh_l (a b : Int) : Int := (Int32.ofInt a <<< (Int32.ofInt b &&& 31)).toInt
def sh_r (a b : Int) : Int := (Int32.ofInt a >>> (Int32.ofInt b &&& 31)).toInt
def us_r (a b : Int) : Int := ((Int32.ofInt a).toUInt32 >>> ((Int32.ofInt b).toUInt32 &&& Int32.toUInt32 31)).toInt32.toInt
def an_d (a b : Int) : Int := (Int32.ofInt a &&& Int32.ofInt b).toInt
def o_r (a b : Int) : Int := (Int32.ofInt a ||| Int32.ofInt b).toInt
def x_r (a b : Int) : Int := (Int32.ofInt a ^^^ Int32.ofInt b).toInt
def t_b (a : Int) : Int := (Int32.ofInt a).toInt8.toInt32.toInt
def t_s (a : Int) : Int := (Int32.ofInt a).toInt16.toInt32.toInt
def l_c (a b : Int) : Int := if b < a then 1 else if a = b then 0 else -1
theorem l_c_r (a b : Int) : r32 (l_c a b) := by unfold l_c r32; split; · omega
                                                split <;> omega
theorem l_c_lg {a b : Int} (ha : r64 a) (hb : r64 b) : lg_cmp (Int64.ofInt a) (Int64.ofInt b) = Int32.ofInt (l_c a b) := by
  unfold lg_cmp l_c
  simp only [gt_iff_lt, lN_lt' hb ha, lN_eq' ha hb]
  split
  · rfl
  · split <;> rfl
theorem i_div {a b : Int} (ha : r32 a) (hb : r32 b) : Int32.ofInt a / Int32.ofInt b = Int32.ofInt (w32 (a.tdiv b)) := Int32.toInt_inj.1 (by
  rw [Int32.toInt_div, iN_t ha, iN_t hb, iN_t (w32_r _)]; rfl)
theorem tmod_r {a b : Int} (ha : r32 a) (hb : r32 b) : r32 (a.tmod b) := by
  have h := iN_r (Int32.ofInt a - Int32.ofInt a / Int32.ofInt b * Int32.ofInt b)
  rw [rem_toInt, iN_t ha, iN_t hb] at h
  exact h
theorem i_rem {a b : Int} (ha : r32 a) (hb : r32 b) : Int32.ofInt a - Int32.ofInt a / Int32.ofInt b * Int32.ofInt b = Int32.ofInt (a.tmod b) := Int32.toInt_inj.1 (by
  rw [rem_toInt, iN_t ha, iN_t hb, iN_t (tmod_r ha hb)])
theorem l_div {a b : Int} (ha : r64 a) (hb : r64 b) : Int64.ofInt a / Int64.ofInt b = Int64.ofInt (w64 (a.tdiv b)) := Int64.toInt_inj.1 (by
  rw [Int64.toInt_div, lN_t ha, lN_t hb, lN_t (w64_r _)]; rfl)
theorem lrem_t (a b : Int64) : (a - a / b * b).toInt = a.toInt.tmod b.toInt := by
  rw [Int64.toInt_sub, Int64.toInt_mul, Int64.toInt_div]
  have e : (a % b).toInt = a.toInt.tmod b.toInt := Int64.toInt_mod a b
  have hb := Int64.toInt_bmod (a % b)
  rw [e] at hb
  rw [← hb, Int.tmod_def, Int.bmod_mul_bmod, Int.sub_bmod_bmod, Int.mul_comm b.toInt]
theorem tmod_r64 {a b : Int} (ha : r64 a) (hb : r64 b) : r64 (a.tmod b) := by
  have h := lN_r (Int64.ofInt a - Int64.ofInt a / Int64.ofInt b * Int64.ofInt b)
  rw [lrem_t, lN_t ha, lN_t hb] at h
  exact h
theorem l_rem {a b : Int} (ha : r64 a) (hb : r64 b) : Int64.ofInt a - Int64.ofInt a / Int64.ofInt b * Int64.ofInt b = Int64.ofInt (a.tmod b) := Int64.toInt_inj.1 (by
  rw [lrem_t, lN_t ha, lN_t hb, lN_t (tmod_r64 ha hb)])
theorem i_2l {a : Int} (ha : r32 a) : (Int32.ofInt a).toInt64 = Int64.ofInt a := Int64.toInt_inj.1 (by
  rw [Int32.toInt_toInt64, iN_t ha, lN_t (r32_64 ha)])
theorem l_2i {a : Int} (ha : r64 a) : (Int64.ofInt a).toInt32 = Int32.ofInt (w32 a) := by
  rw [iN_w, ← Int32.ofInt_int64ToInt, lN_t ha]
-- the world
abbrev GX : Type := va_G × (Nat → Nat) × (ClassId × ClassId × ClassId)
abbrev Sh : Type := (Nat × List Nat) ⊕ ((Nat × Nat) ⊕ List Nat)
abbrev mm_cl : List vw_C := [(RX0, TX0, 11), (RX2, TX2, 4), (RX3, TX3, 5), (RX4, TX4, 9), (RX5, TX5, 3), (RX6, TX6, 2), (RX7, TX7, 4), (RX8, TX8, 8), (RX9, TX9, 10), (RX10, TX10, 46)]
def shp : List Sh := [.inl (8, [4, 11, 2, 18, 20, 36, 39, 41, 44, 46]),
  .inl (0, [0, 0, 0, 0, 5, 6, 7, 8, 0, 9, 10]),
  .inr (.inl (0, 6)),
  .inr (.inl (0, 6)),
  .inr (.inl (0, 6)),
  .inr (.inl (0, 6)),
  .inr (.inl (0, 40)),
  .inr (.inl (0, 40)),
  .inl (0, [0, 0, 0, 0, 12, 13, 14, 15, 0, 16, 17]),
  .inr (.inl (0, 6)),
  .inr (.inl (0, 6)),
  .inr (.inl (0, 6)),
  .inr (.inl (0, 6)),
  .inr (.inl (0, 40)),
  .inr (.inl (0, 40)),
  .inl (5, [19, 0]),
  .inr (.inl (0, 160)),
  .inl (6, [0, 21, 28, 35]),
  .inr (.inr [19, 20, 21, 22, 23, 24]),
  .inr (.inl (0, 160)),
  .inr (.inl (0, 160)),
  .inr (.inl (0, 160)),
  .inr (.inl (0, 160)),
  .inr (.inl (0, 160)),
  .inr (.inl (0, 160)),
  .inr (.inr [26, 27, 28, 29, 30, 31]),
  .inr (.inl (0, 3)),
  .inr (.inl (0, 3)),
  .inr (.inl (0, 3)),
  .inr (.inl (0, 3)),
  .inr (.inl (0, 3)),
  .inr (.inl (0, 3)),
  .inr (.inl (0, 160)),
  .inl (3, [18, 37, 38, 0, 0, 0, 0, 0, 0]),
  .inr (.inl (0, 160)),
  .inr (.inl (0, 3)),
  .inl (1, [20, 0, 0, 40]),
  .inr (.inl (0, 6)),
  .inl (7, [4, 39, 42, 43, 0, 0, 0, 0]),
  .inr (.inl (0, 6)),
  .inr (.inl (0, 80)),
  .inl (2, [41, 45, 0, 0, 0]),
  .inr (.inl (0, 6)),
  .inl (4, [47, 48, 49]),
  .inr (.inl (0, 4)),
  .inr (.inl (0, 4)),
  .inr (.inr [47, 48, 49, 50]),
  .inr (.inl (0, 40)),
  .inr (.inl (0, 40)),
  .inr (.inl (0, 40)),
  .inr (.inl (0, 40)),
  .inl (9, [0, 55, 56, 0, 0, 57, 0, 0, 0, 58, 59, 0, 60, 61, 0, 0, 0, 0, 0, 0, 0, 0, 0, 0, 0, 0, 1, 0, 2, 0, 0, 0, 62, 63, 64, 65, 66, 0, 0, 0, 0, 0, 67, 68, 69, 70]),
  .inr (.inl (0, 960)),
  .inr (.inl (0, 6)),
  .inr (.inl (0, 160)),
  .inr (.inl (0, 6)),
  .inr (.inl (0, 18)),
  .inr (.inl (0, 40)),
  .inr (.inl (0, 40)),
  .inr (.inl (0, 6)),
  .inr (.inl (0, 20)),
  .inr (.inl (0, 18)),
  .inr (.inl (0, 40)),
  .inr (.inl (0, 40)),
  .inr (.inl (1, 4)),
  .inr (.inl (0, 4)),
  .inr (.inl (0, 4)),
  .inr (.inl (0, 160))]
abbrev shN : Nat := 68
theorem shp_len : shp.length = shN := by decide
def tv (g : GX) : VV → Value
  | .inl x => .int (Int32.ofInt x)
  | .inr (.inl x) => .long (Int64.ofInt x)
  | .inr (.inr o) => .ref (g.2.1 o)
def fv (g : GX) (M : Mem) (o k : Nat) : Nat → Value
  | 0 => .int (Int32.ofInt (M o k))
  | 1 => .long (Int64.ofInt (M o k))
  | 2 => .int (Int32.ofInt (M o k))
  | n + 3 => .ref (g.2.1 n)
def ent (g : GX) (M : Mem) (o : Nat) : Sh → va_E
  | .inl q => .inr (q.1, q.2.mapIdx (fun k d => fv g M o k d))
  | .inr (.inl q) => .inl (if q.1 = 0 then g.2.2.1 else g.2.2.2.1, q.2, .inl (fun j => Int32.ofInt (M o j)))
  | .inr (.inr ids) => .inl (g.2.2.2.2, ids.length, .inr (.inr (.inr (.inr (fun j => (ids[j]?).map g.2.1)))))
def wld (g : GX) (M : Mem) : va_W := shp.mapIdx (fun o e => (g.2.1 o, ent g M o e))
theorem wld_get (g : GX) (M : Mem) (o : Nat) : (wld g M)[o]? = (shp[o]?).map (fun e => (g.2.1 o, ent g M o e)) := by
  unfold wld; rw [List.getElem?_mapIdx]
theorem wld_at {g : GX} {M : Mem} {o : Nat} {e : Sh} (h : shp[o]? = some e) : (wld g M)[o]? = some (g.2.1 o, ent g M o e) := by rw [wld_get, h]; rfl
def up (M : Mem) (o k : Nat) (v : Int) : Mem := fun o' k' => if o' = o ∧ k' = k then v else M o' k'
/-- a whole row anew -/
def upr (M : Mem) (o : Nat) (f : Nat → Int) : Mem := fun o' k' => if o' = o then f k' else M o' k'
theorem wld_set {g : GX} {M M' : Mem} {o : Nat} {e : Sh} {x : va_E} (h : shp[o]? = some e) (hx : ent g M' o e = x) (ho : ∀ o' k, o' ≠ o → M' o' k = M o' k) : (wld g M).set o (g.2.1 o, x) = wld g M' := by
  apply List.ext_getElem?
  intro i
  have hl : o < (wld g M).length := by
    have := (List.getElem?_eq_some_iff.mp h).1
    unfold wld; rw [List.length_mapIdx]; exact this
  by_cases hi : i = o
  · subst hi
    rw [List.getElem?_set_self hl, wld_at h, hx]
  · rw [List.getElem?_set_ne (Ne.symm hi), wld_get, wld_get]
    congr 1
    funext e'
    have hM : ∀ k, M' i k = M i k := fun k => ho i k hi
    have : M' i = M i := funext hM
    have e1 : ent g M i e' = ent g M' i e' := by
      rcases e' with q | q | q
      · show Sum.inr _ = Sum.inr _
        congr 2
        · congr 1
          funext k d
          unfold fv
          rw [this]
      · show Sum.inl _ = Sum.inl _
        rw [this]
      · rfl
    rw [e1]
def Ag (g : GX) : Nat → Prop := fun q => ∃ i, i < shN ∧ q = g.2.1 i
def AdOk (g : GX) : Prop := ∀ i j, i < shN → j < shN → g.2.1 i = g.2.1 j → i = j
theorem wld_D {g : GX} (h : AdOk g) (M : Mem) : va_D (Ag g) (wld g M) := by
  have hat : ∀ (i : Nat) (p : Nat × va_E), (wld g M)[i]? = some p → i < shN ∧ p.1 = g.2.1 i := by
    intro i p hp
    rw [wld_get] at hp
    cases hs : shp[i]? with
    | none => rw [hs] at hp; cases hp
    | some e =>
      rw [hs] at hp
      cases hp
      refine ⟨?_, rfl⟩
      have := (List.getElem?_eq_some_iff.mp hs).1
      rwa [shp_len] at this
  refine ⟨fun i j p q hp hq hpq => ?_, fun k q hq => ?_⟩
  · obtain ⟨h1, h2⟩ := hat i p hp
    obtain ⟨h3, h4⟩ := hat j q hq
    exact h i j h1 h3 (by rw [← h2, ← h4, hpq])
  · obtain ⟨h1, h2⟩ := hat k q hq
    exact ⟨k, h1, h2⟩
def mm_tys (g : GX) : List (ClassId × FieldType) := [(g.2.2.1, .int), (g.2.2.2.1, .boolean), (g.2.2.2.2, .array .int)]
def isNest : Cond → Bool
  | .fieldLinkNest .. => true
  | .methodLinkNest .. => true
  | _ => false
def nst_tbl : List Cond := tables_1.filter isNest
def gd_tbl : List Cond := lw_tbl.filter goodWord
theorem gd_good : ∀ w ∈ gd_tbl, (w.onTables && w.keeps) = true ∨ ∃ ty, w = .arrayClass ty := fun w h => good_of_word (List.mem_filter.mp h).2
def NW (U : State) : Prop := ∀ w ∈ nst_tbl, va_Nw w U
theorem NW.warm {s U : State} (hW : s.WarmedH U.vm) (h : NW s) : NW U := by
  intro w hw
  have h1 := h w hw
  have h2 := (List.mem_filter.mp hw).2
  cases w <;> first | exact va_Nw.warmF hW h1 | exact va_Nw.warmM hW h1 | cases h2
theorem NW.same {s U : State} (hv : s.vm = U.vm) (h : NW s) : NW U := by
  intro w hw
  have h1 := h w hw
  have h2 := (List.mem_filter.mp hw).2
  cases w <;> first | exact va_Nw.same rfl hv h1 | cases h2
def KK (g : GX) (U : State) : Prop := va_K g.1 mm_cl (mm_tys g) U ∧ NW U ∧ AdOk g
theorem KK.warm {g : GX} {s U : State} (hW : s.WarmedH U.vm) (h : KK g s) : KK g U := ⟨va_K.moved hW.alike h.1, h.2.1.warm hW, h.2.2⟩
theorem KK.same {g : GX} {s U : State} (hv : s.vm = U.vm) (h : KK g s) : KK g U := ⟨va_K.moved (u := s) (U := U) (by rw [hv]; exact Vm.Alike.refl U.vm) h.1, h.2.1.same hv, h.2.2⟩
def wtx : String := "stem colour number angle left room turns costs lasts or and not "
def wbt : List Int32 := [115, 116, 101, 109, 32, 99, 111, 108, 111, 117, 114, 32, 110, 117, 109, 98, 101, 114, 32, 97, 110, 103, 108, 101, 32, 108, 101, 102, 116, 32, 114, 111, 111, 109, 32, 116, 117, 114, 110, 115, 32, 99, 111, 115, 116, 115, 32, 108, 97, 115, 116, 115, 32, 111, 114, 32, 97, 110, 100, 32, 110, 111, 116, 32]
def un_l : List Int32 := [-1, 0, 0, 1, 2, 0]
abbrev idS : Nat := 68
abbrev idU : Nat := 69
/-- the String's bytes -/
abbrev idB : Nat := 70
def SS (g : GX) (U : State) (H : Heap) : Prop :=
  va_Z "FortyStems$Kind" "UNDER" "[I" (.ref (g.2.1 idU)) (Ag g) U H ∧ va_T .int (g.2.1 idU) 6 (fun j => .int (un_l.getD j 0)) (Ag g) U H ∧
  va_Z "java/lang/String" "COMPACT_STRINGS" "Z" (.int 1) (Ag g) U H ∧ va_Zq "jdk/internal/util/Preconditions" "SIOOBE_FORMATTER" "Ljava/util/function/BiFunction;" (Ag g) U H ∧
  vk_R "FortyStems$Reader" 99 wtx (g.2.1 idS) U ∧ vk_S 1 [64] [wbt] (fun _ => g.2.1 idS) (fun _ => g.2.1 idB) (Ag g) U H
theorem SS.go {g : GX} {s U : State} {H H1 : Heap} (hW : s.WarmedH U.vm) (h : SS g s H) (hq : ∀ a : Nat, a < H.size → ¬ Ag g a → H1[a]? = H[a]?) : SS g U H1 := by
  obtain ⟨h1, h2, h3, h4, h5, h6⟩ := h
  exact ⟨(h1.moved hW.alike).kept hq, (h2.moved hW.alike).kept hq, (h3.moved hW.alike).kept hq, (h4.moved hW.alike).kept hq, h5.warm hW, (h6.moved hW.alike).kept hq⟩
theorem SS.same {g : GX} {s U : State} {H : Heap} (hv : U.vm = s.vm) (h : SS g s H) : SS g U H := by
  obtain ⟨h1, h2, h3, h4, h5, h6⟩ := h
  have hal : s.vm.Alike U.vm := by rw [hv]; exact Vm.Alike.refl s.vm
  exact ⟨h1.moved hal, h2.moved hal, h3.moved hal, h4.moved hal, h5.same hv, h6.moved hal⟩
-- canonical numbers
def cV : VV → Prop
  | .inl x => r32 x
  | .inr (.inl x) => r64 x
  | .inr (.inr _) => True
def Can (M : Mem) : Prop := ∀ o k, r32 (M o k)
def CanL (L : List (Nat × VV)) : Prop := ∀ q ∈ L, cV q.2
def CanS (S : List VV) : Prop := ∀ v ∈ S, cV v
theorem Can.up {M : Mem} (h : Can M) {o k : Nat} {v : Int} (hv : r32 v) : Can (up M o k v) := by
  intro o' k'; unfold Jvm.Pilot.@@N@@.up; split
  · exact hv
  · exact h o' k'
theorem CanS.push {S : List VV} {v : VV} (h : CanS S) (hv : cV v) : CanS (v :: S) := fun w hw => (List.mem_cons.mp hw).elim (fun e => e ▸ hv) (h w)
theorem CanS.tl {S : List VV} {v : VV} (h : CanS (v :: S)) : CanS S := fun w hw => h w (List.mem_cons_of_mem _ hw)
theorem CanS.hd {S : List VV} {v : VV} (h : CanS (v :: S)) : cV v := h v List.mem_cons_self
-- contracts
abbrev MD : Type := MethodName × ByteArray × Nat × Option FieldType
def rmO (n : Nat) : Room := { frames := n, cells := 0, slots := 0, locals := 60 * n }
def PcO (g : GX) (as : List VV) (M : Mem) : Array Value → State → Prop := fun v U => v = (as.map (tv g)).toArray ∧ Can M ∧ CanS as ∧ va_P g.1 mm_cl (wld g M) U.heap ∧ KK g U ∧ SS g U U.heap
def rvO : Option FieldType → Int → Option Value
  | none, _ => none
  | some .long, r => some (.long (Int64.ofInt r))
  | some _, r => some (.int (Int32.ofInt r))
def rsO : Option FieldType → Int → List VV
  | none, _ => []
  | some .long, r => [vL r]
  | some _, r => [vI r]
theorem rsO_map (g : GX) (ret : Option FieldType) (r : Int) : (rsO ret r).map (tv g) = (rvO ret r).toList := by
  cases ret with
  | none => rfl
  | some t => cases t <;> rfl
def QcO (g : GX) (ret : Option FieldType) (Q : Int → Mem → Prop) : Array Value → State → Outcome → State → Prop := fun _ st oc t =>
  (∃ (r : Int) (M' : Mem), oc = .returned (rvO ret r) ∧ CanS (rsO ret r) ∧ Q r M' ∧ Can M' ∧ va_P g.1 mm_cl (wld g M') t.heap) ∧ va_F (Ag g) st t
def Con (n : Nat) (md : MD) (as : List VV) (M : Mem) (Q : Int → Mem → Prop) : Prop :=
  ∀ (l : Launch) (g : GX), Met l md.1 (.code md.1 md.2.1 md.2.2.1 md.2.2.2 :: gd_tbl) (rmO n) (PcO g as M) (QcO g md.2.2.2 Q) 0 0 (Ag g)
theorem Con.mono {n : Nat} {md : MD} {as : List VV} {M : Mem} {Q Q' : Int → Mem → Prop} (h : Con n md as M Q) (hq : ∀ r M', CanS (rsO md.2.2.2 r) → Can M' → Q r M' → Q' r M') : Con n md as M Q' := by
  intro l g
  refine MetFree.mono (h l g) (fun _ _ h => h) (fun _ _ _ _ _ h => h) (fun a s o s' _ h => ?_)
  obtain ⟨⟨⟨r, M', h1, h2, h3, h4, h5⟩, hF⟩, hL⟩ := h
  exact ⟨⟨⟨r, M', h1, h2, hq r M' h2 h4 h3, h4, h5⟩, hF⟩, hL⟩
theorem PcO.blind (g : GX) (as : List VV) (M : Mem) : FrameBlind (PcO g as M) := by
  intro a U fr mk h
  obtain ⟨h1, h2, h3, h4, h5, h6⟩ := h
  exact ⟨h1, h2, h3, h4, KK.same (s := U) (U := U.calling fr mk a) rfl h5, SS.same (s := U) (U := U.calling fr mk a) rfl h6⟩
-- a place in a method's walk
abbrev CT : Type := (Program × Launch × Env × Room × State) × (MethodId × Array Value × List Frame × Method × Code) × (Nat × Nat × Nat × (State → Prop)) × GX
def WM (X : CT) (pc : Nat) (L : List (Nat × VV)) (S : List VV) (M : Mem) : Prop :=
  Can M → CanL L → CanS S → ∀ (H : Heap) (locs : List Loc) (ls : Array Slot), va_P X.2.2.2.1 mm_cl (wld X.2.2.2 M) H → va_S (Ag X.2.2.2) X.1.2.2.2.2.heap H locs → lv_has ls X.2.2.1.1 (L.map (fun q => (q.1, tv X.2.2.2 q.2))) →
    W X.1.1 X.1.2.1 X.1.2.2.1 X.1.2.2.2.1 X.1.2.2.2.2 X.2.1.1 X.2.1.2.1 X.2.1.2.2.1 X.2.1.2.2.2.1 X.2.1.2.2.2.2 H locs X.2.2.1.2.1 X.2.2.1.2.2.1 X.2.2.1.2.2.2 (F0 X.2.1.1 pc ls (S.map (tv X.2.2.2)))
/-- what stays the same in a walk; n: how deep its calls may go -/
def Cx (X : CT) (cc : ByteArray) (own : String) (n : Nat) : Prop :=
  X.1.1.tables.exec = Jvm.exec ∧ X.2.1.2.2.2.2.code = cc ∧ X.2.1.2.2.2.2.maxLocals = X.2.2.1.1 ∧ X.1.2.2.2.2.vm.findClass own = some X.2.1.1.cls ∧ (∀ w ∈ gd_tbl, w.before X.2.1.2.1 X.1.2.2.2.2 = true) ∧ KK X.2.2.2 X.1.2.2.2.2 ∧ SS X.2.2.2 X.1.2.2.2.2 X.1.2.2.2.2.heap ∧
  (n + 1 ≤ X.1.2.2.2.1.frames ∧ 60 * n + 60 ≤ X.1.2.2.2.1.locals ∧ X.2.2.1.2.1 ≤ X.1.2.2.2.1.cells ∧ X.2.2.1.2.2.1 ≤ X.1.2.2.2.1.slots)
/-- and at a method's end -/
def Cr (X : CT) (ret : Option FieldType) (Q : Int → Mem → Prop) : Prop :=
  X.2.1.2.2.2.1.sig.returnType = ret ∧ X.2.1.2.2.2.1.locks = false ∧ X.2.2.1.2.2.2 = MQ X.2.1.2.2.1 (QcO X.2.2.2 ret Q) X.2.1.2.1 X.1.2.2.2.2 X.2.2.1.2.1 X.2.2.1.2.2.1 (Ag X.2.2.2)
def lvA : Nat → List VV → List (Nat × VV)
  | _, [] => []
  | i, .inl x :: vs => (i, .inl x) :: lvA (i + 1) vs
  | i, .inr (.inl x) :: vs => (i, .inr (.inl x)) :: lvA (i + 2) vs
  | i, .inr (.inr x) :: vs => (i, .inr (.inr x)) :: lvA (i + 1) vs
theorem lvA_map (g : GX) : ∀ (vs : List VV) (i : Nat), (lvA i vs).map (fun q => (q.1, tv g q.2)) = lv_args i (vs.map (tv g))
  | [], _ => rfl
  | .inl x :: vs, i => by
    show _ :: _ = _ :: _
    rw [lvA_map g vs (i + 1)]; rfl
  | .inr (.inl x) :: vs, i => by
    show _ :: _ = _ :: _
    rw [lvA_map g vs (i + 2)]; rfl
  | .inr (.inr x) :: vs, i => by
    show _ :: _ = _ :: _
    rw [lvA_map g vs (i + 1)]; rfl
theorem lvA_can : ∀ (vs : List VV) (i : Nat), CanS vs → CanL (lvA i vs)
  | [], _, _ => fun _ h => by cases h
  | .inl x :: vs, i, h => fun q hq => (List.mem_cons.mp hq).elim (fun e => e ▸ h.hd) (lvA_can vs (i + 1) h.tl q)
  | .inr (.inl x) :: vs, i, h => fun q hq => (List.mem_cons.mp hq).elim (fun e => e ▸ h.hd) (lvA_can vs (i + 2) h.tl q)
  | .inr (.inr x) :: vs, i, h => fun q hq => (List.mem_cons.mp hq).elim (fun e => e ▸ h.hd) (lvA_can vs (i + 1) h.tl q)
def wdt : List VV → Nat
  | [] => 0
  | .inr (.inl _) :: vs => 2 + wdt vs
  | _ :: vs => 1 + wdt vs
theorem lg_sl_len (g : GX) : ∀ vs : List VV, (lg_sl (vs.map (tv g))).length = wdt vs
  | [] => rfl
  | .inl x :: vs => by
    show ([Slot.val (tv g (vI x))] ++ lg_sl (vs.map (tv g))).length = 1 + wdt vs
    rw [List.length_append, lg_sl_len g vs]; rfl
  | .inr (.inl x) :: vs => by
    show ([Slot.val (tv g (vL x)), Slot.second] ++ lg_sl (vs.map (tv g))).length = 2 + wdt vs
    rw [List.length_append, lg_sl_len g vs]; rfl
  | .inr (.inr x) :: vs => by
    show ([Slot.val (tv g (vR x))] ++ lg_sl (vs.map (tv g))).length = 1 + wdt vs
    rw [List.length_append, lg_sl_len g vs]; rfl
theorem wdt_cat (g : GX) : ∀ vs : List VV, ((vs.map (tv g)).map fun v => v.category).sum = wdt vs
  | [] => rfl
  | .inl x :: vs => by
    show 1 + ((vs.map (tv g)).map fun v => v.category).sum = 1 + wdt vs
    rw [wdt_cat g vs]
  | .inr (.inl x) :: vs => by
    show 2 + ((vs.map (tv g)).map fun v => v.category).sum = 2 + wdt vs
    rw [wdt_cat g vs]
  | .inr (.inr x) :: vs => by
    show 1 + ((vs.map (tv g)).map fun v => v.category).sum = 1 + wdt vs
    rw [wdt_cat g vs]
/-- a contract out of a walk -/
theorem Con.of {n : Nat} (hn : 0 < n) {y : MethodName} {cc : ByteArray} {nL : Nat} {ret : Option FieldType} {as : List VV} {M : Mem} {Q : Int → Mem → Prop} (hy : plainName y.cls = true) (hw : wdt as ≤ nL)
    (h : ∀ X : CT, Cx X cc y.cls (n - 1) → Cr X ret Q → X.2.2.1.1 = nL → WM X 0 (lvA 0 as) [] M) : Con n (y, cc, nL, ret) as M Q := by
  intro l g
  refine Met.ofW (cc := cc) (maxL := nL) (ret := ret) hy rfl ?_
  intro p e s m args below meth c s₁ B hml hv
  obtain ⟨rfl, hCM, hCa, hP, hK, hS⟩ := hv
  have hts := atoms_spec (ws := .code y cc nL ret :: gd_tbl) B.pre
  have hown : s.vm.findClass y.cls = some m.cls := findClass_of_methodNamed B.named
  rw [lg_entry_eq]
  have hl := lv_entry (as.map (tv g)) (n := nL) (by rw [lg_sl_len]; exact hw)
  rw [← lvA_map] at hl
  exact h ((p, l, e, rmO n, s), (m, (as.map (tv g)).toArray, below, meth, c), (nL, 0, 0, MQ below (QcO g ret Q) (as.map (tv g)).toArray s 0 0 (Ag g)), g)
    ⟨B.exec, B.bytes, hml, hown, fun w hw => hts w (List.mem_cons_of_mem _ hw), hK, hS, by
      show n - 1 + 1 ≤ n; omega, by show 60 * (n - 1) + 60 ≤ 60 * n; omega, Nat.le_refl _, Nat.le_refl _⟩
    ⟨B.returns, B.notSynchronized, rfl⟩ rfl hCM (lvA_can as 0 hCa) (fun _ h => by cases h) s.heap [] _ hP va_S.rf hl
section ROWS
variable {X : CT} {cc : ByteArray} {own : String} {n pc : Nat} {L : List (Nat × VV)} {S : List VV} {M : Mem}
theorem WM.eq {pc' : Nat} (h : pc = pc') (K : WM X pc' L S M) : WM X pc L S M := h ▸ K
theorem m_at {X : CT} {ls : Array Slot} {L : List (Nat × VV)} (hl : lv_has ls X.2.2.1.1 (L.map (fun q => (q.1, tv X.2.2.2 q.2)))) (k : Nat) {i : Nat} {v : VV} (hk : L[k]? = some (i, v)) : ls[i]? = some (.val (tv X.2.2.2 v)) := lv_at hl k (by rw [List.getElem?_map, hk]; rfl)
theorem m_cat {L : List (Nat × VV)} (h : CanL L) {k i : Nat} {v : VV} (hk : L[k]? = some (i, v)) : cV v := h (i, v) (List.mem_of_getElem? hk)
def c2 : VV → Bool
  | .inr (.inl _) => true
  | _ => false
theorem c2_tv (g : GX) (v : VV) : ((tv g v).category == 2) = c2 v := by rcases v with x | x | x <;> rfl
theorem m_flt (g : GX) (i : Nat) : ∀ L : List (Nat × VV), (L.map (fun q => (q.1, tv g q.2))).filter (fun q => !(q.1 == i) && !(q.1 + 1 == i && q.2.category == 2)) = (L.filter (fun q => !(q.1 == i) && !(q.1 + 1 == i && c2 q.2))).map (fun q => (q.1, tv g q.2)) := by
  intro L
  rw [List.filter_map]
  congr 1
  apply List.filter_congr
  intro q _
  show (!(q.1 == i) && !(q.1 + 1 == i && (tv g q.2).category == 2)) = _
  rw [c2_tv]
theorem m_flt2 (g : GX) (i : Nat) : ∀ L : List (Nat × VV), (L.map (fun q => (q.1, tv g q.2))).filter (fun q => !(q.1 == i) && (!(q.1 == i + 1) && !(q.1 + 1 == i && q.2.category == 2))) = (L.filter (fun q => !(q.1 == i) && (!(q.1 == i + 1) && !(q.1 + 1 == i && c2 q.2)))).map (fun q => (q.1, tv g q.2)) := by
  intro L
  rw [List.filter_map]
  congr 1
  apply List.filter_congr
  intro q _
  show (!(q.1 == i) && (!(q.1 == i + 1) && !(q.1 + 1 == i && (tv g q.2).category == 2))) = _
  rw [c2_tv]
theorem CanL.set {L : List (Nat × VV)} (h : CanL L) {f : Nat × VV → Bool} {i : Nat} {v : VV} (hv : cV v) : CanL ((i, v) :: L.filter f) := fun q hq => (List.mem_cons.mp hq).elim (fun e => e ▸ hv) (fun h1 => h q (List.mem_filter.mp h1).1)

theorem m_iconst (C : Cx X cc own n) {v : Int} (hd : decode cc pc = .ok (.iconst v, 1)) (hv : r32 v) (K : WM X (pc + 1) L (vI v :: S) M) : WM X pc L S M :=
  fun a b c H lo ls hP hS hl => lv_iconst C.1 C.2.1 hd rfl (K a b (c.push hv) H lo ls hP hS hl)
theorem m_bipush (C : Cx X cc own n) {v : Int} (hd : decode cc pc = .ok (.bipush v, 2)) (hv : r32 v) (he : (Int8.ofInt v).toInt32 = Int32.ofInt v) (K : WM X (pc + 2) L (vI v :: S) M) : WM X pc L S M :=
  fun a b c H lo ls hP hS hl => lv_bipush C.1 C.2.1 hd he (K a b (c.push hv) H lo ls hP hS hl)
theorem m_sipush (C : Cx X cc own n) {v : Int} (hd : decode cc pc = .ok (.sipush v, 3)) (hv : r32 v) (he : (Int16.ofInt v).toInt32 = Int32.ofInt v) (K : WM X (pc + 3) L (vI v :: S) M) : WM X pc L S M :=
  fun a b c H lo ls hP hS hl => lv_sipush C.1 C.2.1 hd he (K a b (c.push hv) H lo ls hP hS hl)
theorem m_ldc (C : Cx X cc own n) {i : Nat} {v : Int} (hd : decode cc pc = .ok (.ldc i, 2)) (hm : Cond.constant own i (Int32.ofInt v) ∈ gd_tbl) (hv : r32 v) (K : WM X (pc + 2) L (vI v :: S) M) : WM X pc L S M :=
  fun a b c H lo ls hP hS hl => lv_ldc C.1 C.2.1 C.2.2.2.1 (C.2.2.2.2.1 _ hm) hd (K a b (c.push hv) H lo ls hP hS hl)
theorem m_ldc_w (C : Cx X cc own n) {i : Nat} {v : Int} (hd : decode cc pc = .ok (.ldc_w i, 3)) (hm : Cond.constant own i (Int32.ofInt v) ∈ gd_tbl) (hv : r32 v) (K : WM X (pc + 3) L (vI v :: S) M) : WM X pc L S M :=
  fun a b c H lo ls hP hS hl => lv_ldcw C.1 C.2.1 C.2.2.2.1 (C.2.2.2.2.1 _ hm) hd (K a b (c.push hv) H lo ls hP hS hl)
theorem m_ldc2 (C : Cx X cc own n) {i : Nat} {v : Int} (hd : decode cc pc = .ok (.ldc2_w i, 3)) (hm : Cond.constantLong own i (Int64.ofInt v) ∈ gd_tbl) (hv : r64 v) (K : WM X (pc + 3) L (vL v :: S) M) : WM X pc L S M :=
  fun a b c H lo ls hP hS hl => lv_ldc2 C.1 C.2.1 C.2.2.2.1 (C.2.2.2.2.1 _ hm) hd (K a b (c.push hv) H lo ls hP hS hl)
theorem m_lconst (C : Cx X cc own n) {v : Fin 2} {x : Int} (hd : decode cc pc = .ok (.lconst v, 1)) (he : Int64.ofNat (v : Nat) = Int64.ofInt x) (hv : r64 x) (K : WM X (pc + 1) L (vL x :: S) M) : WM X pc L S M :=
  fun a b c H lo ls hP hS hl => lv_lconst C.1 C.2.1 hd he (K a b (c.push hv) H lo ls hP hS hl)
theorem m_iload_n (C : Cx X cc own n) {j : Fin 4} {i : Nat} {x : Int} (k : Nat) (hd : decode cc pc = .ok (.iload_n j, 1)) (hi : (j : Nat) = i) (hk : L[k]? = some (i, vI x)) (K : WM X (pc + 1) L (vI x :: S) M) : WM X pc L S M :=
  fun a b c H lo ls hP hS hl => lv_iload_n C.1 C.2.1 hd hi (m_at hl k hk) (K a b (c.push (m_cat b hk)) H lo ls hP hS hl)
theorem m_iload (C : Cx X cc own n) {i : Nat} {x : Int} (k : Nat) (hd : decode cc pc = .ok (.iload i, 2)) (hk : L[k]? = some (i, vI x)) (K : WM X (pc + 2) L (vI x :: S) M) : WM X pc L S M :=
  fun a b c H lo ls hP hS hl => lv_iload C.1 C.2.1 hd (m_at hl k hk) (K a b (c.push (m_cat b hk)) H lo ls hP hS hl)
theorem m_istore_n (C : Cx X cc own n) {j : Fin 4} {i : Nat} {x : Int} {L' : List (Nat × VV)} (hd : decode cc pc = .ok (.istore_n j, 1)) (hi : (j : Nat) = i) (hn : i < X.2.2.1.1) (hL : (i, vI x) :: L.filter (fun q => !(q.1 == i) && !(q.1 + 1 == i && c2 q.2)) = L') (K : WM X (pc + 1) L' S M) : WM X pc L (vI x :: S) M :=
  fun a b c H lo ls hP hS hl => lv_istore_n C.1 C.2.1 hd hi hl hn (by rw [m_flt]) (fun ls' hl' => K a (by rw [← hL]; exact b.set c.hd) c.tl H lo ls' hP hS (by rw [← hL]; exact hl'))
theorem m_istore (C : Cx X cc own n) {i : Nat} {x : Int} {L' : List (Nat × VV)} (hd : decode cc pc = .ok (.istore i, 2)) (hn : i < X.2.2.1.1) (hL : (i, vI x) :: L.filter (fun q => !(q.1 == i) && !(q.1 + 1 == i && c2 q.2)) = L') (K : WM X (pc + 2) L' S M) : WM X pc L (vI x :: S) M :=
  fun a b c H lo ls hP hS hl => lv_istore C.1 C.2.1 hd hl hn (by rw [m_flt]) (fun ls' hl' => K a (by rw [← hL]; exact b.set c.hd) c.tl H lo ls' hP hS (by rw [← hL]; exact hl'))
theorem m_lload_n (C : Cx X cc own n) {j : Fin 4} {i : Nat} {x : Int} (k : Nat) (hd : decode cc pc = .ok (.lload_n j, 1)) (hi : (j : Nat) = i) (hk : L[k]? = some (i, vL x)) (K : WM X (pc + 1) L (vL x :: S) M) : WM X pc L S M :=
  fun a b c H lo ls hP hS hl => lv_lload_n C.1 C.2.1 hd hi (m_at hl k hk) (K a b (c.push (m_cat b hk)) H lo ls hP hS hl)
theorem m_lload (C : Cx X cc own n) {i : Nat} {x : Int} (k : Nat) (hd : decode cc pc = .ok (.lload i, 2)) (hk : L[k]? = some (i, vL x)) (K : WM X (pc + 2) L (vL x :: S) M) : WM X pc L S M :=
  fun a b c H lo ls hP hS hl => lv_lload C.1 C.2.1 hd (m_at hl k hk) (K a b (c.push (m_cat b hk)) H lo ls hP hS hl)
theorem m_lstore_n (C : Cx X cc own n) {j : Fin 4} {i : Nat} {x : Int} {L' : List (Nat × VV)} (hd : decode cc pc = .ok (.lstore_n j, 1)) (hi : (j : Nat) = i) (hn : i + 1 < X.2.2.1.1) (hL : (i, vL x) :: L.filter (fun q => !(q.1 == i) && (!(q.1 == i + 1) && !(q.1 + 1 == i && c2 q.2))) = L') (K : WM X (pc + 1) L' S M) : WM X pc L (vL x :: S) M :=
  fun a b c H lo ls hP hS hl => lv_lstore_n C.1 C.2.1 hd hi hl hn (by rw [m_flt2]) (fun ls' hl' => K a (by rw [← hL]; exact b.set c.hd) c.tl H lo ls' hP hS (by rw [← hL]; exact hl'))
theorem m_lstore (C : Cx X cc own n) {i : Nat} {x : Int} {L' : List (Nat × VV)} (hd : decode cc pc = .ok (.lstore i, 2)) (hn : i + 1 < X.2.2.1.1) (hL : (i, vL x) :: L.filter (fun q => !(q.1 == i) && (!(q.1 == i + 1) && !(q.1 + 1 == i && c2 q.2))) = L') (K : WM X (pc + 2) L' S M) : WM X pc L (vL x :: S) M :=
  fun a b c H lo ls hP hS hl => lv_lstore C.1 C.2.1 hd hl hn (by rw [m_flt2]) (fun ls' hl' => K a (by rw [← hL]; exact b.set c.hd) c.tl H lo ls' hP hS (by rw [← hL]; exact hl'))
theorem m_aload_n (C : Cx X cc own n) {j : Fin 4} {i : Nat} {x : Nat} (k : Nat) (hd : decode cc pc = .ok (.aload_n j, 1)) (hi : (j : Nat) = i) (hk : L[k]? = some (i, vR x)) (K : WM X (pc + 1) L (vR x :: S) M) : WM X pc L S M :=
  fun a b c H lo ls hP hS hl => lv_aload_n C.1 C.2.1 hd hi (m_at hl k hk) (K a b (c.push (m_cat b hk)) H lo ls hP hS hl)
theorem m_aload (C : Cx X cc own n) {i : Nat} {x : Nat} (k : Nat) (hd : decode cc pc = .ok (.aload i, 2)) (hk : L[k]? = some (i, vR x)) (K : WM X (pc + 2) L (vR x :: S) M) : WM X pc L S M :=
  fun a b c H lo ls hP hS hl => lv_aload C.1 C.2.1 hd (m_at hl k hk) (K a b (c.push (m_cat b hk)) H lo ls hP hS hl)
theorem m_astore_n (C : Cx X cc own n) {j : Fin 4} {i : Nat} {x : Nat} {L' : List (Nat × VV)} (hd : decode cc pc = .ok (.astore_n j, 1)) (hi : (j : Nat) = i) (hn : i < X.2.2.1.1) (hL : (i, vR x) :: L.filter (fun q => !(q.1 == i) && !(q.1 + 1 == i && c2 q.2)) = L') (K : WM X (pc + 1) L' S M) : WM X pc L (vR x :: S) M :=
  fun a b c H lo ls hP hS hl => lv_astore_n C.1 C.2.1 hd hi hl hn (by rw [m_flt]) (fun ls' hl' => K a (by rw [← hL]; exact b.set c.hd) c.tl H lo ls' hP hS (by rw [← hL]; exact hl'))
theorem m_astore (C : Cx X cc own n) {i : Nat} {x : Nat} {L' : List (Nat × VV)} (hd : decode cc pc = .ok (.astore i, 2)) (hn : i < X.2.2.1.1) (hL : (i, vR x) :: L.filter (fun q => !(q.1 == i) && !(q.1 + 1 == i && c2 q.2)) = L') (K : WM X (pc + 2) L' S M) : WM X pc L (vR x :: S) M :=
  fun a b c H lo ls hP hS hl => lv_astore C.1 C.2.1 hd hl hn (by rw [m_flt]) (fun ls' hl' => K a (by rw [← hL]; exact b.set c.hd) c.tl H lo ls' hP hS (by rw [← hL]; exact hl'))
theorem m_iinc (C : Cx X cc own n) {i : Nat} {v x : Int} {L' : List (Nat × VV)} (k : Nat) (hd : decode cc pc = .ok (.iinc i v, 3)) (hk : L[k]? = some (i, vI x)) (hn : i < X.2.2.1.1) (hL : (i, vI (w32 (x + v))) :: L.filter (fun q => !(q.1 == i) && !(q.1 + 1 == i && c2 q.2)) = L') (K : WM X (pc + 3) L' S M) : WM X pc L S M :=
  fun a b c H lo ls hP hS hl => lv_iinc (v := Int32.ofInt (w32 (x + v))) (k := k) C.1 C.2.1 hd hl (by rw [List.getElem?_map, hk]; rfl) (by rw [iN_w, Int32.ofInt_add]) hn (by rw [m_flt]) (fun ls' hl' => K a (by rw [← hL]; exact b.set (w32_r _)) c H lo ls' hP hS (by rw [← hL]; exact hl'))
theorem m_iadd (C : Cx X cc own n) {x y : Int} (hd : decode cc pc = .ok (.iadd, 1)) (K : WM X (pc + 1) L (vI (w32 (x + y)) :: S) M) : WM X pc L (vI y :: vI x :: S) M :=
  fun a b c H lo ls hP hS hl => lv_iadd C.1 C.2.1 hd (by have h := K a b (c.tl.tl.push (w32_r _)) H lo ls hP hS hl; rw [List.map_cons, show tv X.2.2.2 (vI (w32 (x + y))) = .int (Int32.ofInt (w32 (x + y))) from rfl, iN_w, Int32.ofInt_add] at h; exact h)
theorem m_isub (C : Cx X cc own n) {x y : Int} (hd : decode cc pc = .ok (.isub, 1)) (K : WM X (pc + 1) L (vI (w32 (x - y)) :: S) M) : WM X pc L (vI y :: vI x :: S) M :=
  fun a b c H lo ls hP hS hl => lv_isub C.1 C.2.1 hd (by have h := K a b (c.tl.tl.push (w32_r _)) H lo ls hP hS hl; rw [List.map_cons, show tv X.2.2.2 (vI (w32 (x - y))) = .int (Int32.ofInt (w32 (x - y))) from rfl, iN_w, Int32.ofInt_sub] at h; exact h)
theorem m_imul (C : Cx X cc own n) {x y : Int} (hd : decode cc pc = .ok (.imul, 1)) (K : WM X (pc + 1) L (vI (w32 (x * y)) :: S) M) : WM X pc L (vI y :: vI x :: S) M :=
  fun a b c H lo ls hP hS hl => lv_imul C.1 C.2.1 hd (by have h := K a b (c.tl.tl.push (w32_r _)) H lo ls hP hS hl; rw [List.map_cons, show tv X.2.2.2 (vI (w32 (x * y))) = .int (Int32.ofInt (w32 (x * y))) from rfl, iN_w, Int32.ofInt_mul] at h; exact h)
theorem m_ishl (C : Cx X cc own n) {x y : Int} (hd : decode cc pc = .ok (.ishl, 1)) (K : WM X (pc + 1) L (vI (sh_l x y) :: S) M) : WM X pc L (vI y :: vI x :: S) M :=
  fun a b c H lo ls hP hS hl => lv_ishl C.1 C.2.1 hd (by have h := K a b (c.tl.tl.push (iN_r _)) H lo ls hP hS hl; rw [List.map_cons, show tv X.2.2.2 (vI (sh_l x y)) = .int (Int32.ofInt (sh_l x y)) from rfl, sh_l, Int32.ofInt_toInt] at h; exact h)
theorem m_ishr (C : Cx X cc own n) {x y : Int} (hd : decode cc pc = .ok (.ishr, 1)) (K : WM X (pc + 1) L (vI (sh_r x y) :: S) M) : WM X pc L (vI y :: vI x :: S) M :=
  fun a b c H lo ls hP hS hl => lv_ishr C.1 C.2.1 hd (by have h := K a b (c.tl.tl.push (iN_r _)) H lo ls hP hS hl; rw [List.map_cons, show tv X.2.2.2 (vI (sh_r x y)) = .int (Int32.ofInt (sh_r x y)) from rfl, sh_r, Int32.ofInt_toInt] at h; exact h)
theorem m_iand (C : Cx X cc own n) {x y : Int} (hd : decode cc pc = .ok (.iand, 1)) (K : WM X (pc + 1) L (vI (an_d x y) :: S) M) : WM X pc L (vI y :: vI x :: S) M :=
  fun a b c H lo ls hP hS hl => lv_iand C.1 C.2.1 hd (by have h := K a b (c.tl.tl.push (iN_r _)) H lo ls hP hS hl; rw [List.map_cons, show tv X.2.2.2 (vI (an_d x y)) = .int (Int32.ofInt (an_d x y)) from rfl, an_d, Int32.ofInt_toInt] at h; exact h)
theorem m_ior (C : Cx X cc own n) {x y : Int} (hd : decode cc pc = .ok (.ior, 1)) (K : WM X (pc + 1) L (vI (o_r x y) :: S) M) : WM X pc L (vI y :: vI x :: S) M :=
  fun a b c H lo ls hP hS hl => lv_ior C.1 C.2.1 hd (by have h := K a b (c.tl.tl.push (iN_r _)) H lo ls hP hS hl; rw [List.map_cons, show tv X.2.2.2 (vI (o_r x y)) = .int (Int32.ofInt (o_r x y)) from rfl, o_r, Int32.ofInt_toInt] at h; exact h)
theorem m_ixor (C : Cx X cc own n) {x y : Int} (hd : decode cc pc = .ok (.ixor, 1)) (K : WM X (pc + 1) L (vI (x_r x y) :: S) M) : WM X pc L (vI y :: vI x :: S) M :=
  fun a b c H lo ls hP hS hl => lv_ixor C.1 C.2.1 hd (by have h := K a b (c.tl.tl.push (iN_r _)) H lo ls hP hS hl; rw [List.map_cons, show tv X.2.2.2 (vI (x_r x y)) = .int (Int32.ofInt (x_r x y)) from rfl, x_r, Int32.ofInt_toInt] at h; exact h)
theorem m_iushr (C : Cx X cc own n) {x y : Int} (hd : decode cc pc = .ok (.iushr, 1)) (K : WM X (pc + 1) L (vI (us_r x y) :: S) M) : WM X pc L (vI y :: vI x :: S) M :=
  fun a b c H lo ls hP hS hl => lv_iushr C.1 C.2.1 hd (by rw [us_r, Int32.ofInt_toInt]) (K a b (c.tl.tl.push (iN_r _)) H lo ls hP hS hl)
theorem m_ineg (C : Cx X cc own n) {x : Int} (hd : decode cc pc = .ok (.ineg, 1)) (K : WM X (pc + 1) L (vI (w32 (-x)) :: S) M) : WM X pc L (vI x :: S) M :=
  fun a b c H lo ls hP hS hl => lv_ineg C.1 C.2.1 hd (by have h := K a b (c.tl.push (w32_r _)) H lo ls hP hS hl; rw [List.map_cons, show tv X.2.2.2 (vI (w32 (-x))) = .int (Int32.ofInt (w32 (-x))) from rfl, iN_w, Int32.ofInt_neg] at h; exact h)
theorem m_idiv (C : Cx X cc own n) {x y : Int} (hd : decode cc pc = .ok (.idiv, 1)) (h0 : y ≠ 0) (K : WM X (pc + 1) L (vI (w32 (x.tdiv y)) :: S) M) : WM X pc L (vI y :: vI x :: S) M :=
  fun a b c H lo ls hP hS hl => lv_idiv C.1 C.2.1 hd (fun e => h0 ((iN_eq c.hd r32_0).mp e)) (by have h := K a b (c.tl.tl.push (w32_r _)) H lo ls hP hS hl; rw [List.map_cons, show tv X.2.2.2 (vI (w32 (x.tdiv y))) = .int (Int32.ofInt (w32 (x.tdiv y))) from rfl, ← i_div c.tl.hd c.hd] at h; exact h)
theorem m_irem (C : Cx X cc own n) {x y : Int} (hd : decode cc pc = .ok (.irem, 1)) (h0 : y ≠ 0) (K : WM X (pc + 1) L (vI (x.tmod y) :: S) M) : WM X pc L (vI y :: vI x :: S) M :=
  fun a b c H lo ls hP hS hl => lv_irem C.1 C.2.1 hd (fun e => h0 ((iN_eq c.hd r32_0).mp e)) (by have h := K a b (c.tl.tl.push (tmod_r c.tl.hd c.hd)) H lo ls hP hS hl; rw [List.map_cons, show tv X.2.2.2 (vI (x.tmod y)) = .int (Int32.ofInt (x.tmod y)) from rfl, ← i_rem c.tl.hd c.hd] at h; exact h)
theorem m_ladd (C : Cx X cc own n) {x y : Int} (hd : decode cc pc = .ok (.ladd, 1)) (K : WM X (pc + 1) L (vL (w64 (x + y)) :: S) M) : WM X pc L (vL y :: vL x :: S) M :=
  fun a b c H lo ls hP hS hl => lv_ladd C.1 C.2.1 hd (by have h := K a b (c.tl.tl.push (w64_r _)) H lo ls hP hS hl; rw [List.map_cons, show tv X.2.2.2 (vL (w64 (x + y))) = .long (Int64.ofInt (w64 (x + y))) from rfl, lN_w, Int64.ofInt_add] at h; exact h)
theorem m_lsub (C : Cx X cc own n) {x y : Int} (hd : decode cc pc = .ok (.lsub, 1)) (K : WM X (pc + 1) L (vL (w64 (x - y)) :: S) M) : WM X pc L (vL y :: vL x :: S) M :=
  fun a b c H lo ls hP hS hl => lv_lsub C.1 C.2.1 hd (by have h := K a b (c.tl.tl.push (w64_r _)) H lo ls hP hS hl; rw [List.map_cons, show tv X.2.2.2 (vL (w64 (x - y))) = .long (Int64.ofInt (w64 (x - y))) from rfl, lN_w, Int64.ofInt_sub] at h; exact h)
theorem m_lmul (C : Cx X cc own n) {x y : Int} (hd : decode cc pc = .ok (.lmul, 1)) (K : WM X (pc + 1) L (vL (w64 (x * y)) :: S) M) : WM X pc L (vL y :: vL x :: S) M :=
  fun a b c H lo ls hP hS hl => lv_lmul C.1 C.2.1 hd (by have h := K a b (c.tl.tl.push (w64_r _)) H lo ls hP hS hl; rw [List.map_cons, show tv X.2.2.2 (vL (w64 (x * y))) = .long (Int64.ofInt (w64 (x * y))) from rfl, lN_w, Int64.ofInt_mul] at h; exact h)
theorem m_ldiv (C : Cx X cc own n) {x y : Int} (hd : decode cc pc = .ok (.ldiv, 1)) (h0 : y ≠ 0) (K : WM X (pc + 1) L (vL (w64 (x.tdiv y)) :: S) M) : WM X pc L (vL y :: vL x :: S) M :=
  fun a b c H lo ls hP hS hl => lv_ldiv C.1 C.2.1 hd (fun e => h0 ((lN_eq' c.hd (r32_64 r32_0)).mp e)) (by have h := K a b (c.tl.tl.push (w64_r _)) H lo ls hP hS hl; rw [List.map_cons, show tv X.2.2.2 (vL (w64 (x.tdiv y))) = .long (Int64.ofInt (w64 (x.tdiv y))) from rfl, ← l_div c.tl.hd c.hd] at h; exact h)
theorem m_lrem (C : Cx X cc own n) {x y : Int} (hd : decode cc pc = .ok (.lrem, 1)) (h0 : y ≠ 0) (K : WM X (pc + 1) L (vL (x.tmod y) :: S) M) : WM X pc L (vL y :: vL x :: S) M :=
  fun a b c H lo ls hP hS hl => lv_lrem C.1 C.2.1 hd (fun e => h0 ((lN_eq' c.hd (r32_64 r32_0)).mp e)) (by have h := K a b (c.tl.tl.push (tmod_r64 c.tl.hd c.hd)) H lo ls hP hS hl; rw [List.map_cons, show tv X.2.2.2 (vL (x.tmod y)) = .long (Int64.ofInt (x.tmod y)) from rfl, ← l_rem c.tl.hd c.hd] at h; exact h)
theorem m_lcmp (C : Cx X cc own n) {x y : Int} (hd : decode cc pc = .ok (.lcmp, 1)) (K : WM X (pc + 1) L (vI (l_c x y) :: S) M) : WM X pc L (vL y :: vL x :: S) M :=
  fun a b c H lo ls hP hS hl => W.lcmp C.1 C.2.1 hd (by have h := K a b (c.tl.tl.push (l_c_r _ _)) H lo ls hP hS hl; rw [List.map_cons, show tv X.2.2.2 (vI (l_c x y)) = .int (Int32.ofInt (l_c x y)) from rfl, ← l_c_lg c.tl.hd c.hd] at h; exact h)
theorem m_i2l (C : Cx X cc own n) {x : Int} (hd : decode cc pc = .ok (.i2l, 1)) (K : WM X (pc + 1) L (vL x :: S) M) : WM X pc L (vI x :: S) M :=
  fun a b c H lo ls hP hS hl => lv_i2l C.1 C.2.1 hd (i_2l c.hd) (K a b (c.tl.push (r32_64 c.hd)) H lo ls hP hS hl)
theorem m_l2i (C : Cx X cc own n) {x : Int} (hd : decode cc pc = .ok (.l2i, 1)) (K : WM X (pc + 1) L (vI (w32 x) :: S) M) : WM X pc L (vL x :: S) M :=
  fun a b c H lo ls hP hS hl => lv_l2i C.1 C.2.1 hd (l_2i c.hd) (K a b (c.tl.push (w32_r _)) H lo ls hP hS hl)
theorem m_i2b (C : Cx X cc own n) {x : Int} (hd : decode cc pc = .ok (.i2b, 1)) (K : WM X (pc + 1) L (vI (t_b x) :: S) M) : WM X pc L (vI x :: S) M :=
  fun a b c H lo ls hP hS hl => lv_i2b C.1 C.2.1 hd (by rw [t_b, Int32.ofInt_toInt]) (K a b (c.tl.push (iN_r _)) H lo ls hP hS hl)
theorem m_i2s (C : Cx X cc own n) {x : Int} (hd : decode cc pc = .ok (.i2s, 1)) (K : WM X (pc + 1) L (vI (t_s x) :: S) M) : WM X pc L (vI x :: S) M :=
  fun a b c H lo ls hP hS hl => lv_i2s C.1 C.2.1 hd (by rw [t_s, Int32.ofInt_toInt]) (K a b (c.tl.push (iN_r _)) H lo ls hP hS hl)
theorem m_dupI (C : Cx X cc own n) {x : Int} (hd : decode cc pc = .ok (.dup, 1)) (K : WM X (pc + 1) L (vI x :: vI x :: S) M) : WM X pc L (vI x :: S) M :=
  fun a b c H lo ls hP hS hl => lv_dup C.1 C.2.1 hd rfl (K a b (c.push c.hd) H lo ls hP hS hl)
theorem m_dupR (C : Cx X cc own n) {x : Nat} (hd : decode cc pc = .ok (.dup, 1)) (K : WM X (pc + 1) L (vR x :: vR x :: S) M) : WM X pc L (vR x :: S) M :=
  fun a b c H lo ls hP hS hl => lv_dup C.1 C.2.1 hd rfl (K a b (c.push c.hd) H lo ls hP hS hl)
theorem m_popI (C : Cx X cc own n) {x : Int} (hd : decode cc pc = .ok (.pop, 1)) (K : WM X (pc + 1) L S M) : WM X pc L (vI x :: S) M :=
  fun a b c H lo ls hP hS hl => lv_pop C.1 C.2.1 hd rfl (K a b c.tl H lo ls hP hS hl)
theorem m_dup2 (C : Cx X cc own n) {x : Int} {o : Nat} (hd : decode cc pc = .ok (.dup2, 1)) (K : WM X (pc + 1) L (vI x :: vR o :: vI x :: vR o :: S) M) : WM X pc L (vI x :: vR o :: S) M :=
  fun a b c H lo ls hP hS hl => lv_dup2_11 C.1 C.2.1 hd rfl rfl (K a b ((c.push c.tl.hd).push c.hd) H lo ls hP hS hl)
theorem m_goto (C : Cx X cc own n) {off : Int} {tgt : Nat} (hd : decode cc pc = .ok (.goto off, 3)) (ht : (pc : Int) + off = (tgt : Int)) (K : WM X tgt L S M) : WM X pc L S M :=
  fun a b c H lo ls hP hS hl => lv_goto C.1 C.2.1 hd ht (K a b c H lo ls hP hS hl)
theorem m_icmp_eq (C : Cx X cc own n) {x y off : Int} {tgt : Nat} (hd : decode cc pc = .ok (.if_icmp .eq off, 3)) (ht : (pc : Int) + off = (tgt : Int)) (Kt : x = y → WM X tgt L S M) (Kf : ¬ x = y → WM X (pc + 3) L S M) : WM X pc L (vI y :: vI x :: S) M :=
  fun a b c H lo ls hP hS hl => lv_icmp_eq C.1 C.2.1 hd ht (fun e => Kt ((iN_eq c.tl.hd c.hd).mp e) a b c.tl.tl H lo ls hP hS hl) (fun e => Kf (fun h => e ((iN_eq c.tl.hd c.hd).mpr h)) a b c.tl.tl H lo ls hP hS hl)
theorem m_icmp_ne (C : Cx X cc own n) {x y off : Int} {tgt : Nat} (hd : decode cc pc = .ok (.if_icmp .ne off, 3)) (ht : (pc : Int) + off = (tgt : Int)) (Kt : ¬ x = y → WM X tgt L S M) (Kf : x = y → WM X (pc + 3) L S M) : WM X pc L (vI y :: vI x :: S) M :=
  fun a b c H lo ls hP hS hl => lv_icmp_ne C.1 C.2.1 hd ht (fun e => Kt (fun h => e ((iN_eq c.tl.hd c.hd).mpr h)) a b c.tl.tl H lo ls hP hS hl) (fun e => Kf ((iN_eq c.tl.hd c.hd).mp e) a b c.tl.tl H lo ls hP hS hl)
theorem m_icmp_lt (C : Cx X cc own n) {x y off : Int} {tgt : Nat} (hd : decode cc pc = .ok (.if_icmp .lt off, 3)) (ht : (pc : Int) + off = (tgt : Int)) (Kt : x < y → WM X tgt L S M) (Kf : ¬ x < y → WM X (pc + 3) L S M) : WM X pc L (vI y :: vI x :: S) M :=
  fun a b c H lo ls hP hS hl => lv_icmp_lt C.1 C.2.1 hd ht (fun e => Kt ((iN_lt c.tl.hd c.hd).mp e) a b c.tl.tl H lo ls hP hS hl) (fun e => Kf (fun h => e ((iN_lt c.tl.hd c.hd).mpr h)) a b c.tl.tl H lo ls hP hS hl)
theorem m_icmp_ge (C : Cx X cc own n) {x y off : Int} {tgt : Nat} (hd : decode cc pc = .ok (.if_icmp .ge off, 3)) (ht : (pc : Int) + off = (tgt : Int)) (Kt : y ≤ x → WM X tgt L S M) (Kf : ¬ y ≤ x → WM X (pc + 3) L S M) : WM X pc L (vI y :: vI x :: S) M :=
  fun a b c H lo ls hP hS hl => lv_icmp_ge C.1 C.2.1 hd ht (fun e => Kt ((iN_le c.hd c.tl.hd).mp e) a b c.tl.tl H lo ls hP hS hl) (fun e => Kf (fun h => e ((iN_le c.hd c.tl.hd).mpr h)) a b c.tl.tl H lo ls hP hS hl)
theorem m_icmp_gt (C : Cx X cc own n) {x y off : Int} {tgt : Nat} (hd : decode cc pc = .ok (.if_icmp .gt off, 3)) (ht : (pc : Int) + off = (tgt : Int)) (Kt : y < x → WM X tgt L S M) (Kf : ¬ y < x → WM X (pc + 3) L S M) : WM X pc L (vI y :: vI x :: S) M :=
  fun a b c H lo ls hP hS hl => lv_icmp_gt C.1 C.2.1 hd ht (fun e => Kt ((iN_lt c.hd c.tl.hd).mp e) a b c.tl.tl H lo ls hP hS hl) (fun e => Kf (fun h => e ((iN_lt c.hd c.tl.hd).mpr h)) a b c.tl.tl H lo ls hP hS hl)
theorem m_icmp_le (C : Cx X cc own n) {x y off : Int} {tgt : Nat} (hd : decode cc pc = .ok (.if_icmp .le off, 3)) (ht : (pc : Int) + off = (tgt : Int)) (Kt : x ≤ y → WM X tgt L S M) (Kf : ¬ x ≤ y → WM X (pc + 3) L S M) : WM X pc L (vI y :: vI x :: S) M :=
  fun a b c H lo ls hP hS hl => lv_icmp_le C.1 C.2.1 hd ht (fun e => Kt ((iN_le c.tl.hd c.hd).mp e) a b c.tl.tl H lo ls hP hS hl) (fun e => Kf (fun h => e ((iN_le c.tl.hd c.hd).mpr h)) a b c.tl.tl H lo ls hP hS hl)
theorem m_if_eq (C : Cx X cc own n) {x off : Int} {tgt : Nat} (hd : decode cc pc = .ok (.ifCond .eq off, 3)) (ht : (pc : Int) + off = (tgt : Int)) (Kt : x = 0 → WM X tgt L S M) (Kf : ¬ x = 0 → WM X (pc + 3) L S M) : WM X pc L (vI x :: S) M :=
  fun a b c H lo ls hP hS hl => lv_if_eq C.1 C.2.1 hd ht (fun e => Kt ((iN_eq c.hd r32_0).mp e) a b c.tl H lo ls hP hS hl) (fun e => Kf (fun h => e ((iN_eq c.hd r32_0).mpr h)) a b c.tl H lo ls hP hS hl)
theorem m_if_ne (C : Cx X cc own n) {x off : Int} {tgt : Nat} (hd : decode cc pc = .ok (.ifCond .ne off, 3)) (ht : (pc : Int) + off = (tgt : Int)) (Kt : ¬ x = 0 → WM X tgt L S M) (Kf : x = 0 → WM X (pc + 3) L S M) : WM X pc L (vI x :: S) M :=
  fun a b c H lo ls hP hS hl => lv_if_ne C.1 C.2.1 hd ht (fun e => Kt (fun h => e ((iN_eq c.hd r32_0).mpr h)) a b c.tl H lo ls hP hS hl) (fun e => Kf ((iN_eq c.hd r32_0).mp e) a b c.tl H lo ls hP hS hl)
theorem m_if_lt (C : Cx X cc own n) {x off : Int} {tgt : Nat} (hd : decode cc pc = .ok (.ifCond .lt off, 3)) (ht : (pc : Int) + off = (tgt : Int)) (Kt : x < 0 → WM X tgt L S M) (Kf : ¬ x < 0 → WM X (pc + 3) L S M) : WM X pc L (vI x :: S) M :=
  fun a b c H lo ls hP hS hl => lv_if_lt C.1 C.2.1 hd ht (fun e => Kt ((iN_lt c.hd r32_0).mp e) a b c.tl H lo ls hP hS hl) (fun e => Kf (fun h => e ((iN_lt c.hd r32_0).mpr h)) a b c.tl H lo ls hP hS hl)
theorem m_if_ge (C : Cx X cc own n) {x off : Int} {tgt : Nat} (hd : decode cc pc = .ok (.ifCond .ge off, 3)) (ht : (pc : Int) + off = (tgt : Int)) (Kt : 0 ≤ x → WM X tgt L S M) (Kf : ¬ 0 ≤ x → WM X (pc + 3) L S M) : WM X pc L (vI x :: S) M :=
  fun a b c H lo ls hP hS hl => lv_if_ge C.1 C.2.1 hd ht (fun e => Kt ((iN_le r32_0 c.hd).mp e) a b c.tl H lo ls hP hS hl) (fun e => Kf (fun h => e ((iN_le r32_0 c.hd).mpr h)) a b c.tl H lo ls hP hS hl)
theorem m_if_gt (C : Cx X cc own n) {x off : Int} {tgt : Nat} (hd : decode cc pc = .ok (.ifCond .gt off, 3)) (ht : (pc : Int) + off = (tgt : Int)) (Kt : 0 < x → WM X tgt L S M) (Kf : ¬ 0 < x → WM X (pc + 3) L S M) : WM X pc L (vI x :: S) M :=
  fun a b c H lo ls hP hS hl => lv_if_gt C.1 C.2.1 hd ht (fun e => Kt ((iN_lt r32_0 c.hd).mp e) a b c.tl H lo ls hP hS hl) (fun e => Kf (fun h => e ((iN_lt r32_0 c.hd).mpr h)) a b c.tl H lo ls hP hS hl)
theorem m_if_le (C : Cx X cc own n) {x off : Int} {tgt : Nat} (hd : decode cc pc = .ok (.ifCond .le off, 3)) (ht : (pc : Int) + off = (tgt : Int)) (Kt : x ≤ 0 → WM X tgt L S M) (Kf : ¬ x ≤ 0 → WM X (pc + 3) L S M) : WM X pc L (vI x :: S) M :=
  fun a b c H lo ls hP hS hl => lv_if_le C.1 C.2.1 hd ht (fun e => Kt ((iN_le c.hd r32_0).mp e) a b c.tl H lo ls hP hS hl) (fun e => Kf (fun h => e ((iN_le c.hd r32_0).mpr h)) a b c.tl H lo ls hP hS hl)
theorem m_tabO (C : Cx X cc own n) {dflt lo hi x : Int} {offs : Array Int} {len tgt : Nat} (hd : decode cc pc = .ok (.tableswitch dflt lo hi offs, len)) (h : x < lo ∨ hi < x) (ht : (pc : Int) + dflt = (tgt : Int)) (K : WM X tgt L S M) : WM X pc L (vI x :: S) M :=
  fun a b c H lo ls hP hS hl => lv_tableOut C.1 C.2.1 hd (by rw [iN_t c.hd]; exact h) ht (K a b c.tl H lo ls hP hS hl)
theorem m_tabI (C : Cx X cc own n) {dflt lo hi x off : Int} {offs : Array Int} {len tgt : Nat} (hd : decode cc pc = .ok (.tableswitch dflt lo hi offs, len)) (h1 : ¬ x < lo) (h2 : ¬ hi < x) (ho : offs[(x - lo).toNat]? = some off) (ht : (pc : Int) + off = (tgt : Int)) (K : WM X tgt L S M) : WM X pc L (vI x :: S) M :=
  fun a b c H lo ls hP hS hl => lv_tableIn C.1 C.2.1 hd (by rw [iN_t c.hd]; exact h1) (by rw [iN_t c.hd]; exact h2) (by rw [iN_t c.hd]; exact ho) ht (K a b c.tl H lo ls hP hS hl)
theorem m_lkp (C : Cx X cc own n) {dflt x off : Int} {ps : Array (Int × Int)} {len tgt : Nat} (hd : decode cc pc = .ok (.lookupswitch dflt ps, len)) (hp : (ps.toList.zip (ps.toList.drop 1)).all (fun (a, next) => a.1 < next.1) = true) (ho : Op.lookupswitch.offset ps.toList dflt x = off) (ht : (pc : Int) + off = (tgt : Int)) (K : WM X tgt L S M) : WM X pc L (vI x :: S) M :=
  fun a b c H lo ls hP hS hl => lv_lookup C.1 C.2.1 hd hp (by rw [iN_t c.hd]; exact ho) ht (K a b c.tl H lo ls hP hS hl)
-- fields
/-- class number ci, its words -/
def clOk (ci : Nat) (C : String) (T : u_T) (N : Nat) (ty : Nat → FieldType) : Prop := mm_cl[ci]? = some (C, T, N) ∧ (∀ w ∈ u_ws C T N, w ∈ gd_tbl) ∧ (∀ k, k < N → parseFieldDescriptor (T k).2.2.1 = some (ty k)) ∧ (∀ a, a < N → ∀ b, b < N → a ≠ b → (T a).2.1 ≠ (T b).2.1)
/-- a field's link: of its own class, or of a nest mate -/
def fLk (own : String) (index : Nat) (q : String × String × String × Bool) : Prop := Cond.fieldLink own index q.1 q.2.1 q.2.2.1 ∈ gd_tbl ∨ ∃ host, Cond.fieldLinkNest own index q.1 q.2.1 q.2.2.1 host ∈ nst_tbl
theorem m_getV (C : Cx X cc own n) {o k ci N index d : Nat} {fds : List Nat} {CN : String} {T : u_T} {ty : Nat → FieldType} {v : VV} (hc : clOk ci CN T N ty) (hk : k < N) (ho : shp[o]? = some (.inl (ci, fds))) (hf : fds[k]? = some d) (hv : fv X.2.2.2 M o k d = tv X.2.2.2 v) (hcv : Can M → cV v) (hlk : fLk own index (T k)) (hd : decode cc pc = .ok (.getfield index, 3)) (K : WM X (pc + 3) L (v :: S) M) : WM X pc L (vR o :: S) M := by
  intro a b c H lo ls hP hS hl
  have hfs : (fds.mapIdx (fun k d => fv X.2.2.2 M o k d))[k]? = some (tv X.2.2.2 v) := by rw [List.getElem?_mapIdx, hf]; exact congrArg some hv
  rcases hlk with h | ⟨host, h⟩
  · exact va_get C.1 C.2.1 (C.2.2.2.2.1) hc.2.1 C.2.2.2.1 C.2.2.2.2.2.1.1 hP o (wld_at ho) hc.1 k hk (C.2.2.2.2.1 _ h) (fun _ h => h) hfs hd (K a b (c.tl.push (hcv a)) H lo ls hP hS hl)
  · exact va_getN C.1 C.2.1 (C.2.2.2.2.1) hc.2.1 C.2.2.2.1 C.2.2.2.2.2.1.1 hP o (wld_at ho) hc.1 k hk (va_Nw.use rfl (C.2.2.2.2.2.1.2.1 _ h)) (fun _ h => h) hfs hd (K a b (c.tl.push (hcv a)) H lo ls hP hS hl)
theorem m_getI (C : Cx X cc own n) {o k ci N index : Nat} {fds : List Nat} {CN : String} {T : u_T} {ty : Nat → FieldType} (hc : clOk ci CN T N ty) (hk : k < N) (ho : shp[o]? = some (.inl (ci, fds))) (hf : fds[k]? = some 0) (hlk : fLk own index (T k)) (hd : decode cc pc = .ok (.getfield index, 3)) (K : WM X (pc + 3) L (vI (M o k) :: S) M) : WM X pc L (vR o :: S) M := m_getV (v := vI (M o k)) C hc hk ho hf rfl (fun a => a o k) hlk hd K
theorem m_getZ (C : Cx X cc own n) {o k ci N index : Nat} {fds : List Nat} {CN : String} {T : u_T} {ty : Nat → FieldType} (hc : clOk ci CN T N ty) (hk : k < N) (ho : shp[o]? = some (.inl (ci, fds))) (hf : fds[k]? = some 2) (hlk : fLk own index (T k)) (hd : decode cc pc = .ok (.getfield index, 3)) (K : WM X (pc + 3) L (vI (M o k) :: S) M) : WM X pc L (vR o :: S) M := m_getV (v := vI (M o k)) C hc hk ho hf rfl (fun a => a o k) hlk hd K
theorem m_getL (C : Cx X cc own n) {o k ci N index : Nat} {fds : List Nat} {CN : String} {T : u_T} {ty : Nat → FieldType} (hc : clOk ci CN T N ty) (hk : k < N) (ho : shp[o]? = some (.inl (ci, fds))) (hf : fds[k]? = some 1) (hlk : fLk own index (T k)) (hd : decode cc pc = .ok (.getfield index, 3)) (K : WM X (pc + 3) L (vL (M o k) :: S) M) : WM X pc L (vR o :: S) M := m_getV (v := vL (M o k)) C hc hk ho hf rfl (fun a => r32_64 (a o k)) hlk hd K
theorem m_getR (C : Cx X cc own n) {o k ci N index p : Nat} {fds : List Nat} {CN : String} {T : u_T} {ty : Nat → FieldType} (hc : clOk ci CN T N ty) (hk : k < N) (ho : shp[o]? = some (.inl (ci, fds))) (hf : fds[k]? = some (p + 3)) (hlk : fLk own index (T k)) (hd : decode cc pc = .ok (.getfield index, 3)) (K : WM X (pc + 3) L (vR p :: S) M) : WM X pc L (vR o :: S) M := m_getV (v := vR p) C hc hk ho hf rfl (fun _ => trivial) hlk hd K
theorem m_putV (C : Cx X cc own n) {o k ci N index d : Nat} {fds : List Nat} {CN : String} {T : u_T} {ty : Nat → FieldType} {v : VV} {x : Int} (hc : clOk ci CN T N ty) (hk : k < N) (ho : shp[o]? = some (.inl (ci, fds))) (hf : fds[k]? = some d) (hfin : (T k).2.2.2 = false) (hv : ∀ M' : Mem, M' o k = x → fv X.2.2.2 M' o k d = tv X.2.2.2 v) (hn : narrow (ty k) (tv X.2.2.2 v) = tv X.2.2.2 v) (hfit : fits (ty k) (tv X.2.2.2 v) = true) (hr : cV v → r32 x) (hlk : fLk own index (T k)) (hd : decode cc pc = .ok (.putfield index, 3)) (K : WM X (pc + 3) L S (up M o k x)) : WM X pc L (v :: vR o :: S) M := by
  intro a b c H lo ls hP hS hl
  have hlen : k < (fds.mapIdx (fun k d => fv X.2.2.2 M o k d)).length := by rw [List.length_mapIdx]; exact (List.getElem?_eq_some_iff.mp hf).1
  have hset : (wld X.2.2.2 M).set o (X.2.2.2.2.1 o, .inr (ci, (fds.mapIdx (fun k d => fv X.2.2.2 M o k d)).set k (tv X.2.2.2 v))) = wld X.2.2.2 (up M o k x) := by
    refine wld_set ho ?_ (fun o' k' h => by unfold Jvm.Pilot.@@N@@.up; rw [if_neg (fun q => h q.1)])
    show Sum.inr (ci, _) = Sum.inr (ci, _)
    congr 2
    apply List.ext_getElem?
    intro j
    rw [List.getElem?_mapIdx]
    by_cases hj : j = k
    · subst hj
      rw [List.getElem?_set_self hlen, hf]
      exact congrArg some (hv _ (by unfold Jvm.Pilot.@@N@@.up; rw [if_pos ⟨rfl, rfl⟩]))
    · rw [List.getElem?_set_ne (Ne.symm hj), List.getElem?_mapIdx]
      congr 1
      funext d'
      have e : up M o k x o j = M o j := by unfold Jvm.Pilot.@@N@@.up; rw [if_neg (fun q => hj q.2)]
      show fv X.2.2.2 (up M o k x) o j d' = fv X.2.2.2 M o j d'
      unfold fv
      rw [e]
  have kk : ∀ (H1 : Heap) (locs1 : List Loc), va_P X.2.2.2.1 mm_cl ((wld X.2.2.2 M).set o (X.2.2.2.2.1 o, .inr (ci, (fds.mapIdx (fun k d => fv X.2.2.2 M o k d)).set k (tv X.2.2.2 v)))) H1 → va_D (Ag X.2.2.2) ((wld X.2.2.2 M).set o (X.2.2.2.2.1 o, .inr (ci, (fds.mapIdx (fun k d => fv X.2.2.2 M o k d)).set k (tv X.2.2.2 v)))) → va_S (Ag X.2.2.2) X.1.2.2.2.2.heap H1 locs1 → _ :=
    fun H1 l1 hP1 _ hS1 => K (a.up (hr c.hd)) b c.tl.tl H1 l1 ls (by rw [← hset]; exact hP1) hS1 hl
  rcases hlk with h | ⟨host, h⟩
  · exact va_put C.1 C.2.1 (C.2.2.2.2.1) hc.2.1 ty hc.2.2.1 hc.2.2.2 C.2.2.2.1 C.2.2.2.2.2.1.1 hP (wld_D C.2.2.2.2.2.1.2.2 M) hS o (wld_at ho) hc.1 k hk (C.2.2.2.2.1 _ h) (fun _ h => h) hfin (hc.2.2.1 k hk) hn hfit hlen hd kk
  · exact va_putN C.1 C.2.1 (C.2.2.2.2.1) hc.2.1 ty hc.2.2.1 hc.2.2.2 C.2.2.2.1 C.2.2.2.2.2.1.1 hP (wld_D C.2.2.2.2.2.1.2.2 M) hS o (wld_at ho) hc.1 k hk (va_Nw.use rfl (C.2.2.2.2.2.1.2.1 _ h)) (fun _ h => h) hfin (hc.2.2.1 k hk) hn hfit hlen hd kk
theorem m_putI (C : Cx X cc own n) {o k ci N index : Nat} {fds : List Nat} {CN : String} {T : u_T} {ty : Nat → FieldType} {x : Int} (hc : clOk ci CN T N ty) (hk : k < N) (ho : shp[o]? = some (.inl (ci, fds))) (hf : fds[k]? = some 0) (hfin : (T k).2.2.2 = false) (hty : ty k = .int) (hlk : fLk own index (T k)) (hd : decode cc pc = .ok (.putfield index, 3)) (K : WM X (pc + 3) L S (up M o k x)) : WM X pc L (vI x :: vR o :: S) M :=
  m_putV C hc hk ho hf hfin (fun M' h => by show Value.int _ = Value.int _; rw [h]) (by rw [hty]; rfl) (by rw [hty]; rfl) (fun h => h) hlk hd K
theorem m_putZ (C : Cx X cc own n) {o k ci N index : Nat} {fds : List Nat} {CN : String} {T : u_T} {ty : Nat → FieldType} {x : Int} (hc : clOk ci CN T N ty) (hk : k < N) (ho : shp[o]? = some (.inl (ci, fds))) (hf : fds[k]? = some 2) (hfin : (T k).2.2.2 = false) (hty : ty k = .boolean) (hx : x = 0 ∨ x = 1) (hlk : fLk own index (T k)) (hd : decode cc pc = .ok (.putfield index, 3)) (K : WM X (pc + 3) L S (up M o k x)) : WM X pc L (vI x :: vR o :: S) M :=
  m_putV C hc hk ho hf hfin (fun M' h => by show Value.int _ = Value.int _; rw [h]) (by rw [hty]; rcases hx with rfl | rfl <;> rfl) (by rw [hty]; rcases hx with rfl | rfl <;> rfl) (fun h => h) hlk hd K
theorem m_putL (C : Cx X cc own n) {o k ci N index : Nat} {fds : List Nat} {CN : String} {T : u_T} {ty : Nat → FieldType} {x : Int} (hc : clOk ci CN T N ty) (hk : k < N) (ho : shp[o]? = some (.inl (ci, fds))) (hf : fds[k]? = some 1) (hfin : (T k).2.2.2 = false) (hty : ty k = .long) (hx : r32 x) (hlk : fLk own index (T k)) (hd : decode cc pc = .ok (.putfield index, 3)) (K : WM X (pc + 3) L S (up M o k x)) : WM X pc L (vL x :: vR o :: S) M :=
  m_putV C hc hk ho hf hfin (fun M' h => by show Value.long _ = Value.long _; rw [h]) (by rw [hty]; rfl) (by rw [hty]; rfl) (fun _ => hx) hlk hd K
-- arrays
def isI (o N : Nat) : Prop := shp[o]? = some (.inr (.inl (0, N)))
theorem m_iald (C : Cx X cc own n) {o N : Nat} {i : Int} (ho : isI o N) (hin : 0 ≤ i ∧ i < (N : Int)) (hd : decode cc pc = .ok (.iaload, 1)) (K : WM X (pc + 1) L (vI (M o i.toNat) :: S) M) : WM X pc L (vI i :: vR o :: S) M :=
  fun a b c H lo ls hP hS hl => va_iald C.1 C.2.1 C.2.2.2.2.2.1.1 hP o 0 (wld_at ho) rfl (iN_in c.hd hin) hd (by
    have h := K a b (c.tl.tl.push (a o i.toNat)) H lo ls hP hS hl
    rw [List.map_cons, show tv X.2.2.2 (vI (M o i.toNat)) = .int (Int32.ofInt (M o i.toNat)) from rfl, ← iN_cl c.hd] at h
    exact h)
theorem m_zald (C : Cx X cc own n) {o N : Nat} {i : Int} (ho : shp[o]? = some (.inr (.inl (1, N)))) (hin : 0 ≤ i ∧ i < (N : Int)) (hd : decode cc pc = .ok (.baload, 1)) (K : WM X (pc + 1) L (vI (M o i.toNat) :: S) M) : WM X pc L (vI i :: vR o :: S) M :=
  fun a b c H lo ls hP hS hl => va_zald C.1 C.2.1 C.2.2.2.2.2.1.1 hP o 1 (wld_at ho) rfl (iN_in c.hd hin) hd (by
    have h := K a b (c.tl.tl.push (a o i.toNat)) H lo ls hP hS hl
    rw [List.map_cons, show tv X.2.2.2 (vI (M o i.toNat)) = .int (Int32.ofInt (M o i.toNat)) from rfl, ← iN_cl c.hd] at h
    exact h)
theorem m_upd {g : GX} {M : Mem} {o t N k : Nat} {x : Int} (ho : shp[o]? = some (.inr (.inl (t, N)))) : (wld g M).set o (g.2.1 o, .inl (if t = 0 then g.2.2.1 else g.2.2.2.1, N, .inl (upd (fun j => Int32.ofInt (M o j)) k (Int32.ofInt x)))) = wld g (up M o k x) := by
  refine wld_set ho ?_ (fun o' k' h => by unfold Jvm.Pilot.@@N@@.up; rw [if_neg (fun q => h q.1)])
  show Sum.inl (_, N, Sum.inl _) = Sum.inl (_, N, Sum.inl _)
  congr 3
  congr 1
  funext j
  unfold upd Jvm.Pilot.@@N@@.up
  by_cases hj : j = k
  · subst hj; simp
  · simp [hj]
theorem m_iast (C : Cx X cc own n) {o N : Nat} {i x : Int} (ho : isI o N) (hin : 0 ≤ i ∧ i < (N : Int)) (hd : decode cc pc = .ok (.iastore, 1)) (K : WM X (pc + 1) L S (up M o i.toNat x)) : WM X pc L (vI x :: vI i :: vR o :: S) M :=
  fun a b c H lo ls hP hS hl => va_iast C.1 C.2.1 C.2.2.2.2.2.1.1 hP (wld_D C.2.2.2.2.2.1.2.2 M) hS o 0 (wld_at ho) rfl (iN_in c.tl.hd hin) hd (fun H1 l1 hP1 _ hS1 => K (a.up c.hd) b c.tl.tl.tl H1 l1 ls (by
    rw [iN_cl c.tl.hd] at hP1
    exact (m_upd (g := X.2.2.2) (M := M) (k := i.toNat) (x := x) ho) ▸ hP1) hS1 hl)
theorem m_zast (C : Cx X cc own n) {o N : Nat} {i x : Int} (ho : shp[o]? = some (.inr (.inl (1, N)))) (hin : 0 ≤ i ∧ i < (N : Int)) (hx : x = 0 ∨ x = 1) (hd : decode cc pc = .ok (.bastore, 1)) (K : WM X (pc + 1) L S (up M o i.toNat x)) : WM X pc L (vI x :: vI i :: vR o :: S) M :=
  fun a b c H lo ls hP hS hl => va_zast C.1 C.2.1 C.2.2.2.2.2.1.1 hP (wld_D C.2.2.2.2.2.1.2.2 M) hS o 1 (wld_at ho) rfl (iN_in c.tl.hd hin) hd (fun H1 l1 hP1 _ hS1 => K (a.up c.hd) b c.tl.tl.tl H1 l1 ls (by
    rw [iN_cl c.tl.hd, show vp_nar .boolean (Int32.ofInt x) = Int32.ofInt x by rcases hx with rfl | rfl <;> rfl] at hP1
    exact (m_upd (g := X.2.2.2) (M := M) (k := i.toNat) (x := x) ho) ▸ hP1) hS1 hl)
theorem m_aald (C : Cx X cc own n) {o p : Nat} {ids : List Nat} {i : Int} (ho : shp[o]? = some (.inr (.inr ids))) (hin : 0 ≤ i ∧ i < (ids.length : Int)) (hp : ids[i.toNat]? = some p) (hd : decode cc pc = .ok (.aaload, 1)) (K : WM X (pc + 1) L (vR p :: S) M) : WM X pc L (vI i :: vR o :: S) M := by
  intro a b c H lo ls hP hS hl
  have hin' : vp_in (Int32.ofInt i) ids.length := iN_in c.hd hin
  have hlt : (Int32.ofInt i).toNatClampNeg < ids.length := Nat.not_le.mp fun q => hin' (Or.inr q)
  refine W.aald (v := .ref (X.2.2.2.2.1 p)) (ty := .array .int) C.1 C.2.1 (hP o _ (wld_at ho)) ((C.2.2.2.2.2.1.1.2 2 _ rfl).1 ids.length (fun j => va_rf ((ids[j]?).map X.2.2.2.2.1))) rfl (fun q => by cases q) (by show ¬ (_ ∨ (arrV _ _ _).slots.size ≤ _); rw [arrV_size]; exact hin') ?_ rfl rfl hd (K a b (c.tl.tl.push trivial) H lo ls hP hS hl)
  show (arrV _ _ _).slots[_]? = _
  rw [arrV_read _ _ hlt, iN_cl c.hd]
  show some (va_rf ((ids[i.toNat]?).map X.2.2.2.2.1)) = _
  rw [hp]
  rfl
theorem m_alen (C : Cx X cc own n) {o t N : Nat} {v : Int} (ho : shp[o]? = some (.inr (.inl (t, N)))) (ht : t = 0 ∨ t = 1) (hv : (N : Int) = v) (hr : r32 v) (hd : decode cc pc = .ok (.arraylength, 1)) (K : WM X (pc + 1) L (vI v :: S) M) : WM X pc L (vR o :: S) M :=
  fun a b c H lo ls hP hS hl => by
    have e : Int32.ofNat N = Int32.ofInt v := by rw [← hv, Int32.ofInt_eq_ofNat]
    rcases ht with rfl | rfl
    · exact va_alen C.1 C.2.1 C.2.2.2.2.2.1.1 hP o 0 (wld_at ho) rfl e hd (K a b (c.tl.push hr) H lo ls hP hS hl)
    · exact va_alen C.1 C.2.1 C.2.2.2.2.2.1.1 hP o 1 (wld_at ho) rfl e hd (K a b (c.tl.push hr) H lo ls hP hS hl)
-- ends
theorem m_iret (C : Cx X cc own n) {Q : Int → Mem → Prop} {r : Int} {ty : FieldType} (E : Cr X (some ty) Q) (hty : ty = .int ∨ (ty = .boolean ∧ (r = 0 ∨ r = 1))) (hd : decode cc pc = .ok (.ireturn, 1)) (hq : Q r M) : WM X pc L [vI r] M := by
  intro a b c H lo ls hP hS hl
  rw [E.2.2]
  have hn : narrow ty (.int (Int32.ofInt r)) = .int (Int32.ofInt r) := by
    rcases hty with rfl | ⟨rfl, rfl | rfl⟩ <;> rfl
  have hrv : rvO (some ty) r = some (.int (Int32.ofInt r)) := by rcases hty with rfl | ⟨rfl, _⟩ <;> rfl
  have hrs : rsO (some ty) r = [vI r] := by rcases hty with rfl | ⟨rfl, _⟩ <;> rfl
  exact W.zret (ty := ty) C.1 C.2.1 E.1 hn (fun t ht hW => ⟨⟨r, M, by rw [hrv], by rw [hrs]; exact c, hq, a, by rw [ht]; exact hP⟩, hS.F ht⟩) hS.2.2 hd (hlocks := E.2.1)
theorem m_lret (C : Cx X cc own n) {Q : Int → Mem → Prop} {r : Int} (E : Cr X (some .long) Q) (hd : decode cc pc = .ok (.lreturn, 1)) (hq : Q r M) : WM X pc L [vL r] M := by
  intro a b c H lo ls hP hS hl
  rw [E.2.2]
  exact W.lret C.1 C.2.1 E.1 (fun t ht hW => ⟨⟨r, M, rfl, c, hq, a, by rw [ht]; exact hP⟩, hS.F ht⟩) hS.2.2 hd (hlocks := E.2.1)
theorem m_vret (C : Cx X cc own n) {Q : Int → Mem → Prop} (E : Cr X none Q) (hd : decode cc pc = .ok (.return_, 1)) (hq : Q 0 M) : WM X pc L [] M := by
  intro a b c H lo ls hP hS hl
  rw [E.2.2]
  exact W.vret C.1 C.2.1 E.1 (fun t ht hW => ⟨⟨0, M, rfl, c, hq, a, by rw [ht]; exact hP⟩, hS.F ht⟩) hS.2.2 hd (hlocks := E.2.1)
-- calls
theorem m_run (C : Cx X cc own n) {ret : Option FieldType} {L : List (Nat × VV)} {rest : List VV} {H : Heap} {lo : List Loc} {ls : Array Slot} {av : Array Value} {st0 : List Value} (b : CanL L) (c : CanS rest)
    (hS : va_S (Ag X.2.2.2) X.1.2.2.2.2.heap H lo) (hl : lv_has ls X.2.2.1.1 (L.map (fun q => (q.1, tv X.2.2.2 q.2))))
    (hr : va_Run X.1.1 X.1.2.1 X.1.2.2.1 X.1.2.2.2.1 X.1.2.2.2.2 X.2.1.1 X.2.1.2.1 X.2.1.2.2.1 X.2.1.2.2.2.1 X.2.1.2.2.2.2 H lo X.2.2.1.2.1 X.2.2.1.2.2.1 0 0 (F0 X.2.1.1 pc ls st0) (rest.map (tv X.2.2.2)) (QcO X.2.2.2 ret (fun r M' => WM X (pc + 3) L (rsO ret r ++ rest) M') av) (Ag X.2.2.2)) :
    W X.1.1 X.1.2.1 X.1.2.2.1 X.1.2.2.2.1 X.1.2.2.2.2 X.2.1.1 X.2.1.2.1 X.2.1.2.2.1 X.2.1.2.2.2.1 X.2.1.2.2.2.2 H lo X.2.2.1.2.1 X.2.2.1.2.2.1 X.2.2.1.2.2.2 (F0 X.2.1.1 pc ls st0) := by
  intro T hT Xs
  obtain ⟨v, st₀, t, T', Lc, h0, X', hL, e1, e2, ⟨⟨r, M', hv, hcr, hq, hCM, hP'⟩, hz, hk⟩, st⟩ := hr T hT Xs
  have hv : v = rvO ret r := by injection hv
  subst hv
  rw [h0] at hz hk
  have hcs : CanS (rsO ret r ++ rest) := fun w hw => (List.mem_append.mp hw).elim (hcr w) (c w)
  have h := hq hCM b hcs T'.heap (lo ++ Lc) ls (by rw [e1]; exact hP') ⟨Nat.le_trans hS.1 (by rw [e1]; exact hz), fun q h1 h2 => by rw [e1, hk q (Nat.lt_of_lt_of_le h1 hS.1) h2]; exact hS.2.1 q h1 h2, fun q hq => (List.mem_append.mp hq).elim (hS.2.2 q) (hL q)⟩ hl
  rw [List.map_append, rsO_map] at h
  obtain ⟨t2, a1, b1⟩ := h T' rfl X'
  exact ⟨t2, st t2 a1, b1⟩
theorem gd_in {a : List Cond} {y : MethodName} {bytes : ByteArray} {maxL : Nat} {ret : Option FieldType} (hc : Cond.code y bytes maxL ret ∈ gd_tbl) (ha : GoodIn gd_tbl a) : GoodIn gd_tbl (a ++ (.code y bytes maxL ret :: gd_tbl)) := fun w h => (List.mem_append.mp h).elim (ha w) (fun h => (List.mem_cons.mp h).elim (fun e => e ▸ ⟨hc, gd_good _ hc⟩) (fun h => ⟨h, gd_good w h⟩))
theorem gd_in0 {y : MethodName} {bytes : ByteArray} {maxL : Nat} {ret : Option FieldType} (hc : Cond.code y bytes maxL ret ∈ gd_tbl) : GoodIn gd_tbl (.code y bytes maxL ret :: gd_tbl) := gd_in (a := []) hc (fun _ h => by cases h)
/-- a method of the table: its code, that its class stands ready, its name is plain, how many parameters it has -/
def mOk (md : MD) (k : Nat) : Prop := Cond.code md.1 md.2.1 md.2.2.1 md.2.2.2 ∈ gd_tbl ∧ Cond.initialized md.1.cls ∈ gd_tbl ∧ (md.1.cls ≠ "java/lang/invoke/MethodHandle" ∧ md.1.cls ≠ "java/lang/invoke/VarHandle" ∧ (parseMethodDescriptor md.1.desc).map (fun d => d.parameters.length) = some k) ∧ md.2.2.1 ≤ 40
/-- an instance method, chosen on objects of its own class -/
def vOk (md : MD) (k : Nat) : Prop := mOk md k ∧ Cond.instanceMethod md.1 ∈ gd_tbl ∧ Cond.selects md.1.cls md.1 md.1 ∈ gd_tbl
def sOk (md : MD) (k : Nat) : Prop := mOk md k ∧ Cond.static md.1 ∈ gd_tbl
/-- a method's link -/
def mLk (own : String) (index : Nat) (y : MethodName) : Prop := Cond.methodLink own index y ∈ gd_tbl ∨ ∃ host, Cond.methodLinkNest own index y host ∈ nst_tbl
theorem m_pre (C : Cx X cc own n) {as : List VV} {H : Heap} {lo : List Loc} (a : Can M) (c : CanS as) (hP : va_P X.2.2.2.1 mm_cl (wld X.2.2.2 M) H) (hS : va_S (Ag X.2.2.2) X.1.2.2.2.2.heap H lo) : ∀ U : State, U.heap = H → X.1.2.2.2.2.WarmedH U.vm → PcO X.2.2.2 as M (as.map (tv X.2.2.2)).toArray U := fun U hU hW =>
  ⟨rfl, a, c, by rw [hU]; exact hP, C.2.2.2.2.2.1.warm hW, C.2.2.2.2.2.2.1.go hW (fun q h1 h2 => by rw [hU]; exact hS.2.1 q h1 h2)⟩
theorem m_callV (C : Cx X cc own n) {md : MD} {k o index ci : Nat} {fds : List Nat} {T : u_T} {N : Nat} {as rest : List VV} (hm : vOk md k) (hlk : mLk own index md.1) (ho : shp[o]? = some (.inl (ci, fds))) (hcl : mm_cl[ci]? = some (md.1.cls, T, N)) (hk : as.length = k) (hS0 : S = as.reverse ++ vR o :: rest) (hrest : wdt rest ≤ 8) (hd : decode cc pc = .ok (.invokevirtual index, 3))
    (K : Con n md (vR o :: as) M (fun r M' => WM X (pc + 3) L (rsO md.2.2.2 r ++ rest) M')) : WM X pc L S M := by
  intro a b c H lo ls hP hS hl
  subst hS0
  have cas : CanS (vR o :: as) := CanS.push (fun w hw => c w (List.mem_append_left _ (List.mem_reverse.mpr hw))) trivial
  have crest : CanS rest := fun w hw => c w (List.mem_append_right _ (List.mem_cons_of_mem _ hw))
  have hmon : ((rest.map (tv X.2.2.2)).map fun v => v.category).sum ≤ 8 := by rw [wdt_cat]; exact hrest
  obtain ⟨⟨hcode, hini, hy, h40⟩, hins, hsel⟩ := hm
  obtain ⟨hx, hb, hml, hown, hts, hKK, hSS, hR1, hR2, hR3, hR4⟩ := C
  have C : Cx X cc own n := ⟨hx, hb, hml, hown, hts, hKK, hSS, hR1, hR2, hR3, hR4⟩
  have hstk : ((as.reverse ++ vR o :: rest).map (tv X.2.2.2)) = (as.map (tv X.2.2.2)).reverse ++ .ref (X.2.2.2.2.1 o) :: rest.map (tv X.2.2.2) := by
    rw [List.map_append, List.map_cons, List.map_reverse]; rfl
  have hR : (rmO n).frames + 1 ≤ X.1.2.2.2.1.frames ∧ 8 + (md.2.2.1 + 11) + (rmO n).locals ≤ X.1.2.2.2.1.locals := ⟨hR1, by show 8 + (md.2.2.1 + 11) + 60 * n ≤ _; omega⟩
  have hpre : PreV X.1.2.2.2.2 H md.1.cls (X.2.2.2.2.1 o) (PcO X.2.2.2 (vR o :: as) M) (as.map (tv X.2.2.2)) := ⟨PcO.blind _ _ _, va_recv hKK.1 hP hcl (wld_at ho), m_pre C a cas hP hS⟩
  have hlen : (as.map (tv X.2.2.2)).length = k := by rw [List.length_map]; exact hk
  refine m_run C (ret := md.2.2.2) (rest := rest) b crest hS hl (av := (Value.ref (X.2.2.2.2.1 o) :: as.map (tv X.2.2.2)).toArray) ?_
  rcases hlk with h | ⟨host, h⟩
  · exact va_runV (C := md.1.cls) (bytes := md.2.1) (maxL := md.2.2.1) (ret := md.2.2.2) (n := k) (Ts := gd_tbl) ⟨hx, hb, hml, hown, hts⟩ (K X.1.2.1 X.2.2.2) ⟨callB_of k hts (gd_in0 hcode) rfl rfl rfl (hts _ hini) (hts _ h) hy hR, hts _ hins, hts _ hsel⟩ hpre rfl hlen hl.1 hstk (by show 2 * 0 + _ ≤ 8; rw [Nat.mul_zero, Nat.zero_add]; exact hmon) hd ⟨hR3, hR4⟩
  · exact va_runVN (C := md.1.cls) (bytes := md.2.1) (maxL := md.2.2.1) (ret := md.2.2.2) (n := k) (host := host) (Ts := gd_tbl) ⟨hx, hb, hml, hown, hts⟩ (K X.1.2.1 X.2.2.2) ⟨va_cnB k hts (gd_in0 hcode) rfl rfl rfl (hKK.2.1 _ h) (hts _ hini) hy hR, hts _ hins, hts _ hsel⟩ hpre rfl hlen hl.1 hstk (by show 2 * 0 + _ ≤ 8; rw [Nat.mul_zero, Nat.zero_add]; exact hmon) hd ⟨hR3, hR4⟩
theorem m_callS (C : Cx X cc own n) {md : MD} {k index : Nat} {as rest : List VV} (hm : sOk md k) (hlk : mLk own index md.1) (hk : as.length = k) (hS0 : S = as.reverse ++ rest) (hrest : wdt rest ≤ 8) (hd : decode cc pc = .ok (.invokestatic index, 3))
    (K : Con n md as M (fun r M' => WM X (pc + 3) L (rsO md.2.2.2 r ++ rest) M')) : WM X pc L S M := by
  intro a b c H lo ls hP hS hl
  subst hS0
  have cas : CanS as := fun w hw => c w (List.mem_append_left _ (List.mem_reverse.mpr hw))
  have crest : CanS rest := fun w hw => c w (List.mem_append_right _ hw)
  have hmon : ((rest.map (tv X.2.2.2)).map fun v => v.category).sum ≤ 8 := by rw [wdt_cat]; exact hrest
  obtain ⟨⟨hcode, hini, hy, h40⟩, hst⟩ := hm
  obtain ⟨hx, hb, hml, hown, hts, hKK, hSS, hR1, hR2, hR3, hR4⟩ := C
  have C : Cx X cc own n := ⟨hx, hb, hml, hown, hts, hKK, hSS, hR1, hR2, hR3, hR4⟩
  have hstk : ((as.reverse ++ rest).map (tv X.2.2.2)) = (as.map (tv X.2.2.2)).reverse ++ rest.map (tv X.2.2.2) := by
    rw [List.map_append, List.map_reverse]
  have hR : (rmO n).frames + 1 ≤ X.1.2.2.2.1.frames ∧ 8 + (md.2.2.1 + 11) + (rmO n).locals ≤ X.1.2.2.2.1.locals := ⟨hR1, by show 8 + (md.2.2.1 + 11) + 60 * n ≤ _; omega⟩
  have hpre : PreS X.1.2.2.2.2 H (PcO X.2.2.2 as M) (as.map (tv X.2.2.2)) := ⟨PcO.blind _ _ _, m_pre C a cas hP hS⟩
  have hlen : (as.map (tv X.2.2.2)).length = k := by rw [List.length_map]; exact hk
  refine m_run C (ret := md.2.2.2) (rest := rest) b crest hS hl (av := (as.map (tv X.2.2.2)).toArray) ?_
  rcases hlk with h | ⟨host, h⟩
  · exact va_runS (bytes := md.2.1) (maxL := md.2.2.1) (ret := md.2.2.2) (n := k) (Ts := gd_tbl) ⟨hx, hb, hml, hown, hts⟩ (K X.1.2.1 X.2.2.2) ⟨callB_of k hts (gd_in0 hcode) rfl rfl rfl (hts _ hini) (hts _ h) hy hR, hts _ hst⟩ hpre rfl hlen hl.1 hstk (by show 2 * 0 + _ ≤ 8; rw [Nat.mul_zero, Nat.zero_add]; exact hmon) hd ⟨hR3, hR4⟩
  · exact va_runSN (bytes := md.2.1) (maxL := md.2.2.1) (ret := md.2.2.2) (n := k) (host := host) (Ts := gd_tbl) ⟨hx, hb, hml, hown, hts⟩ (K X.1.2.1 X.2.2.2) ⟨va_cnB k hts (gd_in0 hcode) rfl rfl rfl (hKK.2.1 _ h) (hts _ hini) hy hR, hts _ hst, trivial⟩ hpre rfl hlen hl.1 hstk (by show 2 * 0 + _ ≤ 8; rw [Nat.mul_zero, Nat.zero_add]; exact hmon) hd ⟨hR3, hR4⟩
end ROWS
