/-! THE CONSTRUCTORS (printed by wip/gen/mk_ctor.py) -/
theorem nlt {a b : Nat} (h : Nat.ble (a + 1) b = true) : a < b := Nat.le_of_ble_eq_true h
theorem apg {pre tail : List va_E} {b i : Nat} {e : va_E} (hb : pre.length = b) (h : tail[i]? = some e) : (pre ++ tail)[b + i]? = some e := by
  rw [List.getElem?_append_right (by omega), show b + i - pre.length = i by omega]; exact h
theorem aps {pre tail tail' : List va_E} {b i : Nat} {e : va_E} (hb : pre.length = b) (h : tail.set i e = tail') : (pre ++ tail).set (b + i) e = pre ++ tail' := by
  rw [List.set_append_right _ _ (by omega), show b + i - pre.length = i by omega, h]
theorem apl {pre tail : List va_E} {b i : Nat} (hb : pre.length = b) (h : tail.length = i) : (pre ++ tail).length = b + i := by rw [List.length_append, hb, h]
theorem apl2 {pre tail : List va_E} {b i N : Nat} (hb : pre.length = b) (h : tail.length = i) (hB : b + i ≤ N) : (pre ++ tail).length ≤ N := by rw [List.length_append, hb, h]; exact hB
section K2
variable {X : CT} {cc : ByteArray} {own : String} {d sz pc : Nat} {L : List (Nat × Value)} {S : List Value} {es es' : List va_E} {k n : Nat}
theorem k_newa2 (C : Ck X cc own d sz) {N q : Nat} {v : Int} (hv : v = (N : Int)) (hN : N ≤ 1000) (hq : es.length = q) (hlt : q < 68) (hk1 : k + 1 ≤ X.2.2.1.2.1) (hn1 : n + N ≤ X.2.2.1.2.2.1) (hd : decode cc pc = .ok (.newarray .int, 2)) (hes : es ++ [eA X.2.2.2 N] = es') (K : CW X sz (pc + 2) L (.ref (X.2.2.2.2.1 q) :: S) es' (k + 1) (n + N)) : CW X sz pc L (.int (Int32.ofInt v) :: S) es k n := by
  subst hq; subst hes; exact k_newa C hv hN hlt hk1 hn1 hd K
theorem k_newz2 (C : Ck X cc own d sz) {N q : Nat} {v : Int} (hv : v = (N : Int)) (hN : N ≤ 1000) (hq : es.length = q) (hlt : q < 68) (hk1 : k + 1 ≤ X.2.2.1.2.1) (hn1 : n + N ≤ X.2.2.1.2.2.1) (hd : decode cc pc = .ok (.newarray .boolean, 2)) (hes : es ++ [eZ X.2.2.2 N] = es') (K : CW X sz (pc + 2) L (.ref (X.2.2.2.2.1 q) :: S) es' (k + 1) (n + N)) : CW X sz pc L (.int (Int32.ofInt v) :: S) es k n := by
  subst hq; subst hes; exact k_newz C hv hN hlt hk1 hn1 hd K
theorem k_mna2 (C : Ck X cc own d sz) {index N J q : Nat} {v w : Int} {ids : List Nat} (hcl : Cond.classLink own index "[[I" ∈ gd_tbl) (hv : v = (N : Int)) (hw : w = (J : Int)) (hN : N ≤ 1000) (hJ : J ≤ 1000) (hq : es.length = q) (hlen : q + N < 68) (hids : ids.length = N) (hid : ∀ i, i < N → ids[i]? = some (q + 1 + i)) (hk1 : k + (1 + N) ≤ X.2.2.1.2.1) (hn1 : n + (N + N * J) ≤ X.2.2.1.2.2.1) (hd : decode cc pc = .ok (.multianewarray index 2, 4)) (hes : es ++ (eO X.2.2.2 ids :: List.replicate N (eA X.2.2.2 J)) = es') (K : CW X sz (pc + 4) L (.ref (X.2.2.2.2.1 q) :: S) es' (k + 1 + N) (n + N + N * J)) : CW X sz pc L (.int (Int32.ofInt w) :: .int (Int32.ofInt v) :: S) es k n := by
  subst hq; subst hes; exact k_mna C hcl hv hw hN hJ hlen hids hid hk1 hn1 hd K
theorem k_new2 (C : Ck X cc own d sz) {ci N index q : Nat} {CN : String} {T : u_T} {ty : Nat → FieldType} {fs : List Value} (hc : clOk ci CN T N ty) (hcl : Cond.classLink own index CN ∈ gd_tbl) (hins : Cond.instantiable CN N ∈ gd_tbl) (hini : Cond.initialized CN ∈ gd_tbl) (hfs : ∀ j, j < N → defaultValue (ty j) = vp_V fs j) (hq : es.length = q) (hlt : q < 68) (hk1 : k + 1 ≤ X.2.2.1.2.1) (hn1 : n + N ≤ X.2.2.1.2.2.1) (hd : decode cc pc = .ok (.new index, 3)) (K : CW X sz (pc + 3) L (.ref (X.2.2.2.2.1 q) :: S) (es ++ [.inr (ci, fs)]) (k + 1) (n + N)) : CW X sz pc L S es k n := by
  subst hq; exact k_new C hc hcl hins hini hfs hlt hk1 hn1 hd K
end K2
abbrev md_X0_init : MD := (yX0_init, cX0_init, 1, none)
theorem pl_X0_init : plainFor yX0_init = true := by decide +kernel
theorem pdi_X0 : (parseMethodDescriptor "()V").map (fun d => d.parameters.length) = some 0 := by decide +kernel
theorem nbi_X0 : RX0 ≠ "java/lang/invoke/MethodHandle" ∧ RX0 ≠ "java/lang/invoke/VarHandle" := by decide +kernel
set_option maxRecDepth 100000 in
theorem oki_X0 : iOk md_X0_init 0 := ⟨⟨gd_mem 145 rfl rfl, gd_mem 117 rfl rfl, ⟨nbi_X0.1, nbi_X0.2, pdi_X0⟩, by decide⟩, gd_mem 144 rfl rfl, rfl, rfl⟩
set_option maxRecDepth 100000 in
theorem in_X0 : Cond.instantiable RX0 11 ∈ gd_tbl := gd_mem 142 rfl rfl
set_option maxRecDepth 100000 in
theorem iz_X0 : Cond.initialized RX0 ∈ gd_tbl := gd_mem 117 rfl rfl
abbrev fd_X0 : List Value := [.int (Int32.ofInt 0), .int (Int32.ofInt 0), .int (Int32.ofInt 0), .int (Int32.ofInt 0), .null, .null, .null, .null, .int (Int32.ofInt 0), .null, .null]
theorem fdv_X0 : ∀ j, j < 11 → defaultValue (tyX0 j) = vp_V fd_X0 j := by decide +kernel
set_option maxRecDepth 100000 in
theorem ol_X0 : Cond.methodLink RX0 3 Lib.objectInit ∈ gd_tbl := gd_mem 146 rfl rfl
set_option maxRecDepth 100000 in
theorem fk_X0_9 : Cond.fieldLink RX0 9 (TX0 0).1 (TX0 0).2.1 (TX0 0).2.2.1 ∈ gd_tbl := gd_mem 147 rfl rfl
set_option maxRecDepth 100000 in
theorem fk_X0_15 : Cond.fieldLink RX0 15 (TX0 1).1 (TX0 1).2.1 (TX0 1).2.2.1 ∈ gd_tbl := gd_mem 149 rfl rfl
set_option maxRecDepth 100000 in
theorem fk_X0_18 : Cond.fieldLink RX0 18 (TX0 2).1 (TX0 2).2.1 (TX0 2).2.2.1 ∈ gd_tbl := gd_mem 151 rfl rfl
set_option maxRecDepth 100000 in
theorem fk_X0_21 : Cond.fieldLink RX0 21 (TX0 3).1 (TX0 3).2.1 (TX0 3).2.2.1 ∈ gd_tbl := gd_mem 154 rfl rfl
set_option maxRecDepth 100000 in
theorem fk_X0_24 : Cond.fieldLink RX0 24 (TX0 4).1 (TX0 4).2.1 (TX0 4).2.2.1 ∈ gd_tbl := gd_mem 157 rfl rfl
set_option maxRecDepth 100000 in
theorem fk_X0_28 : Cond.fieldLink RX0 28 (TX0 5).1 (TX0 5).2.1 (TX0 5).2.2.1 ∈ gd_tbl := gd_mem 160 rfl rfl
set_option maxRecDepth 100000 in
theorem fk_X0_31 : Cond.fieldLink RX0 31 (TX0 6).1 (TX0 6).2.1 (TX0 6).2.2.1 ∈ gd_tbl := gd_mem 163 rfl rfl
set_option maxRecDepth 100000 in
theorem fk_X0_34 : Cond.fieldLink RX0 34 (TX0 7).1 (TX0 7).2.1 (TX0 7).2.2.1 ∈ gd_tbl := gd_mem 165 rfl rfl
set_option maxRecDepth 100000 in
theorem fk_X0_37 : Cond.fieldLink RX0 37 (TX0 8).1 (TX0 8).2.1 (TX0 8).2.2.1 ∈ gd_tbl := gd_mem 169 rfl rfl
set_option maxRecDepth 100000 in
theorem fk_X0_40 : Cond.fieldLink RX0 40 (TX0 9).1 (TX0 9).2.1 (TX0 9).2.2.1 ∈ gd_tbl := gd_mem 173 rfl rfl
set_option maxRecDepth 100000 in
theorem fk_X0_43 : Cond.fieldLink RX0 43 (TX0 10).1 (TX0 10).2.1 (TX0 10).2.2.1 ∈ gd_tbl := gd_mem 176 rfl rfl
abbrev E_X0 (g : GX) (b : Nat) : List va_E := [.inr (0, [.int (Int32.ofInt (200)), .int (Int32.ofInt (0)), .int (Int32.ofInt (0)), .int (Int32.ofInt (0)), .ref (g.2.1 (b + 1)), .ref (g.2.1 (b + 2)), .ref (g.2.1 (b + 3)), .ref (g.2.1 (b + 4)), .int (Int32.ofInt (0)), .ref (g.2.1 (b + 5)), .ref (g.2.1 (b + 6))]),
  eA g 6,
  eA g 6,
  eA g 6,
  eA g 6,
  eA g 40,
  eA g 40]
theorem cc_X0 {g : GX} {sz b : Nat} {pre : List va_E} (hsq : ∀ o, o < shN → g.2.1 o = sz + o) (hb : pre.length = b) (hB : b + 7 ≤ 68) : CC g sz md_X0_init 1 6 104 [.ref (g.2.1 b)] (pre ++ [.inr (0, fd_X0)]) (pre ++ E_X0 g b) := by
  intro l
  refine Met.ofC (d := 0) hsq pl_X0_init rfl (Nat.le_of_ble_eq_true rfl) (fun X hg C hin E hnL hmc hms => ?_) l
  subst hg
  have C : Ck X cX0_init RX0 0 sz := C
  show CW X sz 0 [(0, .ref (X.2.2.2.2.1 b))] [] (pre ++ [.inr (0, fd_X0)]) 0 0
  refine k_aload C 0 dX0_init_0 rfl rfl ?_
  refine k_obj C ol_X0 dX0_init_1 ?_
  refine k_aload C 0 dX0_init_4 rfl rfl ?_
  refine k_sipush C dX0_init_5 (by decide) ?_
  refine k_put (es' := pre ++ [.inr (0, [.int (Int32.ofInt (200)), .int (Int32.ofInt 0), .int (Int32.ofInt 0), .int (Int32.ofInt 0), .null, .null, .null, .null, .int (Int32.ofInt 0), .null, .null])]) C (q := b + 0) (fi := 0) cl_X0 (apg hb rfl) (by decide) rfl fk_X0_9 rfl rfl (nlt rfl) (apl2 (i := 1) hb rfl (by show b + 1 ≤ 68; omega)) (aps hb rfl) dX0_init_8 ?_
  refine k_aload C 0 dX0_init_11 rfl rfl ?_
  refine k_iconst C dX0_init_12 ?_
  refine k_put (es' := pre ++ [.inr (0, [.int (Int32.ofInt (200)), .int (Int32.ofInt (0)), .int (Int32.ofInt 0), .int (Int32.ofInt 0), .null, .null, .null, .null, .int (Int32.ofInt 0), .null, .null])]) C (q := b + 0) (fi := 1) cl_X0 (apg hb rfl) (by decide) rfl fk_X0_15 rfl rfl (nlt rfl) (apl2 (i := 1) hb rfl (by show b + 1 ≤ 68; omega)) (aps hb rfl) dX0_init_13 ?_
  refine k_aload C 0 dX0_init_16 rfl rfl ?_
  refine k_iconst C dX0_init_17 ?_
  refine k_put (es' := pre ++ [.inr (0, [.int (Int32.ofInt (200)), .int (Int32.ofInt (0)), .int (Int32.ofInt (0)), .int (Int32.ofInt 0), .null, .null, .null, .null, .int (Int32.ofInt 0), .null, .null])]) C (q := b + 0) (fi := 2) cl_X0 (apg hb rfl) (by decide) rfl fk_X0_18 rfl rfl (nlt rfl) (apl2 (i := 1) hb rfl (by show b + 1 ≤ 68; omega)) (aps hb rfl) dX0_init_18 ?_
  refine k_aload C 0 dX0_init_21 rfl rfl ?_
  refine k_iconst C dX0_init_22 ?_
  refine k_put (es' := pre ++ [.inr (0, [.int (Int32.ofInt (200)), .int (Int32.ofInt (0)), .int (Int32.ofInt (0)), .int (Int32.ofInt (0)), .null, .null, .null, .null, .int (Int32.ofInt 0), .null, .null])]) C (q := b + 0) (fi := 3) cl_X0 (apg hb rfl) (by decide) rfl fk_X0_21 rfl rfl (nlt rfl) (apl2 (i := 1) hb rfl (by show b + 1 ≤ 68; omega)) (aps hb rfl) dX0_init_23 ?_
  refine k_aload C 0 dX0_init_26 rfl rfl ?_
  refine k_bipush C dX0_init_27 (by decide) ?_
  refine k_newa2 (es' := pre ++ [.inr (0, [.int (Int32.ofInt (200)), .int (Int32.ofInt (0)), .int (Int32.ofInt (0)), .int (Int32.ofInt (0)), .null, .null, .null, .null, .int (Int32.ofInt 0), .null, .null]), eA X.2.2.2 6]) C (q := b + 1) (N := 6) rfl (Nat.le_of_ble_eq_true rfl) (apl hb rfl) (by omega) (by rw [hmc]; exact Nat.le_of_ble_eq_true rfl) (by rw [hms]; exact Nat.le_of_ble_eq_true rfl) dX0_init_29 (List.append_assoc _ _ _) ?_
  refine k_putF (es' := pre ++ [.inr (0, [.int (Int32.ofInt (200)), .int (Int32.ofInt (0)), .int (Int32.ofInt (0)), .int (Int32.ofInt (0)), .ref (X.2.2.2.2.1 (b + 1)), .null, .null, .null, .int (Int32.ofInt 0), .null, .null]), eA X.2.2.2 6]) C hin (q := b + 0) (fi := 4) cl_X0 (apg hb rfl) (by decide) rfl rfl fk_X0_24 rfl rfl (nlt rfl) (apl2 (i := 2) hb rfl (by show b + 2 ≤ 68; omega)) (aps hb rfl) dX0_init_31 ?_
  refine k_aload C 0 dX0_init_34 rfl rfl ?_
  refine k_bipush C dX0_init_35 (by decide) ?_
  refine k_newa2 (es' := pre ++ [.inr (0, [.int (Int32.ofInt (200)), .int (Int32.ofInt (0)), .int (Int32.ofInt (0)), .int (Int32.ofInt (0)), .ref (X.2.2.2.2.1 (b + 1)), .null, .null, .null, .int (Int32.ofInt 0), .null, .null]), eA X.2.2.2 6, eA X.2.2.2 6]) C (q := b + 2) (N := 6) rfl (Nat.le_of_ble_eq_true rfl) (apl hb rfl) (by omega) (by rw [hmc]; exact Nat.le_of_ble_eq_true rfl) (by rw [hms]; exact Nat.le_of_ble_eq_true rfl) dX0_init_37 (List.append_assoc _ _ _) ?_
  refine k_putF (es' := pre ++ [.inr (0, [.int (Int32.ofInt (200)), .int (Int32.ofInt (0)), .int (Int32.ofInt (0)), .int (Int32.ofInt (0)), .ref (X.2.2.2.2.1 (b + 1)), .ref (X.2.2.2.2.1 (b + 2)), .null, .null, .int (Int32.ofInt 0), .null, .null]), eA X.2.2.2 6, eA X.2.2.2 6]) C hin (q := b + 0) (fi := 5) cl_X0 (apg hb rfl) (by decide) rfl rfl fk_X0_28 rfl rfl (nlt rfl) (apl2 (i := 3) hb rfl (by show b + 3 ≤ 68; omega)) (aps hb rfl) dX0_init_39 ?_
  refine k_aload C 0 dX0_init_42 rfl rfl ?_
  refine k_bipush C dX0_init_43 (by decide) ?_
  refine k_newa2 (es' := pre ++ [.inr (0, [.int (Int32.ofInt (200)), .int (Int32.ofInt (0)), .int (Int32.ofInt (0)), .int (Int32.ofInt (0)), .ref (X.2.2.2.2.1 (b + 1)), .ref (X.2.2.2.2.1 (b + 2)), .null, .null, .int (Int32.ofInt 0), .null, .null]), eA X.2.2.2 6, eA X.2.2.2 6, eA X.2.2.2 6]) C (q := b + 3) (N := 6) rfl (Nat.le_of_ble_eq_true rfl) (apl hb rfl) (by omega) (by rw [hmc]; exact Nat.le_of_ble_eq_true rfl) (by rw [hms]; exact Nat.le_of_ble_eq_true rfl) dX0_init_45 (List.append_assoc _ _ _) ?_
  refine k_putF (es' := pre ++ [.inr (0, [.int (Int32.ofInt (200)), .int (Int32.ofInt (0)), .int (Int32.ofInt (0)), .int (Int32.ofInt (0)), .ref (X.2.2.2.2.1 (b + 1)), .ref (X.2.2.2.2.1 (b + 2)), .ref (X.2.2.2.2.1 (b + 3)), .null, .int (Int32.ofInt 0), .null, .null]), eA X.2.2.2 6, eA X.2.2.2 6, eA X.2.2.2 6]) C hin (q := b + 0) (fi := 6) cl_X0 (apg hb rfl) (by decide) rfl rfl fk_X0_31 rfl rfl (nlt rfl) (apl2 (i := 4) hb rfl (by show b + 4 ≤ 68; omega)) (aps hb rfl) dX0_init_47 ?_
  refine k_aload C 0 dX0_init_50 rfl rfl ?_
  refine k_bipush C dX0_init_51 (by decide) ?_
  refine k_newa2 (es' := pre ++ [.inr (0, [.int (Int32.ofInt (200)), .int (Int32.ofInt (0)), .int (Int32.ofInt (0)), .int (Int32.ofInt (0)), .ref (X.2.2.2.2.1 (b + 1)), .ref (X.2.2.2.2.1 (b + 2)), .ref (X.2.2.2.2.1 (b + 3)), .null, .int (Int32.ofInt 0), .null, .null]), eA X.2.2.2 6, eA X.2.2.2 6, eA X.2.2.2 6, eA X.2.2.2 6]) C (q := b + 4) (N := 6) rfl (Nat.le_of_ble_eq_true rfl) (apl hb rfl) (by omega) (by rw [hmc]; exact Nat.le_of_ble_eq_true rfl) (by rw [hms]; exact Nat.le_of_ble_eq_true rfl) dX0_init_53 (List.append_assoc _ _ _) ?_
  refine k_putF (es' := pre ++ [.inr (0, [.int (Int32.ofInt (200)), .int (Int32.ofInt (0)), .int (Int32.ofInt (0)), .int (Int32.ofInt (0)), .ref (X.2.2.2.2.1 (b + 1)), .ref (X.2.2.2.2.1 (b + 2)), .ref (X.2.2.2.2.1 (b + 3)), .ref (X.2.2.2.2.1 (b + 4)), .int (Int32.ofInt 0), .null, .null]), eA X.2.2.2 6, eA X.2.2.2 6, eA X.2.2.2 6, eA X.2.2.2 6]) C hin (q := b + 0) (fi := 7) cl_X0 (apg hb rfl) (by decide) rfl rfl fk_X0_34 rfl rfl (nlt rfl) (apl2 (i := 5) hb rfl (by show b + 5 ≤ 68; omega)) (aps hb rfl) dX0_init_55 ?_
  refine k_aload C 0 dX0_init_58 rfl rfl ?_
  refine k_iconst C dX0_init_59 ?_
  refine k_put (es' := pre ++ [.inr (0, [.int (Int32.ofInt (200)), .int (Int32.ofInt (0)), .int (Int32.ofInt (0)), .int (Int32.ofInt (0)), .ref (X.2.2.2.2.1 (b + 1)), .ref (X.2.2.2.2.1 (b + 2)), .ref (X.2.2.2.2.1 (b + 3)), .ref (X.2.2.2.2.1 (b + 4)), .int (Int32.ofInt (0)), .null, .null]), eA X.2.2.2 6, eA X.2.2.2 6, eA X.2.2.2 6, eA X.2.2.2 6]) C (q := b + 0) (fi := 8) cl_X0 (apg hb rfl) (by decide) rfl fk_X0_37 rfl rfl (nlt rfl) (apl2 (i := 5) hb rfl (by show b + 5 ≤ 68; omega)) (aps hb rfl) dX0_init_60 ?_
  refine k_aload C 0 dX0_init_63 rfl rfl ?_
  refine k_bipush C dX0_init_64 (by decide) ?_
  refine k_newa2 (es' := pre ++ [.inr (0, [.int (Int32.ofInt (200)), .int (Int32.ofInt (0)), .int (Int32.ofInt (0)), .int (Int32.ofInt (0)), .ref (X.2.2.2.2.1 (b + 1)), .ref (X.2.2.2.2.1 (b + 2)), .ref (X.2.2.2.2.1 (b + 3)), .ref (X.2.2.2.2.1 (b + 4)), .int (Int32.ofInt (0)), .null, .null]), eA X.2.2.2 6, eA X.2.2.2 6, eA X.2.2.2 6, eA X.2.2.2 6, eA X.2.2.2 40]) C (q := b + 5) (N := 40) rfl (Nat.le_of_ble_eq_true rfl) (apl hb rfl) (by omega) (by rw [hmc]; exact Nat.le_of_ble_eq_true rfl) (by rw [hms]; exact Nat.le_of_ble_eq_true rfl) dX0_init_66 (List.append_assoc _ _ _) ?_
  refine k_putF (es' := pre ++ [.inr (0, [.int (Int32.ofInt (200)), .int (Int32.ofInt (0)), .int (Int32.ofInt (0)), .int (Int32.ofInt (0)), .ref (X.2.2.2.2.1 (b + 1)), .ref (X.2.2.2.2.1 (b + 2)), .ref (X.2.2.2.2.1 (b + 3)), .ref (X.2.2.2.2.1 (b + 4)), .int (Int32.ofInt (0)), .ref (X.2.2.2.2.1 (b + 5)), .null]), eA X.2.2.2 6, eA X.2.2.2 6, eA X.2.2.2 6, eA X.2.2.2 6, eA X.2.2.2 40]) C hin (q := b + 0) (fi := 9) cl_X0 (apg hb rfl) (by decide) rfl rfl fk_X0_40 rfl rfl (nlt rfl) (apl2 (i := 6) hb rfl (by show b + 6 ≤ 68; omega)) (aps hb rfl) dX0_init_68 ?_
  refine k_aload C 0 dX0_init_71 rfl rfl ?_
  refine k_bipush C dX0_init_72 (by decide) ?_
  refine k_newa2 (es' := pre ++ [.inr (0, [.int (Int32.ofInt (200)), .int (Int32.ofInt (0)), .int (Int32.ofInt (0)), .int (Int32.ofInt (0)), .ref (X.2.2.2.2.1 (b + 1)), .ref (X.2.2.2.2.1 (b + 2)), .ref (X.2.2.2.2.1 (b + 3)), .ref (X.2.2.2.2.1 (b + 4)), .int (Int32.ofInt (0)), .ref (X.2.2.2.2.1 (b + 5)), .null]), eA X.2.2.2 6, eA X.2.2.2 6, eA X.2.2.2 6, eA X.2.2.2 6, eA X.2.2.2 40, eA X.2.2.2 40]) C (q := b + 6) (N := 40) rfl (Nat.le_of_ble_eq_true rfl) (apl hb rfl) (by omega) (by rw [hmc]; exact Nat.le_of_ble_eq_true rfl) (by rw [hms]; exact Nat.le_of_ble_eq_true rfl) dX0_init_74 (List.append_assoc _ _ _) ?_
  refine k_putF (es' := pre ++ [.inr (0, [.int (Int32.ofInt (200)), .int (Int32.ofInt (0)), .int (Int32.ofInt (0)), .int (Int32.ofInt (0)), .ref (X.2.2.2.2.1 (b + 1)), .ref (X.2.2.2.2.1 (b + 2)), .ref (X.2.2.2.2.1 (b + 3)), .ref (X.2.2.2.2.1 (b + 4)), .int (Int32.ofInt (0)), .ref (X.2.2.2.2.1 (b + 5)), .ref (X.2.2.2.2.1 (b + 6))]), eA X.2.2.2 6, eA X.2.2.2 6, eA X.2.2.2 6, eA X.2.2.2 6, eA X.2.2.2 40, eA X.2.2.2 40]) C hin (q := b + 0) (fi := 10) cl_X0 (apg hb rfl) (by decide) rfl rfl fk_X0_43 rfl rfl (nlt rfl) (apl2 (i := 7) hb rfl (by show b + 7 ≤ 68; omega)) (aps hb rfl) dX0_init_76 ?_
  exact k_ret C E (by rw [hmc]; exact Nat.le_of_ble_eq_true rfl) (by rw [hms]; exact Nat.le_of_ble_eq_true rfl) dX0_init_79
abbrev md_X6_init : MD := (yX6_init, cX6_init, 1, none)
theorem pl_X6_init : plainFor yX6_init = true := by decide +kernel
theorem pdi_X6 : (parseMethodDescriptor "()V").map (fun d => d.parameters.length) = some 0 := by decide +kernel
theorem nbi_X6 : RX6 ≠ "java/lang/invoke/MethodHandle" ∧ RX6 ≠ "java/lang/invoke/VarHandle" := by decide +kernel
set_option maxRecDepth 100000 in
theorem oki_X6 : iOk md_X6_init 0 := ⟨⟨gd_mem 207 rfl rfl, gd_mem 118 rfl rfl, ⟨nbi_X6.1, nbi_X6.2, pdi_X6⟩, by decide⟩, gd_mem 206 rfl rfl, rfl, rfl⟩
set_option maxRecDepth 100000 in
theorem in_X6 : Cond.instantiable RX6 2 ∈ gd_tbl := gd_mem 204 rfl rfl
set_option maxRecDepth 100000 in
theorem iz_X6 : Cond.initialized RX6 ∈ gd_tbl := gd_mem 118 rfl rfl
abbrev fd_X6 : List Value := [.null, .int (Int32.ofInt 0)]
theorem fdv_X6 : ∀ j, j < 2 → defaultValue (tyX6 j) = vp_V fd_X6 j := by decide +kernel
set_option maxRecDepth 100000 in
theorem ol_X6 : Cond.methodLink RX6 3 Lib.objectInit ∈ gd_tbl := gd_mem 208 rfl rfl
set_option maxRecDepth 100000 in
theorem fk_X6_9 : Cond.fieldLink RX6 9 (TX6 0).1 (TX6 0).2.1 (TX6 0).2.2.1 ∈ gd_tbl := gd_mem 209 rfl rfl
set_option maxRecDepth 100000 in
theorem fk_X6_15 : Cond.fieldLink RX6 15 (TX6 1).1 (TX6 1).2.1 (TX6 1).2.2.1 ∈ gd_tbl := gd_mem 210 rfl rfl
abbrev E_X6 (g : GX) (b : Nat) : List va_E := [.inr (5, [.ref (g.2.1 (b + 1)), .int (Int32.ofInt (0))]),
  eA g 160]
theorem cc_X6 {g : GX} {sz b : Nat} {pre : List va_E} (hsq : ∀ o, o < shN → g.2.1 o = sz + o) (hb : pre.length = b) (hB : b + 2 ≤ 68) : CC g sz md_X6_init 1 1 160 [.ref (g.2.1 b)] (pre ++ [.inr (5, fd_X6)]) (pre ++ E_X6 g b) := by
  intro l
  refine Met.ofC (d := 0) hsq pl_X6_init rfl (Nat.le_of_ble_eq_true rfl) (fun X hg C hin E hnL hmc hms => ?_) l
  subst hg
  have C : Ck X cX6_init RX6 0 sz := C
  show CW X sz 0 [(0, .ref (X.2.2.2.2.1 b))] [] (pre ++ [.inr (5, fd_X6)]) 0 0
  refine k_aload C 0 dX6_init_0 rfl rfl ?_
  refine k_obj C ol_X6 dX6_init_1 ?_
  refine k_aload C 0 dX6_init_4 rfl rfl ?_
  refine k_sipush C dX6_init_5 (by decide) ?_
  refine k_newa2 (es' := pre ++ [.inr (5, [.null, .int (Int32.ofInt 0)]), eA X.2.2.2 160]) C (q := b + 1) (N := 160) rfl (Nat.le_of_ble_eq_true rfl) (apl hb rfl) (by omega) (by rw [hmc]; exact Nat.le_of_ble_eq_true rfl) (by rw [hms]; exact Nat.le_of_ble_eq_true rfl) dX6_init_8 (List.append_assoc _ _ _) ?_
  refine k_putF (es' := pre ++ [.inr (5, [.ref (X.2.2.2.2.1 (b + 1)), .int (Int32.ofInt 0)]), eA X.2.2.2 160]) C hin (q := b + 0) (fi := 0) cl_X6 (apg hb rfl) (by decide) rfl rfl fk_X6_9 rfl rfl (nlt rfl) (apl2 (i := 2) hb rfl (by show b + 2 ≤ 68; omega)) (aps hb rfl) dX6_init_10 ?_
  refine k_aload C 0 dX6_init_13 rfl rfl ?_
  refine k_iconst C dX6_init_14 ?_
  refine k_put (es' := pre ++ [.inr (5, [.ref (X.2.2.2.2.1 (b + 1)), .int (Int32.ofInt (0))]), eA X.2.2.2 160]) C (q := b + 0) (fi := 1) cl_X6 (apg hb rfl) (by decide) rfl fk_X6_15 rfl rfl (nlt rfl) (apl2 (i := 2) hb rfl (by show b + 2 ≤ 68; omega)) (aps hb rfl) dX6_init_15 ?_
  exact k_ret C E (by rw [hmc]; exact Nat.le_of_ble_eq_true rfl) (by rw [hms]; exact Nat.le_of_ble_eq_true rfl) dX6_init_18
abbrev md_X7_init : MD := (yX7_init, cX7_init, 1, none)
theorem pl_X7_init : plainFor yX7_init = true := by decide +kernel
theorem pdi_X7 : (parseMethodDescriptor "()V").map (fun d => d.parameters.length) = some 0 := by decide +kernel
theorem nbi_X7 : RX7 ≠ "java/lang/invoke/MethodHandle" ∧ RX7 ≠ "java/lang/invoke/VarHandle" := by decide +kernel
set_option maxRecDepth 100000 in
theorem oki_X7 : iOk md_X7_init 0 := ⟨⟨gd_mem 221 rfl rfl, gd_mem 119 rfl rfl, ⟨nbi_X7.1, nbi_X7.2, pdi_X7⟩, by decide⟩, gd_mem 220 rfl rfl, rfl, rfl⟩
set_option maxRecDepth 100000 in
theorem in_X7 : Cond.instantiable RX7 4 ∈ gd_tbl := gd_mem 218 rfl rfl
set_option maxRecDepth 100000 in
theorem iz_X7 : Cond.initialized RX7 ∈ gd_tbl := gd_mem 119 rfl rfl
abbrev fd_X7 : List Value := [.int (Int32.ofInt 0), .null, .null, .null]
theorem fdv_X7 : ∀ j, j < 4 → defaultValue (tyX7 j) = vp_V fd_X7 j := by decide +kernel
set_option maxRecDepth 100000 in
theorem ol_X7 : Cond.methodLink RX7 3 Lib.objectInit ∈ gd_tbl := gd_mem 222 rfl rfl
set_option maxRecDepth 100000 in
theorem fk_X7_9 : Cond.fieldLink RX7 9 (TX7 0).1 (TX7 0).2.1 (TX7 0).2.2.1 ∈ gd_tbl := gd_mem 225 rfl rfl
set_option maxRecDepth 100000 in
theorem kl_X7_15 : Cond.classLink RX7 15 "[[I" ∈ gd_tbl := gd_mem 223 rfl rfl
set_option maxRecDepth 100000 in
theorem fk_X7_17 : Cond.fieldLink RX7 17 (TX7 1).1 (TX7 1).2.1 (TX7 1).2.2.1 ∈ gd_tbl := gd_mem 227 rfl rfl
set_option maxRecDepth 100000 in
theorem fk_X7_20 : Cond.fieldLink RX7 20 (TX7 2).1 (TX7 2).2.1 (TX7 2).2.2.1 ∈ gd_tbl := gd_mem 228 rfl rfl
set_option maxRecDepth 100000 in
theorem fk_X7_23 : Cond.fieldLink RX7 23 (TX7 3).1 (TX7 3).2.1 (TX7 3).2.2.1 ∈ gd_tbl := gd_mem 229 rfl rfl
abbrev E_X7 (g : GX) (b : Nat) : List va_E := [.inr (6, [.int (Int32.ofInt (1)), .ref (g.2.1 (b + 1)), .ref (g.2.1 (b + 8)), .ref (g.2.1 (b + 15))]),
  eO g [b + 2, b + 3, b + 4, b + 5, b + 6, b + 7],
  .inl (g.2.2.1, 160, .inl (upd (upd (upd (fun _ => Int32.ofInt 0) 0 (Int32.ofInt (3))) 1 (Int32.ofInt (10))) 2 (Int32.ofInt (5)))),
  eA g 160,
  eA g 160,
  eA g 160,
  eA g 160,
  eA g 160,
  eO g [b + 9, b + 10, b + 11, b + 12, b + 13, b + 14],
  .inl (g.2.2.1, 3, .inl (upd (upd (upd (fun _ => Int32.ofInt 0) 0 (Int32.ofInt (1))) 1 (Int32.ofInt (2))) 2 (Int32.ofInt (3)))),
  eA g 3,
  eA g 3,
  eA g 3,
  eA g 3,
  eA g 3,
  eA g 160]
theorem cc_X7 {g : GX} {sz b : Nat} {pre : List va_E} (hsq : ∀ o, o < shN → g.2.1 o = sz + o) (hb : pre.length = b) (hB : b + 16 ≤ 68) : CC g sz md_X7_init 1 15 1150 [.ref (g.2.1 b)] (pre ++ [.inr (6, fd_X7)]) (pre ++ E_X7 g b) := by
  intro l
  refine Met.ofC (d := 0) hsq pl_X7_init rfl (Nat.le_of_ble_eq_true rfl) (fun X hg C hin E hnL hmc hms => ?_) l
  subst hg
  have C : Ck X cX7_init RX7 0 sz := C
  show CW X sz 0 [(0, .ref (X.2.2.2.2.1 b))] [] (pre ++ [.inr (6, fd_X7)]) 0 0
  refine k_aload C 0 dX7_init_0 rfl rfl ?_
  refine k_obj C ol_X7 dX7_init_1 ?_
  refine k_aload C 0 dX7_init_4 rfl rfl ?_
  refine k_iconst C dX7_init_5 ?_
  refine k_put (es' := pre ++ [.inr (6, [.int (Int32.ofInt (1)), .null, .null, .null])]) C (q := b + 0) (fi := 0) cl_X7 (apg hb rfl) (by decide) rfl fk_X7_9 rfl rfl (nlt rfl) (apl2 (i := 1) hb rfl (by show b + 1 ≤ 68; omega)) (aps hb rfl) dX7_init_6 ?_
  refine k_aload C 0 dX7_init_9 rfl rfl ?_
  refine k_bipush C dX7_init_10 (by decide) ?_
  refine k_sipush C dX7_init_12 (by decide) ?_
  refine k_mna2 (es' := pre ++ [.inr (6, [.int (Int32.ofInt (1)), .null, .null, .null]), eO X.2.2.2 [b + 2, b + 3, b + 4, b + 5, b + 6, b + 7], eA X.2.2.2 160, eA X.2.2.2 160, eA X.2.2.2 160, eA X.2.2.2 160, eA X.2.2.2 160, eA X.2.2.2 160]) C (q := b + 1) (N := 6) (J := 160) (ids := [b + 2, b + 3, b + 4, b + 5, b + 6, b + 7]) kl_X7_15 rfl rfl (Nat.le_of_ble_eq_true rfl) (Nat.le_of_ble_eq_true rfl) (apl hb rfl) (by show b + 1 + 6 < 68; omega) rfl (fun i hi => by match i, hi with | 0, _ => rfl | 1, _ => rfl | 2, _ => rfl | 3, _ => rfl | 4, _ => rfl | 5, _ => rfl) (by rw [hmc]; exact Nat.le_of_ble_eq_true rfl) (by rw [hms]; exact Nat.le_of_ble_eq_true rfl) dX7_init_15 (List.append_assoc _ _ _) ?_
  refine k_putF (es' := pre ++ [.inr (6, [.int (Int32.ofInt (1)), .ref (X.2.2.2.2.1 (b + 1)), .null, .null]), eO X.2.2.2 [b + 2, b + 3, b + 4, b + 5, b + 6, b + 7], eA X.2.2.2 160, eA X.2.2.2 160, eA X.2.2.2 160, eA X.2.2.2 160, eA X.2.2.2 160, eA X.2.2.2 160]) C hin (q := b + 0) (fi := 1) cl_X7 (apg hb rfl) (by decide) rfl rfl fk_X7_17 rfl rfl (nlt rfl) (apl2 (i := 8) hb rfl (by show b + 8 ≤ 68; omega)) (aps hb rfl) dX7_init_19 ?_
  refine k_aload C 0 dX7_init_22 rfl rfl ?_
  refine k_bipush C dX7_init_23 (by decide) ?_
  refine k_iconst C dX7_init_25 ?_
  refine k_mna2 (es' := pre ++ [.inr (6, [.int (Int32.ofInt (1)), .ref (X.2.2.2.2.1 (b + 1)), .null, .null]), eO X.2.2.2 [b + 2, b + 3, b + 4, b + 5, b + 6, b + 7], eA X.2.2.2 160, eA X.2.2.2 160, eA X.2.2.2 160, eA X.2.2.2 160, eA X.2.2.2 160, eA X.2.2.2 160, eO X.2.2.2 [b + 9, b + 10, b + 11, b + 12, b + 13, b + 14], eA X.2.2.2 3, eA X.2.2.2 3, eA X.2.2.2 3, eA X.2.2.2 3, eA X.2.2.2 3, eA X.2.2.2 3]) C (q := b + 8) (N := 6) (J := 3) (ids := [b + 9, b + 10, b + 11, b + 12, b + 13, b + 14]) kl_X7_15 rfl rfl (Nat.le_of_ble_eq_true rfl) (Nat.le_of_ble_eq_true rfl) (apl hb rfl) (by show b + 8 + 6 < 68; omega) rfl (fun i hi => by match i, hi with | 0, _ => rfl | 1, _ => rfl | 2, _ => rfl | 3, _ => rfl | 4, _ => rfl | 5, _ => rfl) (by rw [hmc]; exact Nat.le_of_ble_eq_true rfl) (by rw [hms]; exact Nat.le_of_ble_eq_true rfl) dX7_init_26 (List.append_assoc _ _ _) ?_
  refine k_putF (es' := pre ++ [.inr (6, [.int (Int32.ofInt (1)), .ref (X.2.2.2.2.1 (b + 1)), .ref (X.2.2.2.2.1 (b + 8)), .null]), eO X.2.2.2 [b + 2, b + 3, b + 4, b + 5, b + 6, b + 7], eA X.2.2.2 160, eA X.2.2.2 160, eA X.2.2.2 160, eA X.2.2.2 160, eA X.2.2.2 160, eA X.2.2.2 160, eO X.2.2.2 [b + 9, b + 10, b + 11, b + 12, b + 13, b + 14], eA X.2.2.2 3, eA X.2.2.2 3, eA X.2.2.2 3, eA X.2.2.2 3, eA X.2.2.2 3, eA X.2.2.2 3]) C hin (q := b + 0) (fi := 2) cl_X7 (apg hb rfl) (by decide) rfl rfl fk_X7_20 rfl rfl (nlt rfl) (apl2 (i := 15) hb rfl (by show b + 15 ≤ 68; omega)) (aps hb rfl) dX7_init_30 ?_
  refine k_aload C 0 dX7_init_33 rfl rfl ?_
  refine k_sipush C dX7_init_34 (by decide) ?_
  refine k_newa2 (es' := pre ++ [.inr (6, [.int (Int32.ofInt (1)), .ref (X.2.2.2.2.1 (b + 1)), .ref (X.2.2.2.2.1 (b + 8)), .null]), eO X.2.2.2 [b + 2, b + 3, b + 4, b + 5, b + 6, b + 7], eA X.2.2.2 160, eA X.2.2.2 160, eA X.2.2.2 160, eA X.2.2.2 160, eA X.2.2.2 160, eA X.2.2.2 160, eO X.2.2.2 [b + 9, b + 10, b + 11, b + 12, b + 13, b + 14], eA X.2.2.2 3, eA X.2.2.2 3, eA X.2.2.2 3, eA X.2.2.2 3, eA X.2.2.2 3, eA X.2.2.2 3, eA X.2.2.2 160]) C (q := b + 15) (N := 160) rfl (Nat.le_of_ble_eq_true rfl) (apl hb rfl) (by omega) (by rw [hmc]; exact Nat.le_of_ble_eq_true rfl) (by rw [hms]; exact Nat.le_of_ble_eq_true rfl) dX7_init_37 (List.append_assoc _ _ _) ?_
  refine k_putF (es' := pre ++ [.inr (6, [.int (Int32.ofInt (1)), .ref (X.2.2.2.2.1 (b + 1)), .ref (X.2.2.2.2.1 (b + 8)), .ref (X.2.2.2.2.1 (b + 15))]), eO X.2.2.2 [b + 2, b + 3, b + 4, b + 5, b + 6, b + 7], eA X.2.2.2 160, eA X.2.2.2 160, eA X.2.2.2 160, eA X.2.2.2 160, eA X.2.2.2 160, eA X.2.2.2 160, eO X.2.2.2 [b + 9, b + 10, b + 11, b + 12, b + 13, b + 14], eA X.2.2.2 3, eA X.2.2.2 3, eA X.2.2.2 3, eA X.2.2.2 3, eA X.2.2.2 3, eA X.2.2.2 3, eA X.2.2.2 160]) C hin (q := b + 0) (fi := 3) cl_X7 (apg hb rfl) (by decide) rfl rfl fk_X7_23 rfl rfl (nlt rfl) (apl2 (i := 16) hb rfl (by show b + 16 ≤ 68; omega)) (aps hb rfl) dX7_init_39 ?_
  refine k_aload C 0 dX7_init_42 rfl rfl ?_
  refine k_get C (q := b + 0) (fi := 1) cl_X7 (apg hb rfl) (by decide) fk_X7_17 rfl dX7_init_43 ?_
  refine k_iconst C dX7_init_46 ?_
  refine k_aald C (q := b + 1) (apg hb rfl) (r32_of rfl) (by show (0 : Int) ≤ 0 ∧ (0 : Int) < 6; decide) rfl dX7_init_47 ?_
  refine k_iconst C dX7_init_48 ?_
  refine k_iconst C dX7_init_49 ?_
  refine k_iast (es' := pre ++ [.inr (6, [.int (Int32.ofInt (1)), .ref (X.2.2.2.2.1 (b + 1)), .ref (X.2.2.2.2.1 (b + 8)), .ref (X.2.2.2.2.1 (b + 15))]), eO X.2.2.2 [b + 2, b + 3, b + 4, b + 5, b + 6, b + 7], .inl (X.2.2.2.2.2.1, 160, .inl (upd (fun _ => Int32.ofInt 0) 0 (Int32.ofInt (3)))), eA X.2.2.2 160, eA X.2.2.2 160, eA X.2.2.2 160, eA X.2.2.2 160, eA X.2.2.2 160, eO X.2.2.2 [b + 9, b + 10, b + 11, b + 12, b + 13, b + 14], eA X.2.2.2 3, eA X.2.2.2 3, eA X.2.2.2 3, eA X.2.2.2 3, eA X.2.2.2 3, eA X.2.2.2 3, eA X.2.2.2 160]) C (q := b + 2) (apg hb rfl) (r32_of rfl) (by decide) (apl2 (i := 16) hb rfl (by show b + 16 ≤ 68; omega)) (aps hb rfl) dX7_init_50 ?_
  refine k_aload C 0 dX7_init_51 rfl rfl ?_
  refine k_get C (q := b + 0) (fi := 1) cl_X7 (apg hb rfl) (by decide) fk_X7_17 rfl dX7_init_52 ?_
  refine k_iconst C dX7_init_55 ?_
  refine k_aald C (q := b + 1) (apg hb rfl) (r32_of rfl) (by show (0 : Int) ≤ 0 ∧ (0 : Int) < 6; decide) rfl dX7_init_56 ?_
  refine k_iconst C dX7_init_57 ?_
  refine k_bipush C dX7_init_58 (by decide) ?_
  refine k_iast (es' := pre ++ [.inr (6, [.int (Int32.ofInt (1)), .ref (X.2.2.2.2.1 (b + 1)), .ref (X.2.2.2.2.1 (b + 8)), .ref (X.2.2.2.2.1 (b + 15))]), eO X.2.2.2 [b + 2, b + 3, b + 4, b + 5, b + 6, b + 7], .inl (X.2.2.2.2.2.1, 160, .inl (upd (upd (fun _ => Int32.ofInt 0) 0 (Int32.ofInt (3))) 1 (Int32.ofInt (10)))), eA X.2.2.2 160, eA X.2.2.2 160, eA X.2.2.2 160, eA X.2.2.2 160, eA X.2.2.2 160, eO X.2.2.2 [b + 9, b + 10, b + 11, b + 12, b + 13, b + 14], eA X.2.2.2 3, eA X.2.2.2 3, eA X.2.2.2 3, eA X.2.2.2 3, eA X.2.2.2 3, eA X.2.2.2 3, eA X.2.2.2 160]) C (q := b + 2) (apg hb rfl) (r32_of rfl) (by decide) (apl2 (i := 16) hb rfl (by show b + 16 ≤ 68; omega)) (aps hb rfl) dX7_init_60 ?_
  refine k_aload C 0 dX7_init_61 rfl rfl ?_
  refine k_get C (q := b + 0) (fi := 1) cl_X7 (apg hb rfl) (by decide) fk_X7_17 rfl dX7_init_62 ?_
  refine k_iconst C dX7_init_65 ?_
  refine k_aald C (q := b + 1) (apg hb rfl) (r32_of rfl) (by show (0 : Int) ≤ 0 ∧ (0 : Int) < 6; decide) rfl dX7_init_66 ?_
  refine k_iconst C dX7_init_67 ?_
  refine k_iconst C dX7_init_68 ?_
  refine k_iast (es' := pre ++ [.inr (6, [.int (Int32.ofInt (1)), .ref (X.2.2.2.2.1 (b + 1)), .ref (X.2.2.2.2.1 (b + 8)), .ref (X.2.2.2.2.1 (b + 15))]), eO X.2.2.2 [b + 2, b + 3, b + 4, b + 5, b + 6, b + 7], .inl (X.2.2.2.2.2.1, 160, .inl (upd (upd (upd (fun _ => Int32.ofInt 0) 0 (Int32.ofInt (3))) 1 (Int32.ofInt (10))) 2 (Int32.ofInt (5)))), eA X.2.2.2 160, eA X.2.2.2 160, eA X.2.2.2 160, eA X.2.2.2 160, eA X.2.2.2 160, eO X.2.2.2 [b + 9, b + 10, b + 11, b + 12, b + 13, b + 14], eA X.2.2.2 3, eA X.2.2.2 3, eA X.2.2.2 3, eA X.2.2.2 3, eA X.2.2.2 3, eA X.2.2.2 3, eA X.2.2.2 160]) C (q := b + 2) (apg hb rfl) (r32_of rfl) (by decide) (apl2 (i := 16) hb rfl (by show b + 16 ≤ 68; omega)) (aps hb rfl) dX7_init_69 ?_
  refine k_aload C 0 dX7_init_70 rfl rfl ?_
  refine k_get C (q := b + 0) (fi := 2) cl_X7 (apg hb rfl) (by decide) fk_X7_20 rfl dX7_init_71 ?_
  refine k_iconst C dX7_init_74 ?_
  refine k_aald C (q := b + 8) (apg hb rfl) (r32_of rfl) (by show (0 : Int) ≤ 0 ∧ (0 : Int) < 6; decide) rfl dX7_init_75 ?_
  refine k_iconst C dX7_init_76 ?_
  refine k_iconst C dX7_init_77 ?_
  refine k_iast (es' := pre ++ [.inr (6, [.int (Int32.ofInt (1)), .ref (X.2.2.2.2.1 (b + 1)), .ref (X.2.2.2.2.1 (b + 8)), .ref (X.2.2.2.2.1 (b + 15))]), eO X.2.2.2 [b + 2, b + 3, b + 4, b + 5, b + 6, b + 7], .inl (X.2.2.2.2.2.1, 160, .inl (upd (upd (upd (fun _ => Int32.ofInt 0) 0 (Int32.ofInt (3))) 1 (Int32.ofInt (10))) 2 (Int32.ofInt (5)))), eA X.2.2.2 160, eA X.2.2.2 160, eA X.2.2.2 160, eA X.2.2.2 160, eA X.2.2.2 160, eO X.2.2.2 [b + 9, b + 10, b + 11, b + 12, b + 13, b + 14], .inl (X.2.2.2.2.2.1, 3, .inl (upd (fun _ => Int32.ofInt 0) 0 (Int32.ofInt (1)))), eA X.2.2.2 3, eA X.2.2.2 3, eA X.2.2.2 3, eA X.2.2.2 3, eA X.2.2.2 3, eA X.2.2.2 160]) C (q := b + 9) (apg hb rfl) (r32_of rfl) (by decide) (apl2 (i := 16) hb rfl (by show b + 16 ≤ 68; omega)) (aps hb rfl) dX7_init_78 ?_
  refine k_aload C 0 dX7_init_79 rfl rfl ?_
  refine k_get C (q := b + 0) (fi := 2) cl_X7 (apg hb rfl) (by decide) fk_X7_20 rfl dX7_init_80 ?_
  refine k_iconst C dX7_init_83 ?_
  refine k_aald C (q := b + 8) (apg hb rfl) (r32_of rfl) (by show (0 : Int) ≤ 0 ∧ (0 : Int) < 6; decide) rfl dX7_init_84 ?_
  refine k_iconst C dX7_init_85 ?_
  refine k_iconst C dX7_init_86 ?_
  refine k_iast (es' := pre ++ [.inr (6, [.int (Int32.ofInt (1)), .ref (X.2.2.2.2.1 (b + 1)), .ref (X.2.2.2.2.1 (b + 8)), .ref (X.2.2.2.2.1 (b + 15))]), eO X.2.2.2 [b + 2, b + 3, b + 4, b + 5, b + 6, b + 7], .inl (X.2.2.2.2.2.1, 160, .inl (upd (upd (upd (fun _ => Int32.ofInt 0) 0 (Int32.ofInt (3))) 1 (Int32.ofInt (10))) 2 (Int32.ofInt (5)))), eA X.2.2.2 160, eA X.2.2.2 160, eA X.2.2.2 160, eA X.2.2.2 160, eA X.2.2.2 160, eO X.2.2.2 [b + 9, b + 10, b + 11, b + 12, b + 13, b + 14], .inl (X.2.2.2.2.2.1, 3, .inl (upd (upd (fun _ => Int32.ofInt 0) 0 (Int32.ofInt (1))) 1 (Int32.ofInt (2)))), eA X.2.2.2 3, eA X.2.2.2 3, eA X.2.2.2 3, eA X.2.2.2 3, eA X.2.2.2 3, eA X.2.2.2 160]) C (q := b + 9) (apg hb rfl) (r32_of rfl) (by decide) (apl2 (i := 16) hb rfl (by show b + 16 ≤ 68; omega)) (aps hb rfl) dX7_init_87 ?_
  refine k_aload C 0 dX7_init_88 rfl rfl ?_
  refine k_get C (q := b + 0) (fi := 2) cl_X7 (apg hb rfl) (by decide) fk_X7_20 rfl dX7_init_89 ?_
  refine k_iconst C dX7_init_92 ?_
  refine k_aald C (q := b + 8) (apg hb rfl) (r32_of rfl) (by show (0 : Int) ≤ 0 ∧ (0 : Int) < 6; decide) rfl dX7_init_93 ?_
  refine k_iconst C dX7_init_94 ?_
  refine k_iconst C dX7_init_95 ?_
  refine k_iast (es' := pre ++ [.inr (6, [.int (Int32.ofInt (1)), .ref (X.2.2.2.2.1 (b + 1)), .ref (X.2.2.2.2.1 (b + 8)), .ref (X.2.2.2.2.1 (b + 15))]), eO X.2.2.2 [b + 2, b + 3, b + 4, b + 5, b + 6, b + 7], .inl (X.2.2.2.2.2.1, 160, .inl (upd (upd (upd (fun _ => Int32.ofInt 0) 0 (Int32.ofInt (3))) 1 (Int32.ofInt (10))) 2 (Int32.ofInt (5)))), eA X.2.2.2 160, eA X.2.2.2 160, eA X.2.2.2 160, eA X.2.2.2 160, eA X.2.2.2 160, eO X.2.2.2 [b + 9, b + 10, b + 11, b + 12, b + 13, b + 14], .inl (X.2.2.2.2.2.1, 3, .inl (upd (upd (upd (fun _ => Int32.ofInt 0) 0 (Int32.ofInt (1))) 1 (Int32.ofInt (2))) 2 (Int32.ofInt (3)))), eA X.2.2.2 3, eA X.2.2.2 3, eA X.2.2.2 3, eA X.2.2.2 3, eA X.2.2.2 3, eA X.2.2.2 160]) C (q := b + 9) (apg hb rfl) (r32_of rfl) (by decide) (apl2 (i := 16) hb rfl (by show b + 16 ≤ 68; omega)) (aps hb rfl) dX7_init_96 ?_
  exact k_ret C E (by rw [hmc]; exact Nat.le_of_ble_eq_true rfl) (by rw [hms]; exact Nat.le_of_ble_eq_true rfl) dX7_init_97
abbrev md_X4_init : MD := (yX4_init, cX4_init, 2, none)
theorem pl_X4_init : plainFor yX4_init = true := by decide +kernel
theorem pdi_X4 : (parseMethodDescriptor "(LFortyStems$Tape;)V").map (fun d => d.parameters.length) = some 1 := by decide +kernel
theorem nbi_X4 : RX4 ≠ "java/lang/invoke/MethodHandle" ∧ RX4 ≠ "java/lang/invoke/VarHandle" := by decide +kernel
set_option maxRecDepth 100000 in
theorem oki_X4 : iOk md_X4_init 1 := ⟨⟨gd_mem 243 rfl rfl, gd_mem 120 rfl rfl, ⟨nbi_X4.1, nbi_X4.2, pdi_X4⟩, by decide⟩, gd_mem 242 rfl rfl, rfl, rfl⟩
set_option maxRecDepth 100000 in
theorem in_X4 : Cond.instantiable RX4 9 ∈ gd_tbl := gd_mem 240 rfl rfl
set_option maxRecDepth 100000 in
theorem iz_X4 : Cond.initialized RX4 ∈ gd_tbl := gd_mem 120 rfl rfl
abbrev fd_X4 : List Value := [.null, .null, .null, .int (Int32.ofInt 0), .int (Int32.ofInt 0), .int (Int32.ofInt 0), .int (Int32.ofInt 0), .int (Int32.ofInt 0), .int (Int32.ofInt 0)]
theorem fdv_X4 : ∀ j, j < 9 → defaultValue (tyX4 j) = vp_V fd_X4 j := by decide +kernel
set_option maxRecDepth 100000 in
theorem ol_X4 : Cond.methodLink RX4 3 Lib.objectInit ∈ gd_tbl := gd_mem 244 rfl rfl
set_option maxRecDepth 100000 in
theorem fk_X4_9 : Cond.fieldLink RX4 9 (TX4 1).1 (TX4 1).2.1 (TX4 1).2.2.1 ∈ gd_tbl := gd_mem 246 rfl rfl
set_option maxRecDepth 100000 in
theorem fk_X4_17 : Cond.fieldLink RX4 17 (TX4 2).1 (TX4 2).2.1 (TX4 2).2.2.1 ∈ gd_tbl := gd_mem 248 rfl rfl
set_option maxRecDepth 100000 in
theorem fk_X4_20 : Cond.fieldLink RX4 20 (TX4 3).1 (TX4 3).2.1 (TX4 3).2.2.1 ∈ gd_tbl := gd_mem 250 rfl rfl
set_option maxRecDepth 100000 in
theorem fk_X4_24 : Cond.fieldLink RX4 24 (TX4 4).1 (TX4 4).2.1 (TX4 4).2.2.1 ∈ gd_tbl := gd_mem 251 rfl rfl
set_option maxRecDepth 100000 in
theorem fk_X4_27 : Cond.fieldLink RX4 27 (TX4 5).1 (TX4 5).2.1 (TX4 5).2.2.1 ∈ gd_tbl := gd_mem 252 rfl rfl
set_option maxRecDepth 100000 in
theorem fk_X4_30 : Cond.fieldLink RX4 30 (TX4 6).1 (TX4 6).2.1 (TX4 6).2.2.1 ∈ gd_tbl := gd_mem 253 rfl rfl
set_option maxRecDepth 100000 in
theorem fk_X4_33 : Cond.fieldLink RX4 33 (TX4 7).1 (TX4 7).2.1 (TX4 7).2.2.1 ∈ gd_tbl := gd_mem 254 rfl rfl
set_option maxRecDepth 100000 in
theorem fk_X4_36 : Cond.fieldLink RX4 36 (TX4 8).1 (TX4 8).2.1 (TX4 8).2.2.1 ∈ gd_tbl := gd_mem 255 rfl rfl
set_option maxRecDepth 100000 in
theorem fk_X4_39 : Cond.fieldLink RX4 39 (TX4 0).1 (TX4 0).2.1 (TX4 0).2.2.1 ∈ gd_tbl := gd_mem 245 rfl rfl
abbrev E_X4 (g : GX) (b t1 : Nat) : List va_E := [.inr (3, [.ref t1, .ref (g.2.1 (b + 1)), .ref (g.2.1 (b + 2)), .int (Int32.ofInt (0)), .int (Int32.ofInt (0)), .int (Int32.ofInt (-1)), .int (Int32.ofInt (13)), .int (Int32.ofInt (0)), .int (Int32.ofInt (0))]),
  eA g 160,
  eA g 3]
theorem cc_X4 {g : GX} {sz b t1 : Nat} {pre : List va_E} (hsq : ∀ o, o < shN → g.2.1 o = sz + o) (hb : pre.length = b) (hB : b + 3 ≤ 68) : CC g sz md_X4_init 1 2 163 [.ref (g.2.1 b), .ref t1] (pre ++ [.inr (3, fd_X4)]) (pre ++ E_X4 g b t1) := by
  intro l
  refine Met.ofC (d := 0) hsq pl_X4_init rfl (Nat.le_of_ble_eq_true rfl) (fun X hg C hin E hnL hmc hms => ?_) l
  subst hg
  have C : Ck X cX4_init RX4 0 sz := C
  show CW X sz 0 [(0, .ref (X.2.2.2.2.1 b)), (1, .ref t1)] [] (pre ++ [.inr (3, fd_X4)]) 0 0
  refine k_aload C 0 dX4_init_0 rfl rfl ?_
  refine k_obj C ol_X4 dX4_init_1 ?_
  refine k_aload C 0 dX4_init_4 rfl rfl ?_
  refine k_sipush C dX4_init_5 (by decide) ?_
  refine k_newa2 (es' := pre ++ [.inr (3, [.null, .null, .null, .int (Int32.ofInt 0), .int (Int32.ofInt 0), .int (Int32.ofInt 0), .int (Int32.ofInt 0), .int (Int32.ofInt 0), .int (Int32.ofInt 0)]), eA X.2.2.2 160]) C (q := b + 1) (N := 160) rfl (Nat.le_of_ble_eq_true rfl) (apl hb rfl) (by omega) (by rw [hmc]; exact Nat.le_of_ble_eq_true rfl) (by rw [hms]; exact Nat.le_of_ble_eq_true rfl) dX4_init_8 (List.append_assoc _ _ _) ?_
  refine k_putF (es' := pre ++ [.inr (3, [.null, .ref (X.2.2.2.2.1 (b + 1)), .null, .int (Int32.ofInt 0), .int (Int32.ofInt 0), .int (Int32.ofInt 0), .int (Int32.ofInt 0), .int (Int32.ofInt 0), .int (Int32.ofInt 0)]), eA X.2.2.2 160]) C hin (q := b + 0) (fi := 1) cl_X4 (apg hb rfl) (by decide) rfl rfl fk_X4_9 rfl rfl (nlt rfl) (apl2 (i := 2) hb rfl (by show b + 2 ≤ 68; omega)) (aps hb rfl) dX4_init_10 ?_
  refine k_aload C 0 dX4_init_13 rfl rfl ?_
  refine k_iconst C dX4_init_14 ?_
  refine k_newa2 (es' := pre ++ [.inr (3, [.null, .ref (X.2.2.2.2.1 (b + 1)), .null, .int (Int32.ofInt 0), .int (Int32.ofInt 0), .int (Int32.ofInt 0), .int (Int32.ofInt 0), .int (Int32.ofInt 0), .int (Int32.ofInt 0)]), eA X.2.2.2 160, eA X.2.2.2 3]) C (q := b + 2) (N := 3) rfl (Nat.le_of_ble_eq_true rfl) (apl hb rfl) (by omega) (by rw [hmc]; exact Nat.le_of_ble_eq_true rfl) (by rw [hms]; exact Nat.le_of_ble_eq_true rfl) dX4_init_15 (List.append_assoc _ _ _) ?_
  refine k_putF (es' := pre ++ [.inr (3, [.null, .ref (X.2.2.2.2.1 (b + 1)), .ref (X.2.2.2.2.1 (b + 2)), .int (Int32.ofInt 0), .int (Int32.ofInt 0), .int (Int32.ofInt 0), .int (Int32.ofInt 0), .int (Int32.ofInt 0), .int (Int32.ofInt 0)]), eA X.2.2.2 160, eA X.2.2.2 3]) C hin (q := b + 0) (fi := 2) cl_X4 (apg hb rfl) (by decide) rfl rfl fk_X4_17 rfl rfl (nlt rfl) (apl2 (i := 3) hb rfl (by show b + 3 ≤ 68; omega)) (aps hb rfl) dX4_init_17 ?_
  refine k_aload C 0 dX4_init_20 rfl rfl ?_
  refine k_iconst C dX4_init_21 ?_
  refine k_put (es' := pre ++ [.inr (3, [.null, .ref (X.2.2.2.2.1 (b + 1)), .ref (X.2.2.2.2.1 (b + 2)), .int (Int32.ofInt (0)), .int (Int32.ofInt 0), .int (Int32.ofInt 0), .int (Int32.ofInt 0), .int (Int32.ofInt 0), .int (Int32.ofInt 0)]), eA X.2.2.2 160, eA X.2.2.2 3]) C (q := b + 0) (fi := 3) cl_X4 (apg hb rfl) (by decide) rfl fk_X4_20 rfl rfl (nlt rfl) (apl2 (i := 3) hb rfl (by show b + 3 ≤ 68; omega)) (aps hb rfl) dX4_init_22 ?_
  refine k_aload C 0 dX4_init_25 rfl rfl ?_
  refine k_iconst C dX4_init_26 ?_
  refine k_put (es' := pre ++ [.inr (3, [.null, .ref (X.2.2.2.2.1 (b + 1)), .ref (X.2.2.2.2.1 (b + 2)), .int (Int32.ofInt (0)), .int (Int32.ofInt (0)), .int (Int32.ofInt 0), .int (Int32.ofInt 0), .int (Int32.ofInt 0), .int (Int32.ofInt 0)]), eA X.2.2.2 160, eA X.2.2.2 3]) C (q := b + 0) (fi := 4) cl_X4 (apg hb rfl) (by decide) rfl fk_X4_24 rfl rfl (nlt rfl) (apl2 (i := 3) hb rfl (by show b + 3 ≤ 68; omega)) (aps hb rfl) dX4_init_27 ?_
  refine k_aload C 0 dX4_init_30 rfl rfl ?_
  refine k_iconst C dX4_init_31 ?_
  refine k_put (es' := pre ++ [.inr (3, [.null, .ref (X.2.2.2.2.1 (b + 1)), .ref (X.2.2.2.2.1 (b + 2)), .int (Int32.ofInt (0)), .int (Int32.ofInt (0)), .int (Int32.ofInt (-1)), .int (Int32.ofInt 0), .int (Int32.ofInt 0), .int (Int32.ofInt 0)]), eA X.2.2.2 160, eA X.2.2.2 3]) C (q := b + 0) (fi := 5) cl_X4 (apg hb rfl) (by decide) rfl fk_X4_27 rfl rfl (nlt rfl) (apl2 (i := 3) hb rfl (by show b + 3 ≤ 68; omega)) (aps hb rfl) dX4_init_32 ?_
  refine k_aload C 0 dX4_init_35 rfl rfl ?_
  refine k_bipush C dX4_init_36 (by decide) ?_
  refine k_put (es' := pre ++ [.inr (3, [.null, .ref (X.2.2.2.2.1 (b + 1)), .ref (X.2.2.2.2.1 (b + 2)), .int (Int32.ofInt (0)), .int (Int32.ofInt (0)), .int (Int32.ofInt (-1)), .int (Int32.ofInt (13)), .int (Int32.ofInt 0), .int (Int32.ofInt 0)]), eA X.2.2.2 160, eA X.2.2.2 3]) C (q := b + 0) (fi := 6) cl_X4 (apg hb rfl) (by decide) rfl fk_X4_30 rfl rfl (nlt rfl) (apl2 (i := 3) hb rfl (by show b + 3 ≤ 68; omega)) (aps hb rfl) dX4_init_38 ?_
  refine k_aload C 0 dX4_init_41 rfl rfl ?_
  refine k_iconst C dX4_init_42 ?_
  refine k_put (es' := pre ++ [.inr (3, [.null, .ref (X.2.2.2.2.1 (b + 1)), .ref (X.2.2.2.2.1 (b + 2)), .int (Int32.ofInt (0)), .int (Int32.ofInt (0)), .int (Int32.ofInt (-1)), .int (Int32.ofInt (13)), .int (Int32.ofInt (0)), .int (Int32.ofInt 0)]), eA X.2.2.2 160, eA X.2.2.2 3]) C (q := b + 0) (fi := 7) cl_X4 (apg hb rfl) (by decide) rfl fk_X4_33 rfl rfl (nlt rfl) (apl2 (i := 3) hb rfl (by show b + 3 ≤ 68; omega)) (aps hb rfl) dX4_init_43 ?_
  refine k_aload C 0 dX4_init_46 rfl rfl ?_
  refine k_iconst C dX4_init_47 ?_
  refine k_put (es' := pre ++ [.inr (3, [.null, .ref (X.2.2.2.2.1 (b + 1)), .ref (X.2.2.2.2.1 (b + 2)), .int (Int32.ofInt (0)), .int (Int32.ofInt (0)), .int (Int32.ofInt (-1)), .int (Int32.ofInt (13)), .int (Int32.ofInt (0)), .int (Int32.ofInt (0))]), eA X.2.2.2 160, eA X.2.2.2 3]) C (q := b + 0) (fi := 8) cl_X4 (apg hb rfl) (by decide) rfl fk_X4_36 rfl rfl (nlt rfl) (apl2 (i := 3) hb rfl (by show b + 3 ≤ 68; omega)) (aps hb rfl) dX4_init_48 ?_
  refine k_aload C 0 dX4_init_51 rfl rfl ?_
  refine k_aload C 1 dX4_init_52 rfl rfl ?_
  refine k_putF (es' := pre ++ [.inr (3, [.ref t1, .ref (X.2.2.2.2.1 (b + 1)), .ref (X.2.2.2.2.1 (b + 2)), .int (Int32.ofInt (0)), .int (Int32.ofInt (0)), .int (Int32.ofInt (-1)), .int (Int32.ofInt (13)), .int (Int32.ofInt (0)), .int (Int32.ofInt (0))]), eA X.2.2.2 160, eA X.2.2.2 3]) C hin (q := b + 0) (fi := 0) cl_X4 (apg hb rfl) (by decide) rfl rfl fk_X4_39 rfl rfl (nlt rfl) (apl2 (i := 3) hb rfl (by show b + 3 ≤ 68; omega)) (aps hb rfl) dX4_init_53 ?_
  exact k_ret C E (by rw [hmc]; exact Nat.le_of_ble_eq_true rfl) (by rw [hms]; exact Nat.le_of_ble_eq_true rfl) dX4_init_56
abbrev md_X2_init : MD := (yX2_init, cX2_init, 2, none)
theorem pl_X2_init : plainFor yX2_init = true := by decide +kernel
theorem pdi_X2 : (parseMethodDescriptor "(LFortyStems$Texts;)V").map (fun d => d.parameters.length) = some 1 := by decide +kernel
theorem nbi_X2 : RX2 ≠ "java/lang/invoke/MethodHandle" ∧ RX2 ≠ "java/lang/invoke/VarHandle" := by decide +kernel
set_option maxRecDepth 100000 in
theorem oki_X2 : iOk md_X2_init 1 := ⟨⟨gd_mem 279 rfl rfl, gd_mem 121 rfl rfl, ⟨nbi_X2.1, nbi_X2.2, pdi_X2⟩, by decide⟩, gd_mem 278 rfl rfl, rfl, rfl⟩
set_option maxRecDepth 100000 in
theorem in_X2 : Cond.instantiable RX2 4 ∈ gd_tbl := gd_mem 276 rfl rfl
set_option maxRecDepth 100000 in
theorem iz_X2 : Cond.initialized RX2 ∈ gd_tbl := gd_mem 121 rfl rfl
abbrev fd_X2 : List Value := [.null, .int (Int32.ofInt 0), .int (Int32.ofInt 0), .null]
theorem fdv_X2 : ∀ j, j < 4 → defaultValue (tyX2 j) = vp_V fd_X2 j := by decide +kernel
set_option maxRecDepth 100000 in
theorem ol_X2 : Cond.methodLink RX2 3 Lib.objectInit ∈ gd_tbl := gd_mem 280 rfl rfl
set_option maxRecDepth 100000 in
theorem fk_X2_9 : Cond.fieldLink RX2 9 (TX2 1).1 (TX2 1).2.1 (TX2 1).2.2.1 ∈ gd_tbl := gd_mem 282 rfl rfl
set_option maxRecDepth 100000 in
theorem fk_X2_15 : Cond.fieldLink RX2 15 (TX2 2).1 (TX2 2).2.1 (TX2 2).2.2.1 ∈ gd_tbl := gd_mem 283 rfl rfl
set_option maxRecDepth 100000 in
theorem fk_X2_20 : Cond.fieldLink RX2 20 (TX2 3).1 (TX2 3).2.1 (TX2 3).2.2.1 ∈ gd_tbl := gd_mem 284 rfl rfl
set_option maxRecDepth 100000 in
theorem fk_X2_24 : Cond.fieldLink RX2 24 (TX2 0).1 (TX2 0).2.1 (TX2 0).2.2.1 ∈ gd_tbl := gd_mem 281 rfl rfl
abbrev E_X2 (g : GX) (b t1 : Nat) : List va_E := [.inr (1, [.ref t1, .int (Int32.ofInt (0)), .int (Int32.ofInt (0)), .ref (g.2.1 (b + 1))]),
  eA g 6]
theorem cc_X2 {g : GX} {sz b t1 : Nat} {pre : List va_E} (hsq : ∀ o, o < shN → g.2.1 o = sz + o) (hb : pre.length = b) (hB : b + 2 ≤ 68) : CC g sz md_X2_init 1 1 6 [.ref (g.2.1 b), .ref t1] (pre ++ [.inr (1, fd_X2)]) (pre ++ E_X2 g b t1) := by
  intro l
  refine Met.ofC (d := 0) hsq pl_X2_init rfl (Nat.le_of_ble_eq_true rfl) (fun X hg C hin E hnL hmc hms => ?_) l
  subst hg
  have C : Ck X cX2_init RX2 0 sz := C
  show CW X sz 0 [(0, .ref (X.2.2.2.2.1 b)), (1, .ref t1)] [] (pre ++ [.inr (1, fd_X2)]) 0 0
  refine k_aload C 0 dX2_init_0 rfl rfl ?_
  refine k_obj C ol_X2 dX2_init_1 ?_
  refine k_aload C 0 dX2_init_4 rfl rfl ?_
  refine k_iconst C dX2_init_5 ?_
  refine k_put (es' := pre ++ [.inr (1, [.null, .int (Int32.ofInt (0)), .int (Int32.ofInt 0), .null])]) C (q := b + 0) (fi := 1) cl_X2 (apg hb rfl) (by decide) rfl fk_X2_9 rfl rfl (nlt rfl) (apl2 (i := 1) hb rfl (by show b + 1 ≤ 68; omega)) (aps hb rfl) dX2_init_6 ?_
  refine k_aload C 0 dX2_init_9 rfl rfl ?_
  refine k_iconst C dX2_init_10 ?_
  refine k_put (es' := pre ++ [.inr (1, [.null, .int (Int32.ofInt (0)), .int (Int32.ofInt (0)), .null])]) C (q := b + 0) (fi := 2) cl_X2 (apg hb rfl) (by decide) rfl fk_X2_15 rfl rfl (nlt rfl) (apl2 (i := 1) hb rfl (by show b + 1 ≤ 68; omega)) (aps hb rfl) dX2_init_11 ?_
  refine k_aload C 0 dX2_init_14 rfl rfl ?_
  refine k_bipush C dX2_init_15 (by decide) ?_
  refine k_newa2 (es' := pre ++ [.inr (1, [.null, .int (Int32.ofInt (0)), .int (Int32.ofInt (0)), .null]), eA X.2.2.2 6]) C (q := b + 1) (N := 6) rfl (Nat.le_of_ble_eq_true rfl) (apl hb rfl) (by omega) (by rw [hmc]; exact Nat.le_of_ble_eq_true rfl) (by rw [hms]; exact Nat.le_of_ble_eq_true rfl) dX2_init_17 (List.append_assoc _ _ _) ?_
  refine k_putF (es' := pre ++ [.inr (1, [.null, .int (Int32.ofInt (0)), .int (Int32.ofInt (0)), .ref (X.2.2.2.2.1 (b + 1))]), eA X.2.2.2 6]) C hin (q := b + 0) (fi := 3) cl_X2 (apg hb rfl) (by decide) rfl rfl fk_X2_20 rfl rfl (nlt rfl) (apl2 (i := 2) hb rfl (by show b + 2 ≤ 68; omega)) (aps hb rfl) dX2_init_19 ?_
  refine k_aload C 0 dX2_init_22 rfl rfl ?_
  refine k_aload C 1 dX2_init_23 rfl rfl ?_
  refine k_putF (es' := pre ++ [.inr (1, [.ref t1, .int (Int32.ofInt (0)), .int (Int32.ofInt (0)), .ref (X.2.2.2.2.1 (b + 1))]), eA X.2.2.2 6]) C hin (q := b + 0) (fi := 0) cl_X2 (apg hb rfl) (by decide) rfl rfl fk_X2_24 rfl rfl (nlt rfl) (apl2 (i := 2) hb rfl (by show b + 2 ≤ 68; omega)) (aps hb rfl) dX2_init_24 ?_
  exact k_ret C E (by rw [hmc]; exact Nat.le_of_ble_eq_true rfl) (by rw [hms]; exact Nat.le_of_ble_eq_true rfl) dX2_init_27
abbrev md_X8_init : MD := (yX8_init, cX8_init, 3, none)
theorem pl_X8_init : plainFor yX8_init = true := by decide +kernel
theorem pdi_X8 : (parseMethodDescriptor "(LFortyStems$Hand;LFortyStems$Moment;)V").map (fun d => d.parameters.length) = some 2 := by decide +kernel
theorem nbi_X8 : RX8 ≠ "java/lang/invoke/MethodHandle" ∧ RX8 ≠ "java/lang/invoke/VarHandle" := by decide +kernel
set_option maxRecDepth 100000 in
theorem oki_X8 : iOk md_X8_init 2 := ⟨⟨gd_mem 298 rfl rfl, gd_mem 122 rfl rfl, ⟨nbi_X8.1, nbi_X8.2, pdi_X8⟩, by decide⟩, gd_mem 297 rfl rfl, rfl, rfl⟩
set_option maxRecDepth 100000 in
theorem in_X8 : Cond.instantiable RX8 8 ∈ gd_tbl := gd_mem 295 rfl rfl
set_option maxRecDepth 100000 in
theorem iz_X8 : Cond.initialized RX8 ∈ gd_tbl := gd_mem 122 rfl rfl
abbrev fd_X8 : List Value := [.null, .null, .null, .null, .int (Int32.ofInt 0), .int (Int32.ofInt 0), .int (Int32.ofInt 0), .int (Int32.ofInt 0)]
theorem fdv_X8 : ∀ j, j < 8 → defaultValue (tyX8 j) = vp_V fd_X8 j := by decide +kernel
set_option maxRecDepth 100000 in
theorem ol_X8 : Cond.methodLink RX8 3 Lib.objectInit ∈ gd_tbl := gd_mem 299 rfl rfl
set_option maxRecDepth 100000 in
theorem fk_X8_9 : Cond.fieldLink RX8 9 (TX8 2).1 (TX8 2).2.1 (TX8 2).2.2.1 ∈ gd_tbl := gd_mem 302 rfl rfl
set_option maxRecDepth 100000 in
theorem fk_X8_15 : Cond.fieldLink RX8 15 (TX8 3).1 (TX8 3).2.1 (TX8 3).2.2.1 ∈ gd_tbl := gd_mem 303 rfl rfl
set_option maxRecDepth 100000 in
theorem fk_X8_18 : Cond.fieldLink RX8 18 (TX8 4).1 (TX8 4).2.1 (TX8 4).2.2.1 ∈ gd_tbl := gd_mem 304 rfl rfl
set_option maxRecDepth 100000 in
theorem fk_X8_22 : Cond.fieldLink RX8 22 (TX8 5).1 (TX8 5).2.1 (TX8 5).2.2.1 ∈ gd_tbl := gd_mem 305 rfl rfl
set_option maxRecDepth 100000 in
theorem fk_X8_25 : Cond.fieldLink RX8 25 (TX8 6).1 (TX8 6).2.1 (TX8 6).2.2.1 ∈ gd_tbl := gd_mem 307 rfl rfl
set_option maxRecDepth 100000 in
theorem fk_X8_28 : Cond.fieldLink RX8 28 (TX8 7).1 (TX8 7).2.1 (TX8 7).2.2.1 ∈ gd_tbl := gd_mem 308 rfl rfl
set_option maxRecDepth 100000 in
theorem fk_X8_31 : Cond.fieldLink RX8 31 (TX8 0).1 (TX8 0).2.1 (TX8 0).2.2.1 ∈ gd_tbl := gd_mem 300 rfl rfl
set_option maxRecDepth 100000 in
theorem fk_X8_35 : Cond.fieldLink RX8 35 (TX8 1).1 (TX8 1).2.1 (TX8 1).2.2.1 ∈ gd_tbl := gd_mem 301 rfl rfl
abbrev E_X8 (g : GX) (b t1 t2 : Nat) : List va_E := [.inr (7, [.ref t1, .ref t2, .ref (g.2.1 (b + 1)), .ref (g.2.1 (b + 2)), .int (Int32.ofInt (0)), .int (Int32.ofInt (0)), .int (Int32.ofInt (0)), .int (Int32.ofInt (0))]),
  eA g 6,
  eA g 80]
theorem cc_X8 {g : GX} {sz b t1 t2 : Nat} {pre : List va_E} (hsq : ∀ o, o < shN → g.2.1 o = sz + o) (hb : pre.length = b) (hB : b + 3 ≤ 68) : CC g sz md_X8_init 1 2 86 [.ref (g.2.1 b), .ref t1, .ref t2] (pre ++ [.inr (7, fd_X8)]) (pre ++ E_X8 g b t1 t2) := by
  intro l
  refine Met.ofC (d := 0) hsq pl_X8_init rfl (Nat.le_of_ble_eq_true rfl) (fun X hg C hin E hnL hmc hms => ?_) l
  subst hg
  have C : Ck X cX8_init RX8 0 sz := C
  show CW X sz 0 [(0, .ref (X.2.2.2.2.1 b)), (1, .ref t1), (2, .ref t2)] [] (pre ++ [.inr (7, fd_X8)]) 0 0
  refine k_aload C 0 dX8_init_0 rfl rfl ?_
  refine k_obj C ol_X8 dX8_init_1 ?_
  refine k_aload C 0 dX8_init_4 rfl rfl ?_
  refine k_bipush C dX8_init_5 (by decide) ?_
  refine k_newa2 (es' := pre ++ [.inr (7, [.null, .null, .null, .null, .int (Int32.ofInt 0), .int (Int32.ofInt 0), .int (Int32.ofInt 0), .int (Int32.ofInt 0)]), eA X.2.2.2 6]) C (q := b + 1) (N := 6) rfl (Nat.le_of_ble_eq_true rfl) (apl hb rfl) (by omega) (by rw [hmc]; exact Nat.le_of_ble_eq_true rfl) (by rw [hms]; exact Nat.le_of_ble_eq_true rfl) dX8_init_7 (List.append_assoc _ _ _) ?_
  refine k_putF (es' := pre ++ [.inr (7, [.null, .null, .ref (X.2.2.2.2.1 (b + 1)), .null, .int (Int32.ofInt 0), .int (Int32.ofInt 0), .int (Int32.ofInt 0), .int (Int32.ofInt 0)]), eA X.2.2.2 6]) C hin (q := b + 0) (fi := 2) cl_X8 (apg hb rfl) (by decide) rfl rfl fk_X8_9 rfl rfl (nlt rfl) (apl2 (i := 2) hb rfl (by show b + 2 ≤ 68; omega)) (aps hb rfl) dX8_init_9 ?_
  refine k_aload C 0 dX8_init_12 rfl rfl ?_
  refine k_bipush C dX8_init_13 (by decide) ?_
  refine k_newa2 (es' := pre ++ [.inr (7, [.null, .null, .ref (X.2.2.2.2.1 (b + 1)), .null, .int (Int32.ofInt 0), .int (Int32.ofInt 0), .int (Int32.ofInt 0), .int (Int32.ofInt 0)]), eA X.2.2.2 6, eA X.2.2.2 80]) C (q := b + 2) (N := 80) rfl (Nat.le_of_ble_eq_true rfl) (apl hb rfl) (by omega) (by rw [hmc]; exact Nat.le_of_ble_eq_true rfl) (by rw [hms]; exact Nat.le_of_ble_eq_true rfl) dX8_init_15 (List.append_assoc _ _ _) ?_
  refine k_putF (es' := pre ++ [.inr (7, [.null, .null, .ref (X.2.2.2.2.1 (b + 1)), .ref (X.2.2.2.2.1 (b + 2)), .int (Int32.ofInt 0), .int (Int32.ofInt 0), .int (Int32.ofInt 0), .int (Int32.ofInt 0)]), eA X.2.2.2 6, eA X.2.2.2 80]) C hin (q := b + 0) (fi := 3) cl_X8 (apg hb rfl) (by decide) rfl rfl fk_X8_15 rfl rfl (nlt rfl) (apl2 (i := 3) hb rfl (by show b + 3 ≤ 68; omega)) (aps hb rfl) dX8_init_17 ?_
  refine k_aload C 0 dX8_init_20 rfl rfl ?_
  refine k_iconst C dX8_init_21 ?_
  refine k_put (es' := pre ++ [.inr (7, [.null, .null, .ref (X.2.2.2.2.1 (b + 1)), .ref (X.2.2.2.2.1 (b + 2)), .int (Int32.ofInt (0)), .int (Int32.ofInt 0), .int (Int32.ofInt 0), .int (Int32.ofInt 0)]), eA X.2.2.2 6, eA X.2.2.2 80]) C (q := b + 0) (fi := 4) cl_X8 (apg hb rfl) (by decide) rfl fk_X8_18 rfl rfl (nlt rfl) (apl2 (i := 3) hb rfl (by show b + 3 ≤ 68; omega)) (aps hb rfl) dX8_init_22 ?_
  refine k_aload C 0 dX8_init_25 rfl rfl ?_
  refine k_iconst C dX8_init_26 ?_
  refine k_put (es' := pre ++ [.inr (7, [.null, .null, .ref (X.2.2.2.2.1 (b + 1)), .ref (X.2.2.2.2.1 (b + 2)), .int (Int32.ofInt (0)), .int (Int32.ofInt (0)), .int (Int32.ofInt 0), .int (Int32.ofInt 0)]), eA X.2.2.2 6, eA X.2.2.2 80]) C (q := b + 0) (fi := 5) cl_X8 (apg hb rfl) (by decide) rfl fk_X8_22 rfl rfl (nlt rfl) (apl2 (i := 3) hb rfl (by show b + 3 ≤ 68; omega)) (aps hb rfl) dX8_init_27 ?_
  refine k_aload C 0 dX8_init_30 rfl rfl ?_
  refine k_iconst C dX8_init_31 ?_
  refine k_put (es' := pre ++ [.inr (7, [.null, .null, .ref (X.2.2.2.2.1 (b + 1)), .ref (X.2.2.2.2.1 (b + 2)), .int (Int32.ofInt (0)), .int (Int32.ofInt (0)), .int (Int32.ofInt (0)), .int (Int32.ofInt 0)]), eA X.2.2.2 6, eA X.2.2.2 80]) C (q := b + 0) (fi := 6) cl_X8 (apg hb rfl) (by decide) rfl fk_X8_25 rfl rfl (nlt rfl) (apl2 (i := 3) hb rfl (by show b + 3 ≤ 68; omega)) (aps hb rfl) dX8_init_32 ?_
  refine k_aload C 0 dX8_init_35 rfl rfl ?_
  refine k_iconst C dX8_init_36 ?_
  refine k_put (es' := pre ++ [.inr (7, [.null, .null, .ref (X.2.2.2.2.1 (b + 1)), .ref (X.2.2.2.2.1 (b + 2)), .int (Int32.ofInt (0)), .int (Int32.ofInt (0)), .int (Int32.ofInt (0)), .int (Int32.ofInt (0))]), eA X.2.2.2 6, eA X.2.2.2 80]) C (q := b + 0) (fi := 7) cl_X8 (apg hb rfl) (by decide) rfl fk_X8_28 rfl rfl (nlt rfl) (apl2 (i := 3) hb rfl (by show b + 3 ≤ 68; omega)) (aps hb rfl) dX8_init_37 ?_
  refine k_aload C 0 dX8_init_40 rfl rfl ?_
  refine k_aload C 1 dX8_init_41 rfl rfl ?_
  refine k_putF (es' := pre ++ [.inr (7, [.ref t1, .null, .ref (X.2.2.2.2.1 (b + 1)), .ref (X.2.2.2.2.1 (b + 2)), .int (Int32.ofInt (0)), .int (Int32.ofInt (0)), .int (Int32.ofInt (0)), .int (Int32.ofInt (0))]), eA X.2.2.2 6, eA X.2.2.2 80]) C hin (q := b + 0) (fi := 0) cl_X8 (apg hb rfl) (by decide) rfl rfl fk_X8_31 rfl rfl (nlt rfl) (apl2 (i := 3) hb rfl (by show b + 3 ≤ 68; omega)) (aps hb rfl) dX8_init_42 ?_
  refine k_aload C 0 dX8_init_45 rfl rfl ?_
  refine k_aload C 2 dX8_init_46 rfl rfl ?_
  refine k_putF (es' := pre ++ [.inr (7, [.ref t1, .ref t2, .ref (X.2.2.2.2.1 (b + 1)), .ref (X.2.2.2.2.1 (b + 2)), .int (Int32.ofInt (0)), .int (Int32.ofInt (0)), .int (Int32.ofInt (0)), .int (Int32.ofInt (0))]), eA X.2.2.2 6, eA X.2.2.2 80]) C hin (q := b + 0) (fi := 1) cl_X8 (apg hb rfl) (by decide) rfl rfl fk_X8_35 rfl rfl (nlt rfl) (apl2 (i := 3) hb rfl (by show b + 3 ≤ 68; omega)) (aps hb rfl) dX8_init_47 ?_
  exact k_ret C E (by rw [hmc]; exact Nat.le_of_ble_eq_true rfl) (by rw [hms]; exact Nat.le_of_ble_eq_true rfl) dX8_init_50
abbrev md_X3_init : MD := (yX3_init, cX3_init, 2, none)
theorem pl_X3_init : plainFor yX3_init = true := by decide +kernel
theorem pdi_X3 : (parseMethodDescriptor "(LFortyStems$Trial;)V").map (fun d => d.parameters.length) = some 1 := by decide +kernel
theorem nbi_X3 : RX3 ≠ "java/lang/invoke/MethodHandle" ∧ RX3 ≠ "java/lang/invoke/VarHandle" := by decide +kernel
set_option maxRecDepth 100000 in
theorem oki_X3 : iOk md_X3_init 1 := ⟨⟨gd_mem 332 rfl rfl, gd_mem 123 rfl rfl, ⟨nbi_X3.1, nbi_X3.2, pdi_X3⟩, by decide⟩, gd_mem 331 rfl rfl, rfl, rfl⟩
set_option maxRecDepth 100000 in
theorem in_X3 : Cond.instantiable RX3 5 ∈ gd_tbl := gd_mem 329 rfl rfl
set_option maxRecDepth 100000 in
theorem iz_X3 : Cond.initialized RX3 ∈ gd_tbl := gd_mem 123 rfl rfl
abbrev fd_X3 : List Value := [.null, .null, .int (Int32.ofInt 0), .int (Int32.ofInt 0), .int (Int32.ofInt 0)]
theorem fdv_X3 : ∀ j, j < 5 → defaultValue (tyX3 j) = vp_V fd_X3 j := by decide +kernel
set_option maxRecDepth 100000 in
theorem ol_X3 : Cond.methodLink RX3 3 Lib.objectInit ∈ gd_tbl := gd_mem 333 rfl rfl
set_option maxRecDepth 100000 in
theorem fk_X3_9 : Cond.fieldLink RX3 9 (TX3 1).1 (TX3 1).2.1 (TX3 1).2.2.1 ∈ gd_tbl := gd_mem 335 rfl rfl
set_option maxRecDepth 100000 in
theorem fk_X3_15 : Cond.fieldLink RX3 15 (TX3 2).1 (TX3 2).2.1 (TX3 2).2.2.1 ∈ gd_tbl := gd_mem 336 rfl rfl
set_option maxRecDepth 100000 in
theorem fk_X3_19 : Cond.fieldLink RX3 19 (TX3 3).1 (TX3 3).2.1 (TX3 3).2.2.1 ∈ gd_tbl := gd_mem 337 rfl rfl
set_option maxRecDepth 100000 in
theorem fk_X3_22 : Cond.fieldLink RX3 22 (TX3 4).1 (TX3 4).2.1 (TX3 4).2.2.1 ∈ gd_tbl := gd_mem 339 rfl rfl
set_option maxRecDepth 100000 in
theorem fk_X3_25 : Cond.fieldLink RX3 25 (TX3 0).1 (TX3 0).2.1 (TX3 0).2.2.1 ∈ gd_tbl := gd_mem 334 rfl rfl
abbrev E_X3 (g : GX) (b t1 : Nat) : List va_E := [.inr (2, [.ref t1, .ref (g.2.1 (b + 1)), .int (Int32.ofInt (0)), .int (Int32.ofInt (0)), .int (Int32.ofInt (0))]),
  eA g 6]
theorem cc_X3 {g : GX} {sz b t1 : Nat} {pre : List va_E} (hsq : ∀ o, o < shN → g.2.1 o = sz + o) (hb : pre.length = b) (hB : b + 2 ≤ 68) : CC g sz md_X3_init 1 1 6 [.ref (g.2.1 b), .ref t1] (pre ++ [.inr (2, fd_X3)]) (pre ++ E_X3 g b t1) := by
  intro l
  refine Met.ofC (d := 0) hsq pl_X3_init rfl (Nat.le_of_ble_eq_true rfl) (fun X hg C hin E hnL hmc hms => ?_) l
  subst hg
  have C : Ck X cX3_init RX3 0 sz := C
  show CW X sz 0 [(0, .ref (X.2.2.2.2.1 b)), (1, .ref t1)] [] (pre ++ [.inr (2, fd_X3)]) 0 0
  refine k_aload C 0 dX3_init_0 rfl rfl ?_
  refine k_obj C ol_X3 dX3_init_1 ?_
  refine k_aload C 0 dX3_init_4 rfl rfl ?_
  refine k_bipush C dX3_init_5 (by decide) ?_
  refine k_newa2 (es' := pre ++ [.inr (2, [.null, .null, .int (Int32.ofInt 0), .int (Int32.ofInt 0), .int (Int32.ofInt 0)]), eA X.2.2.2 6]) C (q := b + 1) (N := 6) rfl (Nat.le_of_ble_eq_true rfl) (apl hb rfl) (by omega) (by rw [hmc]; exact Nat.le_of_ble_eq_true rfl) (by rw [hms]; exact Nat.le_of_ble_eq_true rfl) dX3_init_7 (List.append_assoc _ _ _) ?_
  refine k_putF (es' := pre ++ [.inr (2, [.null, .ref (X.2.2.2.2.1 (b + 1)), .int (Int32.ofInt 0), .int (Int32.ofInt 0), .int (Int32.ofInt 0)]), eA X.2.2.2 6]) C hin (q := b + 0) (fi := 1) cl_X3 (apg hb rfl) (by decide) rfl rfl fk_X3_9 rfl rfl (nlt rfl) (apl2 (i := 2) hb rfl (by show b + 2 ≤ 68; omega)) (aps hb rfl) dX3_init_9 ?_
  refine k_aload C 0 dX3_init_12 rfl rfl ?_
  refine k_iconst C dX3_init_13 ?_
  refine k_put (es' := pre ++ [.inr (2, [.null, .ref (X.2.2.2.2.1 (b + 1)), .int (Int32.ofInt (0)), .int (Int32.ofInt 0), .int (Int32.ofInt 0)]), eA X.2.2.2 6]) C (q := b + 0) (fi := 2) cl_X3 (apg hb rfl) (by decide) rfl fk_X3_15 rfl rfl (nlt rfl) (apl2 (i := 2) hb rfl (by show b + 2 ≤ 68; omega)) (aps hb rfl) dX3_init_14 ?_
  refine k_aload C 0 dX3_init_17 rfl rfl ?_
  refine k_iconst C dX3_init_18 ?_
  refine k_put (es' := pre ++ [.inr (2, [.null, .ref (X.2.2.2.2.1 (b + 1)), .int (Int32.ofInt (0)), .int (Int32.ofInt (0)), .int (Int32.ofInt 0)]), eA X.2.2.2 6]) C (q := b + 0) (fi := 3) cl_X3 (apg hb rfl) (by decide) rfl fk_X3_19 rfl rfl (nlt rfl) (apl2 (i := 2) hb rfl (by show b + 2 ≤ 68; omega)) (aps hb rfl) dX3_init_19 ?_
  refine k_aload C 0 dX3_init_22 rfl rfl ?_
  refine k_iconst C dX3_init_23 ?_
  refine k_put (es' := pre ++ [.inr (2, [.null, .ref (X.2.2.2.2.1 (b + 1)), .int (Int32.ofInt (0)), .int (Int32.ofInt (0)), .int (Int32.ofInt (0))]), eA X.2.2.2 6]) C (q := b + 0) (fi := 4) cl_X3 (apg hb rfl) (by decide) rfl fk_X3_22 rfl rfl (nlt rfl) (apl2 (i := 2) hb rfl (by show b + 2 ≤ 68; omega)) (aps hb rfl) dX3_init_24 ?_
  refine k_aload C 0 dX3_init_27 rfl rfl ?_
  refine k_aload C 1 dX3_init_28 rfl rfl ?_
  refine k_putF (es' := pre ++ [.inr (2, [.ref t1, .ref (X.2.2.2.2.1 (b + 1)), .int (Int32.ofInt (0)), .int (Int32.ofInt (0)), .int (Int32.ofInt (0))]), eA X.2.2.2 6]) C hin (q := b + 0) (fi := 0) cl_X3 (apg hb rfl) (by decide) rfl rfl fk_X3_25 rfl rfl (nlt rfl) (apl2 (i := 2) hb rfl (by show b + 2 ≤ 68; omega)) (aps hb rfl) dX3_init_29 ?_
  exact k_ret C E (by rw [hmc]; exact Nat.le_of_ble_eq_true rfl) (by rw [hms]; exact Nat.le_of_ble_eq_true rfl) dX3_init_32
abbrev md_X5_init : MD := (yX5_init, cX5_init, 1, none)
theorem pl_X5_init : plainFor yX5_init = true := by decide +kernel
theorem pdi_X5 : (parseMethodDescriptor "()V").map (fun d => d.parameters.length) = some 0 := by decide +kernel
theorem nbi_X5 : RX5 ≠ "java/lang/invoke/MethodHandle" ∧ RX5 ≠ "java/lang/invoke/VarHandle" := by decide +kernel
set_option maxRecDepth 100000 in
theorem oki_X5 : iOk md_X5_init 0 := ⟨⟨gd_mem 356 rfl rfl, gd_mem 124 rfl rfl, ⟨nbi_X5.1, nbi_X5.2, pdi_X5⟩, by decide⟩, gd_mem 355 rfl rfl, rfl, rfl⟩
set_option maxRecDepth 100000 in
theorem in_X5 : Cond.instantiable RX5 3 ∈ gd_tbl := gd_mem 353 rfl rfl
set_option maxRecDepth 100000 in
theorem iz_X5 : Cond.initialized RX5 ∈ gd_tbl := gd_mem 124 rfl rfl
abbrev fd_X5 : List Value := [.null, .null, .null]
theorem fdv_X5 : ∀ j, j < 3 → defaultValue (tyX5 j) = vp_V fd_X5 j := by decide +kernel
set_option maxRecDepth 100000 in
theorem ol_X5 : Cond.methodLink RX5 1 Lib.objectInit ∈ gd_tbl := gd_mem 357 rfl rfl
set_option maxRecDepth 100000 in
theorem fk_X5_9 : Cond.fieldLink RX5 9 (TX5 0).1 (TX5 0).2.1 (TX5 0).2.2.1 ∈ gd_tbl := gd_mem 359 rfl rfl
set_option maxRecDepth 100000 in
theorem fk_X5_13 : Cond.fieldLink RX5 13 (TX5 1).1 (TX5 1).2.1 (TX5 1).2.2.1 ∈ gd_tbl := gd_mem 361 rfl rfl
set_option maxRecDepth 100000 in
theorem kl_X5_16 : Cond.classLink RX5 16 "[[I" ∈ gd_tbl := gd_mem 358 rfl rfl
set_option maxRecDepth 100000 in
theorem fk_X5_18 : Cond.fieldLink RX5 18 (TX5 2).1 (TX5 2).2.1 (TX5 2).2.2.1 ∈ gd_tbl := gd_mem 363 rfl rfl
abbrev E_X5 (g : GX) (b : Nat) : List va_E := [.inr (4, [.ref (g.2.1 (b + 1)), .ref (g.2.1 (b + 2)), .ref (g.2.1 (b + 3))]),
  .inl (g.2.2.1, 4, .inl (upd (upd (upd (upd (fun _ => Int32.ofInt 0) 0 (Int32.ofInt (-1))) 1 (Int32.ofInt (-1))) 2 (Int32.ofInt (-1))) 3 (Int32.ofInt (-1)))),
  eA g 4,
  eO g [b + 4, b + 5, b + 6, b + 7],
  eA g 40,
  eA g 40,
  eA g 40,
  eA g 40]
theorem cc_X5 {g : GX} {sz b : Nat} {pre : List va_E} (hsq : ∀ o, o < shN → g.2.1 o = sz + o) (hb : pre.length = b) (hB : b + 8 ≤ 68) : CC g sz md_X5_init 1 7 172 [.ref (g.2.1 b)] (pre ++ [.inr (4, fd_X5)]) (pre ++ E_X5 g b) := by
  intro l
  refine Met.ofC (d := 0) hsq pl_X5_init rfl (Nat.le_of_ble_eq_true rfl) (fun X hg C hin E hnL hmc hms => ?_) l
  subst hg
  have C : Ck X cX5_init RX5 0 sz := C
  show CW X sz 0 [(0, .ref (X.2.2.2.2.1 b))] [] (pre ++ [.inr (4, fd_X5)]) 0 0
  refine k_aload C 0 dX5_init_0 rfl rfl ?_
  refine k_obj C ol_X5 dX5_init_1 ?_
  refine k_aload C 0 dX5_init_4 rfl rfl ?_
  refine k_iconst C dX5_init_5 ?_
  refine k_newa2 (es' := pre ++ [.inr (4, [.null, .null, .null]), eA X.2.2.2 4]) C (q := b + 1) (N := 4) rfl (Nat.le_of_ble_eq_true rfl) (apl hb rfl) (by omega) (by rw [hmc]; exact Nat.le_of_ble_eq_true rfl) (by rw [hms]; exact Nat.le_of_ble_eq_true rfl) dX5_init_6 (List.append_assoc _ _ _) ?_
  refine k_dup C dX5_init_8 ?_
  refine k_iconst C dX5_init_9 ?_
  refine k_iconst C dX5_init_10 ?_
  refine k_iast (es' := pre ++ [.inr (4, [.null, .null, .null]), .inl (X.2.2.2.2.2.1, 4, .inl (upd (fun _ => Int32.ofInt 0) 0 (Int32.ofInt (-1))))]) C (q := b + 1) (apg hb rfl) (r32_of rfl) (by decide) (apl2 (i := 2) hb rfl (by show b + 2 ≤ 68; omega)) (aps hb rfl) dX5_init_11 ?_
  refine k_dup C dX5_init_12 ?_
  refine k_iconst C dX5_init_13 ?_
  refine k_iconst C dX5_init_14 ?_
  refine k_iast (es' := pre ++ [.inr (4, [.null, .null, .null]), .inl (X.2.2.2.2.2.1, 4, .inl (upd (upd (fun _ => Int32.ofInt 0) 0 (Int32.ofInt (-1))) 1 (Int32.ofInt (-1))))]) C (q := b + 1) (apg hb rfl) (r32_of rfl) (by decide) (apl2 (i := 2) hb rfl (by show b + 2 ≤ 68; omega)) (aps hb rfl) dX5_init_15 ?_
  refine k_dup C dX5_init_16 ?_
  refine k_iconst C dX5_init_17 ?_
  refine k_iconst C dX5_init_18 ?_
  refine k_iast (es' := pre ++ [.inr (4, [.null, .null, .null]), .inl (X.2.2.2.2.2.1, 4, .inl (upd (upd (upd (fun _ => Int32.ofInt 0) 0 (Int32.ofInt (-1))) 1 (Int32.ofInt (-1))) 2 (Int32.ofInt (-1))))]) C (q := b + 1) (apg hb rfl) (r32_of rfl) (by decide) (apl2 (i := 2) hb rfl (by show b + 2 ≤ 68; omega)) (aps hb rfl) dX5_init_19 ?_
  refine k_dup C dX5_init_20 ?_
  refine k_iconst C dX5_init_21 ?_
  refine k_iconst C dX5_init_22 ?_
  refine k_iast (es' := pre ++ [.inr (4, [.null, .null, .null]), .inl (X.2.2.2.2.2.1, 4, .inl (upd (upd (upd (upd (fun _ => Int32.ofInt 0) 0 (Int32.ofInt (-1))) 1 (Int32.ofInt (-1))) 2 (Int32.ofInt (-1))) 3 (Int32.ofInt (-1))))]) C (q := b + 1) (apg hb rfl) (r32_of rfl) (by decide) (apl2 (i := 2) hb rfl (by show b + 2 ≤ 68; omega)) (aps hb rfl) dX5_init_23 ?_
  refine k_putF (es' := pre ++ [.inr (4, [.ref (X.2.2.2.2.1 (b + 1)), .null, .null]), .inl (X.2.2.2.2.2.1, 4, .inl (upd (upd (upd (upd (fun _ => Int32.ofInt 0) 0 (Int32.ofInt (-1))) 1 (Int32.ofInt (-1))) 2 (Int32.ofInt (-1))) 3 (Int32.ofInt (-1))))]) C hin (q := b + 0) (fi := 0) cl_X5 (apg hb rfl) (by decide) rfl rfl fk_X5_9 rfl rfl (nlt rfl) (apl2 (i := 2) hb rfl (by show b + 2 ≤ 68; omega)) (aps hb rfl) dX5_init_24 ?_
  refine k_aload C 0 dX5_init_27 rfl rfl ?_
  refine k_iconst C dX5_init_28 ?_
  refine k_newa2 (es' := pre ++ [.inr (4, [.ref (X.2.2.2.2.1 (b + 1)), .null, .null]), .inl (X.2.2.2.2.2.1, 4, .inl (upd (upd (upd (upd (fun _ => Int32.ofInt 0) 0 (Int32.ofInt (-1))) 1 (Int32.ofInt (-1))) 2 (Int32.ofInt (-1))) 3 (Int32.ofInt (-1)))), eA X.2.2.2 4]) C (q := b + 2) (N := 4) rfl (Nat.le_of_ble_eq_true rfl) (apl hb rfl) (by omega) (by rw [hmc]; exact Nat.le_of_ble_eq_true rfl) (by rw [hms]; exact Nat.le_of_ble_eq_true rfl) dX5_init_29 (List.append_assoc _ _ _) ?_
  refine k_putF (es' := pre ++ [.inr (4, [.ref (X.2.2.2.2.1 (b + 1)), .ref (X.2.2.2.2.1 (b + 2)), .null]), .inl (X.2.2.2.2.2.1, 4, .inl (upd (upd (upd (upd (fun _ => Int32.ofInt 0) 0 (Int32.ofInt (-1))) 1 (Int32.ofInt (-1))) 2 (Int32.ofInt (-1))) 3 (Int32.ofInt (-1)))), eA X.2.2.2 4]) C hin (q := b + 0) (fi := 1) cl_X5 (apg hb rfl) (by decide) rfl rfl fk_X5_13 rfl rfl (nlt rfl) (apl2 (i := 3) hb rfl (by show b + 3 ≤ 68; omega)) (aps hb rfl) dX5_init_31 ?_
  refine k_aload C 0 dX5_init_34 rfl rfl ?_
  refine k_iconst C dX5_init_35 ?_
  refine k_bipush C dX5_init_36 (by decide) ?_
  refine k_mna2 (es' := pre ++ [.inr (4, [.ref (X.2.2.2.2.1 (b + 1)), .ref (X.2.2.2.2.1 (b + 2)), .null]), .inl (X.2.2.2.2.2.1, 4, .inl (upd (upd (upd (upd (fun _ => Int32.ofInt 0) 0 (Int32.ofInt (-1))) 1 (Int32.ofInt (-1))) 2 (Int32.ofInt (-1))) 3 (Int32.ofInt (-1)))), eA X.2.2.2 4, eO X.2.2.2 [b + 4, b + 5, b + 6, b + 7], eA X.2.2.2 40, eA X.2.2.2 40, eA X.2.2.2 40, eA X.2.2.2 40]) C (q := b + 3) (N := 4) (J := 40) (ids := [b + 4, b + 5, b + 6, b + 7]) kl_X5_16 rfl rfl (Nat.le_of_ble_eq_true rfl) (Nat.le_of_ble_eq_true rfl) (apl hb rfl) (by show b + 3 + 4 < 68; omega) rfl (fun i hi => by match i, hi with | 0, _ => rfl | 1, _ => rfl | 2, _ => rfl | 3, _ => rfl) (by rw [hmc]; exact Nat.le_of_ble_eq_true rfl) (by rw [hms]; exact Nat.le_of_ble_eq_true rfl) dX5_init_38 (List.append_assoc _ _ _) ?_
  refine k_putF (es' := pre ++ [.inr (4, [.ref (X.2.2.2.2.1 (b + 1)), .ref (X.2.2.2.2.1 (b + 2)), .ref (X.2.2.2.2.1 (b + 3))]), .inl (X.2.2.2.2.2.1, 4, .inl (upd (upd (upd (upd (fun _ => Int32.ofInt 0) 0 (Int32.ofInt (-1))) 1 (Int32.ofInt (-1))) 2 (Int32.ofInt (-1))) 3 (Int32.ofInt (-1)))), eA X.2.2.2 4, eO X.2.2.2 [b + 4, b + 5, b + 6, b + 7], eA X.2.2.2 40, eA X.2.2.2 40, eA X.2.2.2 40, eA X.2.2.2 40]) C hin (q := b + 0) (fi := 2) cl_X5 (apg hb rfl) (by decide) rfl rfl fk_X5_18 rfl rfl (nlt rfl) (apl2 (i := 8) hb rfl (by show b + 8 ≤ 68; omega)) (aps hb rfl) dX5_init_42 ?_
  exact k_ret C E (by rw [hmc]; exact Nat.le_of_ble_eq_true rfl) (by rw [hms]; exact Nat.le_of_ble_eq_true rfl) dX5_init_45
