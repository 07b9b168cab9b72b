/-! THE CONSTRUCTOR OF THE PROGRAM (printed by wip/gen/mk_ctor.py) -/
abbrev md_X9_init : MD := (yX9_init, cX9_init, 1, none)
theorem pl_X9_init : plainFor yX9_init = true := by decide +kernel
theorem pdi_X9 : (parseMethodDescriptor "()V").map (fun d => d.parameters.length) = some 0 := by decide +kernel
theorem nbi_X9 : RX9 ≠ "java/lang/invoke/MethodHandle" ∧ RX9 ≠ "java/lang/invoke/VarHandle" := by decide +kernel
set_option maxRecDepth 100000 in
theorem oki_X9 : iOk md_X9_init 0 := ⟨⟨gd_mem 137 rfl rfl, gd_mem 116 rfl rfl, ⟨nbi_X9.1, nbi_X9.2, pdi_X9⟩, by decide⟩, gd_mem 136 rfl rfl, rfl, rfl⟩
set_option maxRecDepth 100000 in
theorem in_X9 : Cond.instantiable RX9 10 ∈ gd_tbl := gd_mem 134 rfl rfl
set_option maxRecDepth 100000 in
theorem iz_X9 : Cond.initialized RX9 ∈ gd_tbl := gd_mem 116 rfl rfl
abbrev fd_X9 : List Value := [.null, .null, .int (Int32.ofInt 0), .null, .null, .null, .null, .null, .null, .null]
theorem fdv_X9 : ∀ j, j < 10 → defaultValue (tyX9 j) = vp_V fd_X9 j := by decide +kernel
set_option maxRecDepth 100000 in
theorem ol_X9 : Cond.methodLink RX9 1 Lib.objectInit ∈ gd_tbl := gd_mem 138 rfl rfl
set_option maxRecDepth 100000 in
theorem kl_X9_7 : Cond.classLink RX9 7 "FortyStems$Hand" ∈ gd_tbl := gd_mem 141 rfl rfl
set_option maxRecDepth 100000 in
theorem il_X9_9 : mLk RX9 9 yX0_init := Or.inr ⟨"FortyStems", ns_mem 28 rfl rfl⟩
set_option maxRecDepth 100000 in
theorem fk_X9_10 : Cond.fieldLink RX9 10 (TX9 0).1 (TX9 0).2.1 (TX9 0).2.2.1 ∈ gd_tbl := gd_mem 372 rfl rfl
set_option maxRecDepth 100000 in
theorem fk_X9_16 : Cond.fieldLink RX9 16 (TX9 1).1 (TX9 1).2.1 (TX9 1).2.2.1 ∈ gd_tbl := gd_mem 373 rfl rfl
set_option maxRecDepth 100000 in
theorem fk_X9_19 : Cond.fieldLink RX9 19 (TX9 2).1 (TX9 2).2.1 (TX9 2).2.2.1 ∈ gd_tbl := gd_mem 374 rfl rfl
set_option maxRecDepth 100000 in
theorem kl_X9_23 : Cond.classLink RX9 23 "FortyStems$Tape" ∈ gd_tbl := gd_mem 203 rfl rfl
set_option maxRecDepth 100000 in
theorem il_X9_25 : mLk RX9 25 yX6_init := Or.inr ⟨"FortyStems", ns_mem 90 rfl rfl⟩
set_option maxRecDepth 100000 in
theorem fk_X9_26 : Cond.fieldLink RX9 26 (TX9 3).1 (TX9 3).2.1 (TX9 3).2.2.1 ∈ gd_tbl := gd_mem 375 rfl rfl
set_option maxRecDepth 100000 in
theorem kl_X9_30 : Cond.classLink RX9 30 "FortyStems$Texts" ∈ gd_tbl := gd_mem 217 rfl rfl
set_option maxRecDepth 100000 in
theorem il_X9_32 : mLk RX9 32 yX7_init := Or.inr ⟨"FortyStems", ns_mem 104 rfl rfl⟩
set_option maxRecDepth 100000 in
theorem fk_X9_33 : Cond.fieldLink RX9 33 (TX9 4).1 (TX9 4).2.1 (TX9 4).2.2.1 ∈ gd_tbl := gd_mem 376 rfl rfl
set_option maxRecDepth 100000 in
theorem kl_X9_37 : Cond.classLink RX9 37 "FortyStems$Reader" ∈ gd_tbl := gd_mem 239 rfl rfl
set_option maxRecDepth 100000 in
theorem il_X9_39 : mLk RX9 39 yX4_init := Or.inr ⟨"FortyStems", ns_mem 126 rfl rfl⟩
set_option maxRecDepth 100000 in
theorem fk_X9_42 : Cond.fieldLink RX9 42 (TX9 5).1 (TX9 5).2.1 (TX9 5).2.2.1 ∈ gd_tbl := gd_mem 377 rfl rfl
set_option maxRecDepth 100000 in
theorem kl_X9_46 : Cond.classLink RX9 46 "FortyStems$Moment" ∈ gd_tbl := gd_mem 275 rfl rfl
set_option maxRecDepth 100000 in
theorem il_X9_48 : mLk RX9 48 yX2_init := Or.inr ⟨"FortyStems", ns_mem 162 rfl rfl⟩
set_option maxRecDepth 100000 in
theorem fk_X9_51 : Cond.fieldLink RX9 51 (TX9 6).1 (TX9 6).2.1 (TX9 6).2.2.1 ∈ gd_tbl := gd_mem 378 rfl rfl
set_option maxRecDepth 100000 in
theorem kl_X9_55 : Cond.classLink RX9 55 "FortyStems$Trial" ∈ gd_tbl := gd_mem 294 rfl rfl
set_option maxRecDepth 100000 in
theorem il_X9_57 : mLk RX9 57 yX8_init := Or.inr ⟨"FortyStems", ns_mem 181 rfl rfl⟩
set_option maxRecDepth 100000 in
theorem fk_X9_60 : Cond.fieldLink RX9 60 (TX9 7).1 (TX9 7).2.1 (TX9 7).2.2.1 ∈ gd_tbl := gd_mem 379 rfl rfl
set_option maxRecDepth 100000 in
theorem kl_X9_64 : Cond.classLink RX9 64 "FortyStems$Orders" ∈ gd_tbl := gd_mem 328 rfl rfl
set_option maxRecDepth 100000 in
theorem il_X9_66 : mLk RX9 66 yX3_init := Or.inr ⟨"FortyStems", ns_mem 215 rfl rfl⟩
set_option maxRecDepth 100000 in
theorem fk_X9_69 : Cond.fieldLink RX9 69 (TX9 8).1 (TX9 8).2.1 (TX9 8).2.2.1 ∈ gd_tbl := gd_mem 380 rfl rfl
set_option maxRecDepth 100000 in
theorem kl_X9_73 : Cond.classLink RX9 73 "FortyStems$Sheets" ∈ gd_tbl := gd_mem 352 rfl rfl
set_option maxRecDepth 100000 in
theorem il_X9_75 : mLk RX9 75 yX5_init := Or.inr ⟨"FortyStems", ns_mem 239 rfl rfl⟩
set_option maxRecDepth 100000 in
theorem fk_X9_76 : Cond.fieldLink RX9 76 (TX9 9).1 (TX9 9).2.1 (TX9 9).2.2.1 ∈ gd_tbl := gd_mem 381 rfl rfl
abbrev T9_0 (_ : GX) : List va_E := []
abbrev T9_1 (g : GX) : List va_E := T9_0 g ++ E_X0 g 1 
abbrev T9_2 (g : GX) : List va_E := T9_1 g ++ E_X0 g 8 
abbrev T9_3 (g : GX) : List va_E := T9_2 g ++ E_X6 g 15 
abbrev T9_4 (g : GX) : List va_E := T9_3 g ++ E_X7 g 17 
abbrev T9_5 (g : GX) : List va_E := T9_4 g ++ E_X4 g 33 (g.2.1 15)
abbrev T9_6 (g : GX) : List va_E := T9_5 g ++ E_X2 g 36 (g.2.1 17)
abbrev T9_7 (g : GX) : List va_E := T9_6 g ++ E_X8 g 38 (g.2.1 1) (g.2.1 36)
abbrev T9_8 (g : GX) : List va_E := T9_7 g ++ E_X3 g 41 (g.2.1 38)
abbrev T9_9 (g : GX) : List va_E := T9_8 g ++ E_X5 g 43 
abbrev E_X9 (g : GX) : List va_E := .inr (8, [.ref (g.2.1 1), .ref (g.2.1 8), .int (Int32.ofInt (0)), .ref (g.2.1 15), .ref (g.2.1 17), .ref (g.2.1 33), .ref (g.2.1 36), .ref (g.2.1 38), .ref (g.2.1 41), .ref (g.2.1 43)]) :: T9_9 g
set_option maxRecDepth 20000 in
set_option maxHeartbeats 4000000 in
theorem cc_X9 {g : GX} {sz : Nat} (hsq : ∀ o, o < shN → g.2.1 o = sz + o) : CC g sz md_X9_init 2 50 2008 [.ref (g.2.1 0)] [.inr (8, fd_X9)] (E_X9 g) := by
  intro l
  refine Met.ofC (d := 1) hsq pl_X9_init rfl (Nat.le_of_ble_eq_true rfl) (fun X hg C hin E hnL hmc hms => ?_) l
  subst hg
  have C : Ck X cX9_init RX9 1 sz := C
  show CW X sz 0 [(0, .ref (X.2.2.2.2.1 0))] [] (.inr (8, fd_X9) :: T9_0 X.2.2.2) 0 0
  refine k_aload C 0 dX9_init_0 rfl rfl ?_
  refine k_obj C ol_X9 dX9_init_1 ?_
  refine k_aload C 0 dX9_init_4 rfl rfl ?_
  refine k_new2 C (q := 1) cl_X0 kl_X9_7 in_X0 iz_X0 fdv_X0 rfl (nlt rfl) (by rw [hmc]; exact Nat.le_of_ble_eq_true rfl) (by rw [hms]; exact Nat.le_of_ble_eq_true rfl) dX9_init_5 ?_
  refine k_dup C dX9_init_8 ?_
  refine k_call (es' := .inr (8, [.null, .null, .int (Int32.ofInt 0), .null, .null, .null, .null, .null, .null, .null]) :: T9_1 X.2.2.2) C (q := 1) (as := []) (rest := [.ref (X.2.2.2.2.1 1), .ref (X.2.2.2.2.1 0)]) (cc_X0 (pre := .inr (8, [.null, .null, .int (Int32.ofInt 0), .null, .null, .null, .null, .null, .null, .null]) :: T9_0 X.2.2.2) (b := 1)  C.2.1 rfl (Nat.le_of_ble_eq_true rfl)) oki_X0 il_X9_9 rfl rfl (Nat.le_of_ble_eq_true rfl) (Nat.le_of_ble_eq_true rfl) (by rw [hmc]; exact Nat.le_of_ble_eq_true rfl) (by rw [hms]; exact Nat.le_of_ble_eq_true rfl) dX9_init_9 ?_
  refine k_putF (es' := .inr (8, [.ref (X.2.2.2.2.1 1), .null, .int (Int32.ofInt 0), .null, .null, .null, .null, .null, .null, .null]) :: T9_1 X.2.2.2) C hin (q := 0) (fi := 0) cl_X9 rfl (by decide) rfl rfl fk_X9_10 rfl rfl (nlt rfl) (Nat.le_of_ble_eq_true rfl) rfl dX9_init_12 ?_
  refine k_aload C 0 dX9_init_15 rfl rfl ?_
  refine k_new2 C (q := 8) cl_X0 kl_X9_7 in_X0 iz_X0 fdv_X0 rfl (nlt rfl) (by rw [hmc]; exact Nat.le_of_ble_eq_true rfl) (by rw [hms]; exact Nat.le_of_ble_eq_true rfl) dX9_init_16 ?_
  refine k_dup C dX9_init_19 ?_
  refine k_call (es' := .inr (8, [.ref (X.2.2.2.2.1 1), .null, .int (Int32.ofInt 0), .null, .null, .null, .null, .null, .null, .null]) :: T9_2 X.2.2.2) C (q := 8) (as := []) (rest := [.ref (X.2.2.2.2.1 8), .ref (X.2.2.2.2.1 0)]) (cc_X0 (pre := .inr (8, [.ref (X.2.2.2.2.1 1), .null, .int (Int32.ofInt 0), .null, .null, .null, .null, .null, .null, .null]) :: T9_1 X.2.2.2) (b := 8)  C.2.1 rfl (Nat.le_of_ble_eq_true rfl)) oki_X0 il_X9_9 rfl rfl (Nat.le_of_ble_eq_true rfl) (Nat.le_of_ble_eq_true rfl) (by rw [hmc]; exact Nat.le_of_ble_eq_true rfl) (by rw [hms]; exact Nat.le_of_ble_eq_true rfl) dX9_init_20 ?_
  refine k_putF (es' := .inr (8, [.ref (X.2.2.2.2.1 1), .ref (X.2.2.2.2.1 8), .int (Int32.ofInt 0), .null, .null, .null, .null, .null, .null, .null]) :: T9_2 X.2.2.2) C hin (q := 0) (fi := 1) cl_X9 rfl (by decide) rfl rfl fk_X9_16 rfl rfl (nlt rfl) (Nat.le_of_ble_eq_true rfl) rfl dX9_init_23 ?_
  refine k_aload C 0 dX9_init_26 rfl rfl ?_
  refine k_iconst C dX9_init_27 ?_
  refine k_put (es' := .inr (8, [.ref (X.2.2.2.2.1 1), .ref (X.2.2.2.2.1 8), .int (Int32.ofInt (0)), .null, .null, .null, .null, .null, .null, .null]) :: T9_2 X.2.2.2) C (q := 0) (fi := 2) cl_X9 rfl (by decide) rfl fk_X9_19 rfl rfl (nlt rfl) (Nat.le_of_ble_eq_true rfl) rfl dX9_init_28 ?_
  refine k_aload C 0 dX9_init_31 rfl rfl ?_
  refine k_new2 C (q := 15) cl_X6 kl_X9_23 in_X6 iz_X6 fdv_X6 rfl (nlt rfl) (by rw [hmc]; exact Nat.le_of_ble_eq_true rfl) (by rw [hms]; exact Nat.le_of_ble_eq_true rfl) dX9_init_32 ?_
  refine k_dup C dX9_init_35 ?_
  refine k_call (es' := .inr (8, [.ref (X.2.2.2.2.1 1), .ref (X.2.2.2.2.1 8), .int (Int32.ofInt (0)), .null, .null, .null, .null, .null, .null, .null]) :: T9_3 X.2.2.2) C (q := 15) (as := []) (rest := [.ref (X.2.2.2.2.1 15), .ref (X.2.2.2.2.1 0)]) (cc_X6 (pre := .inr (8, [.ref (X.2.2.2.2.1 1), .ref (X.2.2.2.2.1 8), .int (Int32.ofInt (0)), .null, .null, .null, .null, .null, .null, .null]) :: T9_2 X.2.2.2) (b := 15)  C.2.1 rfl (Nat.le_of_ble_eq_true rfl)) oki_X6 il_X9_25 rfl rfl (Nat.le_of_ble_eq_true rfl) (Nat.le_of_ble_eq_true rfl) (by rw [hmc]; exact Nat.le_of_ble_eq_true rfl) (by rw [hms]; exact Nat.le_of_ble_eq_true rfl) dX9_init_36 ?_
  refine k_putF (es' := .inr (8, [.ref (X.2.2.2.2.1 1), .ref (X.2.2.2.2.1 8), .int (Int32.ofInt (0)), .ref (X.2.2.2.2.1 15), .null, .null, .null, .null, .null, .null]) :: T9_3 X.2.2.2) C hin (q := 0) (fi := 3) cl_X9 rfl (by decide) rfl rfl fk_X9_26 rfl rfl (nlt rfl) (Nat.le_of_ble_eq_true rfl) rfl dX9_init_39 ?_
  refine k_aload C 0 dX9_init_42 rfl rfl ?_
  refine k_new2 C (q := 17) cl_X7 kl_X9_30 in_X7 iz_X7 fdv_X7 rfl (nlt rfl) (by rw [hmc]; exact Nat.le_of_ble_eq_true rfl) (by rw [hms]; exact Nat.le_of_ble_eq_true rfl) dX9_init_43 ?_
  refine k_dup C dX9_init_46 ?_
  refine k_call (es' := .inr (8, [.ref (X.2.2.2.2.1 1), .ref (X.2.2.2.2.1 8), .int (Int32.ofInt (0)), .ref (X.2.2.2.2.1 15), .null, .null, .null, .null, .null, .null]) :: T9_4 X.2.2.2) C (q := 17) (as := []) (rest := [.ref (X.2.2.2.2.1 17), .ref (X.2.2.2.2.1 0)]) (cc_X7 (pre := .inr (8, [.ref (X.2.2.2.2.1 1), .ref (X.2.2.2.2.1 8), .int (Int32.ofInt (0)), .ref (X.2.2.2.2.1 15), .null, .null, .null, .null, .null, .null]) :: T9_3 X.2.2.2) (b := 17)  C.2.1 rfl (Nat.le_of_ble_eq_true rfl)) oki_X7 il_X9_32 rfl rfl (Nat.le_of_ble_eq_true rfl) (Nat.le_of_ble_eq_true rfl) (by rw [hmc]; exact Nat.le_of_ble_eq_true rfl) (by rw [hms]; exact Nat.le_of_ble_eq_true rfl) dX9_init_47 ?_
  refine k_putF (es' := .inr (8, [.ref (X.2.2.2.2.1 1), .ref (X.2.2.2.2.1 8), .int (Int32.ofInt (0)), .ref (X.2.2.2.2.1 15), .ref (X.2.2.2.2.1 17), .null, .null, .null, .null, .null]) :: T9_4 X.2.2.2) C hin (q := 0) (fi := 4) cl_X9 rfl (by decide) rfl rfl fk_X9_33 rfl rfl (nlt rfl) (Nat.le_of_ble_eq_true rfl) rfl dX9_init_50 ?_
  refine k_aload C 0 dX9_init_53 rfl rfl ?_
  refine k_new2 C (q := 33) cl_X4 kl_X9_37 in_X4 iz_X4 fdv_X4 rfl (nlt rfl) (by rw [hmc]; exact Nat.le_of_ble_eq_true rfl) (by rw [hms]; exact Nat.le_of_ble_eq_true rfl) dX9_init_54 ?_
  refine k_dup C dX9_init_57 ?_
  refine k_aload C 0 dX9_init_58 rfl rfl ?_
  refine k_get C (q := 0) (fi := 3) cl_X9 rfl (by decide) fk_X9_26 rfl dX9_init_59 ?_
  refine k_call (es' := .inr (8, [.ref (X.2.2.2.2.1 1), .ref (X.2.2.2.2.1 8), .int (Int32.ofInt (0)), .ref (X.2.2.2.2.1 15), .ref (X.2.2.2.2.1 17), .null, .null, .null, .null, .null]) :: T9_5 X.2.2.2) C (q := 33) (as := [.ref (X.2.2.2.2.1 15)]) (rest := [.ref (X.2.2.2.2.1 33), .ref (X.2.2.2.2.1 0)]) (cc_X4 (pre := .inr (8, [.ref (X.2.2.2.2.1 1), .ref (X.2.2.2.2.1 8), .int (Int32.ofInt (0)), .ref (X.2.2.2.2.1 15), .ref (X.2.2.2.2.1 17), .null, .null, .null, .null, .null]) :: T9_4 X.2.2.2) (b := 33) (t1 := X.2.2.2.2.1 15) C.2.1 rfl (Nat.le_of_ble_eq_true rfl)) oki_X4 il_X9_39 rfl rfl (Nat.le_of_ble_eq_true rfl) (Nat.le_of_ble_eq_true rfl) (by rw [hmc]; exact Nat.le_of_ble_eq_true rfl) (by rw [hms]; exact Nat.le_of_ble_eq_true rfl) dX9_init_62 ?_
  refine k_putF (es' := .inr (8, [.ref (X.2.2.2.2.1 1), .ref (X.2.2.2.2.1 8), .int (Int32.ofInt (0)), .ref (X.2.2.2.2.1 15), .ref (X.2.2.2.2.1 17), .ref (X.2.2.2.2.1 33), .null, .null, .null, .null]) :: T9_5 X.2.2.2) C hin (q := 0) (fi := 5) cl_X9 rfl (by decide) rfl rfl fk_X9_42 rfl rfl (nlt rfl) (Nat.le_of_ble_eq_true rfl) rfl dX9_init_65 ?_
  refine k_aload C 0 dX9_init_68 rfl rfl ?_
  refine k_new2 C (q := 36) cl_X2 kl_X9_46 in_X2 iz_X2 fdv_X2 rfl (nlt rfl) (by rw [hmc]; exact Nat.le_of_ble_eq_true rfl) (by rw [hms]; exact Nat.le_of_ble_eq_true rfl) dX9_init_69 ?_
  refine k_dup C dX9_init_72 ?_
  refine k_aload C 0 dX9_init_73 rfl rfl ?_
  refine k_get C (q := 0) (fi := 4) cl_X9 rfl (by decide) fk_X9_33 rfl dX9_init_74 ?_
  refine k_call (es' := .inr (8, [.ref (X.2.2.2.2.1 1), .ref (X.2.2.2.2.1 8), .int (Int32.ofInt (0)), .ref (X.2.2.2.2.1 15), .ref (X.2.2.2.2.1 17), .ref (X.2.2.2.2.1 33), .null, .null, .null, .null]) :: T9_6 X.2.2.2) C (q := 36) (as := [.ref (X.2.2.2.2.1 17)]) (rest := [.ref (X.2.2.2.2.1 36), .ref (X.2.2.2.2.1 0)]) (cc_X2 (pre := .inr (8, [.ref (X.2.2.2.2.1 1), .ref (X.2.2.2.2.1 8), .int (Int32.ofInt (0)), .ref (X.2.2.2.2.1 15), .ref (X.2.2.2.2.1 17), .ref (X.2.2.2.2.1 33), .null, .null, .null, .null]) :: T9_5 X.2.2.2) (b := 36) (t1 := X.2.2.2.2.1 17) C.2.1 rfl (Nat.le_of_ble_eq_true rfl)) oki_X2 il_X9_48 rfl rfl (Nat.le_of_ble_eq_true rfl) (Nat.le_of_ble_eq_true rfl) (by rw [hmc]; exact Nat.le_of_ble_eq_true rfl) (by rw [hms]; exact Nat.le_of_ble_eq_true rfl) dX9_init_77 ?_
  refine k_putF (es' := .inr (8, [.ref (X.2.2.2.2.1 1), .ref (X.2.2.2.2.1 8), .int (Int32.ofInt (0)), .ref (X.2.2.2.2.1 15), .ref (X.2.2.2.2.1 17), .ref (X.2.2.2.2.1 33), .ref (X.2.2.2.2.1 36), .null, .null, .null]) :: T9_6 X.2.2.2) C hin (q := 0) (fi := 6) cl_X9 rfl (by decide) rfl rfl fk_X9_51 rfl rfl (nlt rfl) (Nat.le_of_ble_eq_true rfl) rfl dX9_init_80 ?_
  refine k_aload C 0 dX9_init_83 rfl rfl ?_
  refine k_new2 C (q := 38) cl_X8 kl_X9_55 in_X8 iz_X8 fdv_X8 rfl (nlt rfl) (by rw [hmc]; exact Nat.le_of_ble_eq_true rfl) (by rw [hms]; exact Nat.le_of_ble_eq_true rfl) dX9_init_84 ?_
  refine k_dup C dX9_init_87 ?_
  refine k_aload C 0 dX9_init_88 rfl rfl ?_
  refine k_get C (q := 0) (fi := 0) cl_X9 rfl (by decide) fk_X9_10 rfl dX9_init_89 ?_
  refine k_aload C 0 dX9_init_92 rfl rfl ?_
  refine k_get C (q := 0) (fi := 6) cl_X9 rfl (by decide) fk_X9_51 rfl dX9_init_93 ?_
  refine k_call (es' := .inr (8, [.ref (X.2.2.2.2.1 1), .ref (X.2.2.2.2.1 8), .int (Int32.ofInt (0)), .ref (X.2.2.2.2.1 15), .ref (X.2.2.2.2.1 17), .ref (X.2.2.2.2.1 33), .ref (X.2.2.2.2.1 36), .null, .null, .null]) :: T9_7 X.2.2.2) C (q := 38) (as := [.ref (X.2.2.2.2.1 1), .ref (X.2.2.2.2.1 36)]) (rest := [.ref (X.2.2.2.2.1 38), .ref (X.2.2.2.2.1 0)]) (cc_X8 (pre := .inr (8, [.ref (X.2.2.2.2.1 1), .ref (X.2.2.2.2.1 8), .int (Int32.ofInt (0)), .ref (X.2.2.2.2.1 15), .ref (X.2.2.2.2.1 17), .ref (X.2.2.2.2.1 33), .ref (X.2.2.2.2.1 36), .null, .null, .null]) :: T9_6 X.2.2.2) (b := 38) (t1 := X.2.2.2.2.1 1) (t2 := X.2.2.2.2.1 36) C.2.1 rfl (Nat.le_of_ble_eq_true rfl)) oki_X8 il_X9_57 rfl rfl (Nat.le_of_ble_eq_true rfl) (Nat.le_of_ble_eq_true rfl) (by rw [hmc]; exact Nat.le_of_ble_eq_true rfl) (by rw [hms]; exact Nat.le_of_ble_eq_true rfl) dX9_init_96 ?_
  refine k_putF (es' := .inr (8, [.ref (X.2.2.2.2.1 1), .ref (X.2.2.2.2.1 8), .int (Int32.ofInt (0)), .ref (X.2.2.2.2.1 15), .ref (X.2.2.2.2.1 17), .ref (X.2.2.2.2.1 33), .ref (X.2.2.2.2.1 36), .ref (X.2.2.2.2.1 38), .null, .null]) :: T9_7 X.2.2.2) C hin (q := 0) (fi := 7) cl_X9 rfl (by decide) rfl rfl fk_X9_60 rfl rfl (nlt rfl) (Nat.le_of_ble_eq_true rfl) rfl dX9_init_99 ?_
  refine k_aload C 0 dX9_init_102 rfl rfl ?_
  refine k_new2 C (q := 41) cl_X3 kl_X9_64 in_X3 iz_X3 fdv_X3 rfl (nlt rfl) (by rw [hmc]; exact Nat.le_of_ble_eq_true rfl) (by rw [hms]; exact Nat.le_of_ble_eq_true rfl) dX9_init_103 ?_
  refine k_dup C dX9_init_106 ?_
  refine k_aload C 0 dX9_init_107 rfl rfl ?_
  refine k_get C (q := 0) (fi := 7) cl_X9 rfl (by decide) fk_X9_60 rfl dX9_init_108 ?_
  refine k_call (es' := .inr (8, [.ref (X.2.2.2.2.1 1), .ref (X.2.2.2.2.1 8), .int (Int32.ofInt (0)), .ref (X.2.2.2.2.1 15), .ref (X.2.2.2.2.1 17), .ref (X.2.2.2.2.1 33), .ref (X.2.2.2.2.1 36), .ref (X.2.2.2.2.1 38), .null, .null]) :: T9_8 X.2.2.2) C (q := 41) (as := [.ref (X.2.2.2.2.1 38)]) (rest := [.ref (X.2.2.2.2.1 41), .ref (X.2.2.2.2.1 0)]) (cc_X3 (pre := .inr (8, [.ref (X.2.2.2.2.1 1), .ref (X.2.2.2.2.1 8), .int (Int32.ofInt (0)), .ref (X.2.2.2.2.1 15), .ref (X.2.2.2.2.1 17), .ref (X.2.2.2.2.1 33), .ref (X.2.2.2.2.1 36), .ref (X.2.2.2.2.1 38), .null, .null]) :: T9_7 X.2.2.2) (b := 41) (t1 := X.2.2.2.2.1 38) C.2.1 rfl (Nat.le_of_ble_eq_true rfl)) oki_X3 il_X9_66 rfl rfl (Nat.le_of_ble_eq_true rfl) (Nat.le_of_ble_eq_true rfl) (by rw [hmc]; exact Nat.le_of_ble_eq_true rfl) (by rw [hms]; exact Nat.le_of_ble_eq_true rfl) dX9_init_111 ?_
  refine k_putF (es' := .inr (8, [.ref (X.2.2.2.2.1 1), .ref (X.2.2.2.2.1 8), .int (Int32.ofInt (0)), .ref (X.2.2.2.2.1 15), .ref (X.2.2.2.2.1 17), .ref (X.2.2.2.2.1 33), .ref (X.2.2.2.2.1 36), .ref (X.2.2.2.2.1 38), .ref (X.2.2.2.2.1 41), .null]) :: T9_8 X.2.2.2) C hin (q := 0) (fi := 8) cl_X9 rfl (by decide) rfl rfl fk_X9_69 rfl rfl (nlt rfl) (Nat.le_of_ble_eq_true rfl) rfl dX9_init_114 ?_
  refine k_aload C 0 dX9_init_117 rfl rfl ?_
  refine k_new2 C (q := 43) cl_X5 kl_X9_73 in_X5 iz_X5 fdv_X5 rfl (nlt rfl) (by rw [hmc]; exact Nat.le_of_ble_eq_true rfl) (by rw [hms]; exact Nat.le_of_ble_eq_true rfl) dX9_init_118 ?_
  refine k_dup C dX9_init_121 ?_
  refine k_call (es' := .inr (8, [.ref (X.2.2.2.2.1 1), .ref (X.2.2.2.2.1 8), .int (Int32.ofInt (0)), .ref (X.2.2.2.2.1 15), .ref (X.2.2.2.2.1 17), .ref (X.2.2.2.2.1 33), .ref (X.2.2.2.2.1 36), .ref (X.2.2.2.2.1 38), .ref (X.2.2.2.2.1 41), .null]) :: T9_9 X.2.2.2) C (q := 43) (as := []) (rest := [.ref (X.2.2.2.2.1 43), .ref (X.2.2.2.2.1 0)]) (cc_X5 (pre := .inr (8, [.ref (X.2.2.2.2.1 1), .ref (X.2.2.2.2.1 8), .int (Int32.ofInt (0)), .ref (X.2.2.2.2.1 15), .ref (X.2.2.2.2.1 17), .ref (X.2.2.2.2.1 33), .ref (X.2.2.2.2.1 36), .ref (X.2.2.2.2.1 38), .ref (X.2.2.2.2.1 41), .null]) :: T9_8 X.2.2.2) (b := 43)  C.2.1 rfl (Nat.le_of_ble_eq_true rfl)) oki_X5 il_X9_75 rfl rfl (Nat.le_of_ble_eq_true rfl) (Nat.le_of_ble_eq_true rfl) (by rw [hmc]; exact Nat.le_of_ble_eq_true rfl) (by rw [hms]; exact Nat.le_of_ble_eq_true rfl) dX9_init_122 ?_
  refine k_putF (es' := .inr (8, [.ref (X.2.2.2.2.1 1), .ref (X.2.2.2.2.1 8), .int (Int32.ofInt (0)), .ref (X.2.2.2.2.1 15), .ref (X.2.2.2.2.1 17), .ref (X.2.2.2.2.1 33), .ref (X.2.2.2.2.1 36), .ref (X.2.2.2.2.1 38), .ref (X.2.2.2.2.1 41), .ref (X.2.2.2.2.1 43)]) :: T9_9 X.2.2.2) C hin (q := 0) (fi := 9) cl_X9 rfl (by decide) rfl rfl fk_X9_76 rfl rfl (nlt rfl) (Nat.le_of_ble_eq_true rfl) rfl dX9_init_125 ?_
  exact k_ret C E (by rw [hmc]; exact Nat.le_of_ble_eq_true rfl) (by rw [hms]; exact Nat.le_of_ble_eq_true rfl) dX9_init_128
