/-! THE MEMORY BEHIND BOTH CONSTRUCTORS -/
/-- all that isn't 0, ahead of the model's first text -/
def MI : Mem := fun o => if o = 1 then fun k => if k = 0 then 200 else 0
  else if o = 8 then fun k => if k = 0 then 200 else 0
  else if o = 17 then fun k => if k = 0 then 1 else 0
  else if o = 19 then fun k => if k = 2 then 5 else if k = 1 then 10 else if k = 0 then 3 else 0
  else if o = 26 then fun k => if k = 2 then 3 else if k = 1 then 2 else if k = 0 then 1 else 0
  else if o = 33 then fun k => if k = 5 then -1 else if k = 6 then 13 else 0
  else if o = 44 then fun k => if k = 3 then -1 else if k = 2 then -1 else if k = 1 then -1 else if k = 0 then -1 else 0
  else if o = 51 then fun k => if k = 7 then 200 else if k = 37 then -1 else 0
  else fun _ => 0
theorem MI_can : Can MI := by
  intro o k
  unfold MI
  repeat' split
  all_goals dsimp only
  all_goals (repeat' split)
  all_goals exact r32_of rfl
/-- an object's fields, and what a row of shapes holds, from a place on -/
def fvL (g : GX) (M : Mem) (o : Nat) : Nat → List Nat → List Value
  | _, [] => []
  | k, d :: ds => fv g M o k d :: fvL g M o (k + 1) ds
theorem fvL_get (g : GX) (M : Mem) (o : Nat) : ∀ (l : List Nat) (k i : Nat), (fvL g M o k l)[i]? = (l[i]?).map (fun d => fv g M o (k + i) d)
  | [], _, _ => rfl
  | d :: ds, k, 0 => rfl
  | d :: ds, k, i + 1 => by
    show (fvL g M o (k + 1) ds)[i]? = (ds[i]?).map _
    rw [fvL_get g M o ds (k + 1) i, show k + 1 + i = k + (i + 1) by omega]
def ent2 (g : GX) (M : Mem) (o : Nat) : Sh → va_E
  | .inl q => .inr (q.1, fvL g M o 0 q.2)
  | .inr (.inl q) => .inl (if q.1 = 0 then g.2.2.1 else g.2.2.2.1, q.2, .inl (fun j => Int32.ofInt (M o j)))
  | .inr (.inr ids) => .inl (g.2.2.2.2, ids.length, .inr (.inr (.inr (.inr (fun j => (ids[j]?).map g.2.1)))))
theorem ent2_eq (g : GX) (M : Mem) (o : Nat) (e : Sh) : ent2 g M o e = ent g M o e := by
  rcases e with q | q | q
  · show Sum.inr (q.1, _) = Sum.inr (q.1, _)
    congr 2
    apply List.ext_getElem?
    intro i
    rw [fvL_get, List.getElem?_mapIdx, Nat.zero_add]
  · rfl
  · rfl
def entL (g : GX) (M : Mem) : Nat → List Sh → List va_E
  | _, [] => []
  | o, s :: ss => ent2 g M o s :: entL g M (o + 1) ss
theorem entL_get (g : GX) (M : Mem) : ∀ (l : List Sh) (o i : Nat), (entL g M o l)[i]? = (l[i]?).map (fun e => ent2 g M (o + i) e)
  | [], _, _ => rfl
  | s :: ss, o, 0 => rfl
  | s :: ss, o, i + 1 => by
    show (entL g M (o + 1) ss)[i]? = (ss[i]?).map _
    rw [entL_get g M ss (o + 1) i, show o + 1 + i = o + (i + 1) by omega]
theorem wld_entL (g : GX) (M : Mem) : mkw g (entL g M 0 shp) = wld g M := by
  apply List.ext_getElem?
  intro i
  rw [wld_get, mkw_get, entL_get, Nat.zero_add]
  cases shp[i]? with
  | none => rfl
  | some e => show some (g.2.1 i, ent2 g M i e) = some (g.2.1 i, ent g M i e); rw [ent2_eq]
theorem MI_19 : upd (upd (upd (fun _ => Int32.ofInt 0) 0 (Int32.ofInt 3)) 1 (Int32.ofInt 10)) 2 (Int32.ofInt 5) = fun j => Int32.ofInt (MI 19 j) := by
  funext j
  show upd _ _ _ j = Int32.ofInt (if j = 2 then 5 else if j = 1 then 10 else if j = 0 then 3 else 0)
  unfold upd
  repeat' split
  all_goals first | rfl | contradiction
theorem MI_26 : upd (upd (upd (fun _ => Int32.ofInt 0) 0 (Int32.ofInt 1)) 1 (Int32.ofInt 2)) 2 (Int32.ofInt 3) = fun j => Int32.ofInt (MI 26 j) := by
  funext j
  show upd _ _ _ j = Int32.ofInt (if j = 2 then 3 else if j = 1 then 2 else if j = 0 then 1 else 0)
  unfold upd
  repeat' split
  all_goals first | rfl | contradiction
theorem MI_44 : upd (upd (upd (upd (fun _ => Int32.ofInt 0) 0 (Int32.ofInt (-1))) 1 (Int32.ofInt (-1))) 2 (Int32.ofInt (-1))) 3 (Int32.ofInt (-1)) = fun j => Int32.ofInt (MI 44 j) := by
  funext j
  show upd _ _ _ j = Int32.ofInt (if j = 3 then -1 else if j = 2 then -1 else if j = 1 then -1 else if j = 0 then -1 else 0)
  unfold upd
  repeat' split
  all_goals first | rfl | contradiction
theorem ini_1 (g : GX) : E_X0 g 1 = entL g MI 1 [.inl (0, [0, 0, 0, 0, 5, 6, 7, 8, 0, 9, 10]), .inr (.inl (0, 6)), .inr (.inl (0, 6)), .inr (.inl (0, 6)), .inr (.inl (0, 6)), .inr (.inl (0, 40)), .inr (.inl (0, 40))] := by
  rfl
theorem ini_8 (g : GX) : E_X0 g 8 = entL g MI 8 [.inl (0, [0, 0, 0, 0, 12, 13, 14, 15, 0, 16, 17]), .inr (.inl (0, 6)), .inr (.inl (0, 6)), .inr (.inl (0, 6)), .inr (.inl (0, 6)), .inr (.inl (0, 40)), .inr (.inl (0, 40))] := by
  rfl
theorem ini_15 (g : GX) : E_X6 g 15 = entL g MI 15 [.inl (5, [19, 0]), .inr (.inl (0, 160))] := by
  rfl
theorem ini_17 (g : GX) : E_X7 g 17 = entL g MI 17 [.inl (6, [0, 21, 28, 35]), .inr (.inr [19, 20, 21, 22, 23, 24]), .inr (.inl (0, 160)), .inr (.inl (0, 160)), .inr (.inl (0, 160)), .inr (.inl (0, 160)), .inr (.inl (0, 160)), .inr (.inl (0, 160)), .inr (.inr [26, 27, 28, 29, 30, 31]), .inr (.inl (0, 3)), .inr (.inl (0, 3)), .inr (.inl (0, 3)), .inr (.inl (0, 3)), .inr (.inl (0, 3)), .inr (.inl (0, 3)), .inr (.inl (0, 160))] := by
  show [_, _, (Sum.inl (g.2.2.1, 160, Sum.inl (upd (upd (upd (fun _ => Int32.ofInt 0) 0 (Int32.ofInt 3)) 1 (Int32.ofInt 10)) 2 (Int32.ofInt 5))) : va_E), _, _, _, _, _, _, (Sum.inl (g.2.2.1, 3, Sum.inl (upd (upd (upd (fun _ => Int32.ofInt 0) 0 (Int32.ofInt 1)) 1 (Int32.ofInt 2)) 2 (Int32.ofInt 3))) : va_E), _, _, _, _, _, _] = _
  rw [MI_19, MI_26]
  rfl
theorem ini_33 (g : GX) : E_X4 g 33 (g.2.1 15) = entL g MI 33 [.inl (3, [18, 37, 38, 0, 0, 0, 0, 0, 0]), .inr (.inl (0, 160)), .inr (.inl (0, 3))] := by
  rfl
theorem ini_36 (g : GX) : E_X2 g 36 (g.2.1 17) = entL g MI 36 [.inl (1, [20, 0, 0, 40]), .inr (.inl (0, 6))] := by
  rfl
theorem ini_38 (g : GX) : E_X8 g 38 (g.2.1 1) (g.2.1 36) = entL g MI 38 [.inl (7, [4, 39, 42, 43, 0, 0, 0, 0]), .inr (.inl (0, 6)), .inr (.inl (0, 80))] := by
  rfl
theorem ini_41 (g : GX) : E_X3 g 41 (g.2.1 38) = entL g MI 41 [.inl (2, [41, 45, 0, 0, 0]), .inr (.inl (0, 6))] := by
  rfl
theorem ini_43 (g : GX) : E_X5 g 43 = entL g MI 43 [.inl (4, [47, 48, 49]), .inr (.inl (0, 4)), .inr (.inl (0, 4)), .inr (.inr [47, 48, 49, 50]), .inr (.inl (0, 40)), .inr (.inl (0, 40)), .inr (.inl (0, 40)), .inr (.inl (0, 40))] := by
  show [_, (Sum.inl (g.2.2.1, 4, Sum.inl (upd (upd (upd (upd (fun _ => Int32.ofInt 0) 0 (Int32.ofInt (-1))) 1 (Int32.ofInt (-1))) 2 (Int32.ofInt (-1))) 3 (Int32.ofInt (-1)))) : va_E), _, _, _, _, _, _] = _
  rw [MI_44]
  rfl
theorem ini_51 (g : GX) : E_X10 g 51 = entL g MI 51 [.inl (9, [0, 55, 56, 0, 0, 57, 0, 0, 0, 58, 59, 0, 60, 61, 0, 0, 0, 0, 0, 0, 0, 0, 0, 0, 0, 0, 1, 0, 2, 0, 0, 0, 62, 63, 64, 65, 66, 0, 0, 0, 0, 0, 67, 68, 69, 70]), .inr (.inl (0, 960)), .inr (.inl (0, 6)), .inr (.inl (0, 160)), .inr (.inl (0, 6)), .inr (.inl (0, 18)), .inr (.inl (0, 40)), .inr (.inl (0, 40)), .inr (.inl (0, 6)), .inr (.inl (0, 20)), .inr (.inl (0, 18)), .inr (.inl (0, 40)), .inr (.inl (0, 40)), .inr (.inl (1, 4)), .inr (.inl (0, 4)), .inr (.inl (0, 4)), .inr (.inl (0, 160))] := by
  rfl
set_option maxRecDepth 20000 in
set_option maxHeartbeats 4000000 in
theorem ini_w (g : GX) : mkw g (E_X9 g ++ E_X10 g 51) = wld g MI := by
  rw [← wld_entL]
  congr 1
  show (_ :: T9_9 g) ++ E_X10 g 51 = _
  rw [show T9_9 g = ((((((((([] ++ E_X0 g 1) ++ E_X0 g 8) ++ E_X6 g 15) ++ E_X7 g 17) ++ E_X4 g 33 (g.2.1 15)) ++ E_X2 g 36 (g.2.1 17)) ++ E_X8 g 38 (g.2.1 1) (g.2.1 36)) ++ E_X3 g 41 (g.2.1 38)) ++ E_X5 g 43) from rfl]
  rw [ini_1, ini_8, ini_15, ini_17, ini_33, ini_36, ini_38, ini_41, ini_43, ini_51]
  rfl
/-- eight bytes of a text -/
def spl (M : Mem) (p : Nat) (xs : List Int) : Mem := fun o k => if o = 52 ∧ p ≤ k ∧ k < p + 8 then xs.getD (k - p) 0 else M o k
theorem spl_eq {M : Mem} {p : Nat} {a2 a3 a4 a5 a6 a7 a8 a9 : Int} : up (up (up (up (up (up (up (up M 52 p a2) 52 (p + 1) a3) 52 (p + 2) a4) 52 (p + 3) a5) 52 (p + 4) a6) 52 (p + 5) a7) 52 (p + 6) a8) 52 (p + 7) a9 = spl M p [a2, a3, a4, a5, a6, a7, a8, a9] := by
  funext o k
  unfold spl up
  by_cases ho : o = 52
  · by_cases hk : p ≤ k ∧ k < p + 8
    · rw [if_pos (show o = 52 ∧ p ≤ k ∧ k < p + 8 from ⟨ho, hk⟩)]
      subst ho
      rcases (show k = p ∨ k = p + 1 ∨ k = p + 2 ∨ k = p + 3 ∨ k = p + 4 ∨ k = p + 5 ∨ k = p + 6 ∨ k = p + 7 by omega) with rfl | rfl | rfl | rfl | rfl | rfl | rfl | rfl
      · simp
      all_goals simp [Nat.add_sub_cancel_left]
    · rw [if_neg (show ¬ (o = 52 ∧ p ≤ k ∧ k < p + 8) from fun h => hk h.2)]
      rw [if_neg (fun h => hk (by omega)), if_neg (fun h => hk (by omega)), if_neg (fun h => hk (by omega)), if_neg (fun h => hk (by omega)), if_neg (fun h => hk (by omega)), if_neg (fun h => hk (by omega)), if_neg (fun h => hk (by omega)), if_neg (fun h => hk (by omega))]
  · rw [if_neg (fun h => ho h.1)]
    rw [if_neg (fun h => ho h.1), if_neg (fun h => ho h.1), if_neg (fun h => ho h.1), if_neg (fun h => ho h.1), if_neg (fun h => ho h.1), if_neg (fun h => ho h.1), if_neg (fun h => ho h.1), if_neg (fun h => ho h.1)]
theorem wp_ {p : Nat} (hp : p + 8 ≤ 960) {j : Int} (h0 : 0 ≤ j) (h8 : j ≤ 7) : w32 ((p : Int) + j) = (p : Int) + j := w32_id (by omega)
theorem ip_ {p : Nat} (hp : p + 8 ≤ 960) {j : Int} (h0 : 0 ≤ j) (h8 : j ≤ 7) : 0 ≤ (p : Int) + j ∧ (p : Int) + j < 960 := by omega
theorem tp_ (p : Nat) {j : Int} (k : Nat) (h : j = (k : Int)) : Int.toNat ((p : Int) + j) = p + k := by omega
theorem c_spell {n p : Nat} {a2 a3 a4 a5 a6 a7 a8 a9 : Int} {M : Mem} {Q : Int → Mem → Prop} (hp : p + 8 ≤ 960) (hq : Q 0 (spl M p [a2, a3, a4, a5, a6, a7, a8, a9])) : Con (n + 1) md_X10_spell [vR 51, vI (p : Int), vI a2, vI a3, vI a4, vI a5, vI a6, vI a7, vI a8, vI a9] M Q := g_X10_spell (by
  unfold B_X10_spell
  rw [← spl_eq] at hq
  rw [wp_ hp (j := 1) (by decide) (by decide), wp_ hp (j := 2) (by decide) (by decide), wp_ hp (j := 3) (by decide) (by decide), wp_ hp (j := 4) (by decide) (by decide), wp_ hp (j := 5) (by decide) (by decide), wp_ hp (j := 6) (by decide) (by decide), wp_ hp (j := 7) (by decide) (by decide)]
  rw [tp_ p (j := 1) 1 rfl, tp_ p (j := 2) 2 rfl, tp_ p (j := 3) 3 rfl, tp_ p (j := 4) 4 rfl, tp_ p (j := 5) 5 rfl, tp_ p (j := 6) 6 rfl, tp_ p (j := 7) 7 rfl, show Int.toNat (p : Int) = p from rfl]
  refine ⟨by omega, fun M1 h1 => ⟨ip_ hp (by decide) (by decide), fun M2 h2 => ⟨ip_ hp (by decide) (by decide), fun M3 h3 => ⟨ip_ hp (by decide) (by decide), fun M4 h4 => ⟨ip_ hp (by decide) (by decide), fun M5 h5 => ⟨ip_ hp (by decide) (by decide), fun M6 h6 => ⟨ip_ hp (by decide) (by decide), fun M7 h7 => ⟨ip_ hp (by decide) (by decide), fun M8 h8 => ?_⟩⟩⟩⟩⟩⟩⟩⟩
  rw [h8, h7, h6, h5, h4, h3, h2, h1]
  exact hq)
set_option maxRecDepth 100000 in
theorem ml_X10_69 : mLk RX10 69 yX10_spell := Or.inl (gd_mem 978 rfl rfl)
/-- the memory behind both -/
def MF : Mem := up (up (spl (spl (spl (spl (MI) 0 [116, 117, 114, 110, 115, 32, 51, 32]) 8 [59, 32, 99, 111, 115, 116, 115, 32]) 16 [49, 48, 32, 59, 32, 108, 97, 115]) 24 [116, 115, 32, 53, 32, 59, 32, 32]) 53 0 32) 51 3 1
theorem wm_X10 {X : CT} {Q : Int → Mem → Prop} (C : Cx X cX10_init RX10 1) (E : Cr X none Q) (hq : Q 0 MF) : WM X 144 [(0, vR 51)] [] MI := by
  refine m_aload_n C 0 dX10_init_144 rfl rfl ?_
  refine m_iconst C dX10_init_145 (r32_of rfl) ?_
  refine m_bipush C dX10_init_146 (r32_of rfl) (by decide) ?_
  refine m_bipush C dX10_init_148 (r32_of rfl) (by decide) ?_
  refine m_bipush C dX10_init_150 (r32_of rfl) (by decide) ?_
  refine m_bipush C dX10_init_152 (r32_of rfl) (by decide) ?_
  refine m_bipush C dX10_init_154 (r32_of rfl) (by decide) ?_
  refine m_bipush C dX10_init_156 (r32_of rfl) (by decide) ?_
  refine m_bipush C dX10_init_158 (r32_of rfl) (by decide) ?_
  refine m_bipush C dX10_init_160 (r32_of rfl) (by decide) ?_
  refine m_callVv C (as := [vI 0, vI 116, vI 117, vI 114, vI 110, vI 115, vI 32, vI 51, vI 32]) (rest := []) ok_X10_spell ml_X10_69 so_51 rfl rfl rfl (Nat.le_of_ble_eq_true rfl) (fun _ => rfl) dX10_init_162 (c_spell (n := 0) (p := 0) (by omega) ?_)
  refine m_aload_n C 0 dX10_init_165 rfl rfl ?_
  refine m_bipush C dX10_init_166 (r32_of rfl) (by decide) ?_
  refine m_bipush C dX10_init_168 (r32_of rfl) (by decide) ?_
  refine m_bipush C dX10_init_170 (r32_of rfl) (by decide) ?_
  refine m_bipush C dX10_init_172 (r32_of rfl) (by decide) ?_
  refine m_bipush C dX10_init_174 (r32_of rfl) (by decide) ?_
  refine m_bipush C dX10_init_176 (r32_of rfl) (by decide) ?_
  refine m_bipush C dX10_init_178 (r32_of rfl) (by decide) ?_
  refine m_bipush C dX10_init_180 (r32_of rfl) (by decide) ?_
  refine m_bipush C dX10_init_182 (r32_of rfl) (by decide) ?_
  refine m_callVv C (as := [vI 8, vI 59, vI 32, vI 99, vI 111, vI 115, vI 116, vI 115, vI 32]) (rest := []) ok_X10_spell ml_X10_69 so_51 rfl rfl rfl (Nat.le_of_ble_eq_true rfl) (fun _ => rfl) dX10_init_184 (c_spell (n := 0) (p := 8) (by omega) ?_)
  refine m_aload_n C 0 dX10_init_187 rfl rfl ?_
  refine m_bipush C dX10_init_188 (r32_of rfl) (by decide) ?_
  refine m_bipush C dX10_init_190 (r32_of rfl) (by decide) ?_
  refine m_bipush C dX10_init_192 (r32_of rfl) (by decide) ?_
  refine m_bipush C dX10_init_194 (r32_of rfl) (by decide) ?_
  refine m_bipush C dX10_init_196 (r32_of rfl) (by decide) ?_
  refine m_bipush C dX10_init_198 (r32_of rfl) (by decide) ?_
  refine m_bipush C dX10_init_200 (r32_of rfl) (by decide) ?_
  refine m_bipush C dX10_init_202 (r32_of rfl) (by decide) ?_
  refine m_bipush C dX10_init_204 (r32_of rfl) (by decide) ?_
  refine m_callVv C (as := [vI 16, vI 49, vI 48, vI 32, vI 59, vI 32, vI 108, vI 97, vI 115]) (rest := []) ok_X10_spell ml_X10_69 so_51 rfl rfl rfl (Nat.le_of_ble_eq_true rfl) (fun _ => rfl) dX10_init_206 (c_spell (n := 0) (p := 16) (by omega) ?_)
  refine m_aload_n C 0 dX10_init_209 rfl rfl ?_
  refine m_bipush C dX10_init_210 (r32_of rfl) (by decide) ?_
  refine m_bipush C dX10_init_212 (r32_of rfl) (by decide) ?_
  refine m_bipush C dX10_init_214 (r32_of rfl) (by decide) ?_
  refine m_bipush C dX10_init_216 (r32_of rfl) (by decide) ?_
  refine m_bipush C dX10_init_218 (r32_of rfl) (by decide) ?_
  refine m_bipush C dX10_init_220 (r32_of rfl) (by decide) ?_
  refine m_bipush C dX10_init_222 (r32_of rfl) (by decide) ?_
  refine m_bipush C dX10_init_224 (r32_of rfl) (by decide) ?_
  refine m_bipush C dX10_init_226 (r32_of rfl) (by decide) ?_
  refine m_callVv C (as := [vI 24, vI 116, vI 115, vI 32, vI 53, vI 32, vI 59, vI 32, vI 32]) (rest := []) ok_X10_spell ml_X10_69 so_51 rfl rfl rfl (Nat.le_of_ble_eq_true rfl) (fun _ => rfl) dX10_init_228 (c_spell (n := 0) (p := 24) (by omega) ?_)
  refine m_aload_n C 0 dX10_init_231 rfl rfl ?_
  refine m_getR C (k := 2) cl_X10 (by decide) so_51 rfl fl_X10_17 dX10_init_232 ?_
  refine m_iconst C dX10_init_235 (r32_of rfl) ?_
  refine m_bipush C dX10_init_236 (r32_of rfl) (by decide) ?_
  refine m_iast C (N := 6) sa_53 (by decide) dX10_init_238 ?_
  refine m_aload_n C 0 dX10_init_239 rfl rfl ?_
  refine m_iconst C dX10_init_240 (r32_of rfl) ?_
  refine m_putI C (k := 3) cl_X10 (by decide) so_51 rfl rfl rfl fl_X10_73 dX10_init_241 ?_
  exact m_vret C E dX10_init_244 hq
theorem mc_X10 {g : GX} {sz : Nat} (hsq : ∀ o, o < shN → g.2.1 o = sz + o) {Q : Int → Mem → Prop} (hq : Q 0 MF) (l : Launch) : Met l md_X10_init.1 (.code md_X10_init.1 md_X10_init.2.1 1 none :: gd_tbl) (rmC 2 16 1526) (PcC g sz [.ref (g.2.1 51)] (E_X9 g ++ [.inr (9, fd_X10)])) (QcO g none Q) 16 1526 (Ag g) := by
  refine Met.ofC (d := 1) hsq pl_X10_init rfl (Nat.le_of_ble_eq_true rfl) (fun X hg C hin E hnL hmc hms => ?_) l
  subst hg
  have C : Ck X cX10_init RX10 1 sz := C
  refine cw_X10 (b := 51) (pre := E_X9 X.2.2.2) C hin hmc hms rfl (Nat.le_of_ble_eq_true rfl) ?_
  exact CW.toWM (Lv := [(0, vR 51)]) (Sv := []) (ini_w X.2.2.2) MI_can (fun q hq => by rcases List.mem_cons.mp hq with rfl | hq; · trivial
                                                                                       · cases hq) (fun _ h => by cases h) rfl rfl (by rw [hmc]; exact Nat.le_refl _) (by rw [hms]; exact Nat.le_refl _) (wm_X10 C.1 E hq)
