/-! ONE CALL ON BOTH: what only asks -/
theorem st_told {f w : Int} : Step md_X9_told md_X10_told [vI f, vI w] := fun n M ca ⟨h, hk, xt, xs, τ, z, b, p, j, pp⟩ =>
  step_of (R := tlR τ h f w) j pp
    (fun Q hq => x_told (n := n + 95) p.1 pp.1 p.2.1 (by rw [p.2.2.1]; exact pp.2.1) (fun M' F => hq M' (p.scr F (fun _ => sC_in)) (kM.of F (fun _ => sC51))))
    (fun M1 Q j1 hq => mm_told (n := n + 18) j1.1 pp.1 (j1.2.1.rd (by rw [j1.2.2.1]; exact pp.2.2.1.2)) (by rw [j1.2.2.1]; exact pp.2.1) (fun M' F => hq M' (j1.scr F (fun _ _ q => q)) (frL F)))
theorem st_stem {s w : Int} : Step md_X9_stem md_X10_stem [vI s, vI w] := fun n M ca ⟨h, hk, xt, xs, τ, z, b, p, j, pp⟩ =>
  step_of (R := stR h s w) j pp
    (fun Q hq => x_stem (n := n + 98) p.1 pp.1 (hq M p kM.rf))
    (fun M1 Q j1 hq => mm_stem (n := n + 98) j1.1 pp.1 (hq M1 j1 Fr.rf))
theorem st_bunch {w : Int} : Step md_X9_bunch md_X10_bunch [vI w] := fun n M ca ⟨h, hk, xt, xs, τ, z, b, p, j, pp⟩ =>
  step_of (R := buR τ h w) j pp
    (fun Q hq => x_bunch (n := n + 94) p.1 pp.1 p.2.1 (by rw [p.2.2.1]; exact pp.2.1) (fun M' F => hq M' (p.scr F (fun _ => sC_in)) (kM.of F (fun _ => sC51))))
    (fun M1 Q j1 hq => mm_bunch (n := n + 17) j1.1 pp.1 (j1.2.1.rd (by rw [j1.2.2.1]; exact pp.2.2.1.2)) (by rw [j1.2.2.1]; exact pp.2.1) (fun M' F H' => hq M' (j1.hnd F (fun _ _ q => q) H') (frH F)))
theorem st_good {w : Int} : Step md_X9_good md_X10_good [vI w] := fun n M ca ⟨h, hk, xt, xs, τ, z, b, p, j, pp⟩ =>
  step_of (R := gdR τ h w) j pp
    (fun Q hq => x_good (n := n + 95) p.1 pp.1 p.2.1 (by rw [p.2.2.1]; exact pp.2.1) (fun M' F => hq M' (p.scr F (fun _ => sC_in)) (kM.of F (fun _ => sC51))))
    (fun M1 Q j1 hq => mm_good (n := n + 18) j1.1 pp.1 (j1.2.1.rd (by rw [j1.2.2.1]; exact pp.2.2.1.2)) (by rw [j1.2.2.1]; exact pp.2.1) (fun M' F H' => hq M' (j1.hnd F (fun _ _ q => q) H') (frH F)))
theorem st_next {w : Int} : Step md_X9_next md_X10_next [vI w] := fun n M ca ⟨h, hk, xt, xs, τ, z, b, p, j, pp⟩ =>
  step_of (R := nxR τ h w) j pp
    (fun Q hq => x_next (n := n + 94) p.1 pp.1 p.2.1 (by rw [p.2.2.1]; exact pp.2.1) (fun M' F => hq M' (p.scr F (fun _ => sC_in)) (kM.of F (fun _ => sC51))))
    (fun M1 Q j1 hq => mm_next (n := n + 17) j1.1 pp.1 (j1.2.1.rd (by rw [j1.2.2.1]; exact pp.2.2.1.2)) (by rw [j1.2.2.1]; exact pp.2.1) (fun M' F H' => hq M' (j1.hnd F (fun _ _ q => q) H') (frH F)))
theorem st_howMany {w : Int} : Step md_X9_howMany md_X10_howMany [vI w] := fun n M ca ⟨h, hk, xt, xs, τ, z, b, p, j, pp⟩ =>
  step_of (R := hmR τ h w) j pp
    (fun Q hq => x_howMany (n := n + 94) p.1 pp.1 p.2.1 (by rw [p.2.2.1]; exact pp.2.1) (fun M' F => hq M' (p.scr F (fun _ => sC_in)) (kM.of F (fun _ => sC51))))
    (fun M1 Q j1 hq => mm_howMany (n := n + 17) j1.1 pp.1 (j1.2.1.rd (by rw [j1.2.2.1]; exact pp.2.2.1.2)) (by rw [j1.2.2.1]; exact pp.2.1) (fun M' F H' => hq M' (j1.hnd F (fun _ _ q => q) H') (frH F)))
theorem st_order {s w : Int} : Step md_X9_order md_X10_order [vI s, vI w] := fun n M ca ⟨h, hk, xt, xs, τ, z, b, p, j, pp⟩ =>
  step_of (R := orR τ h xs s w) j pp
    (fun Q hq => x_order (n := n + 80) p.1 pp.1 p.2.1 (by rw [p.2.2.1]; exact pp.2.1) p.2.2.2.1 pp.2.2.2.1 (fun M' F => hq M' (p.scr F (fun _ => sC_in)) (kM.of F (fun _ => sC51))))
    (fun M1 Q j1 hq => mm_order (n := n + 10) j1.1 pp.1 (j1.2.1.rd (by rw [j1.2.2.1]; exact pp.2.2.1.2)) (by rw [j1.2.2.1]; exact pp.2.1) j1.2.2.2.1 pp.2.2.2.1 (fun M' F H' => hq M' (j1.hnd F (fun _ _ q => q) H') (frH F)))
theorem st_forMoney {w : Int} : Step md_X9_forMoney md_X10_forMoney [vI w] := fun n M ca ⟨h, hk, xt, xs, τ, z, b, p, j, pp⟩ =>
  step_of (R := fyR τ h w) j pp
    (fun Q hq => x_forMoney (n := n + 94) p.1 pp.1 p.2.1 (by rw [p.2.2.1]; exact pp.2.1) (fun M' F => hq M' (p.scr F (fun _ => sC_in)) (kM.of F (fun _ => sC51))))
    (fun M1 Q j1 hq => mm_forMoney (n := n + 18) j1.1 pp.1 (j1.2.1.rd (by rw [j1.2.2.1]; exact pp.2.2.1.2)) (by rw [j1.2.2.1]; exact pp.2.1) (fun M' F H' => hq M' (j1.hnd F (fun _ _ q => q) H') (frH F)))
theorem st_worst {w : Int} : Step md_X9_worst md_X10_worst [vI w] := fun n M ca ⟨h, hk, xt, xs, τ, z, b, p, j, pp⟩ =>
  step_of (R := woR h w) j pp
    (fun Q hq => x_worst (n := n + 95) p.1 pp.1 (fun M' F => hq M' (p.scr F (fun _ => sC_in)) (kM.of F (fun _ => sC51))))
    (fun M1 Q j1 hq => mm_worst (n := n + 96) j1.1 pp.1 (hq M1 j1 Fr.rf))
theorem st_tells {s f w : Int} : Step md_X9_tells md_X10_tells [vI s, vI f, vI w] := fun n M ca ⟨h, hk, xt, xs, τ, z, b, p, j, pp⟩ =>
  step_of (R := teR τ h xs z s f w) j pp
    (fun Q hq => x_tells (n := n + 93) p.1 pp.1 p.2.1 (by rw [p.2.2.1]; exact pp.2.1) p.2.2.2.1 pp.2.2.2.1 (fun M' F => by rw [p.2.2.1]; exact hq M' (p.scr F (fun _ => sC_in)) (kM.of F (fun _ => sC51))))
    (fun M1 Q j1 hq => mm_tells (n := n + 16) j1.1 pp.1 (j1.2.1.rd (by rw [j1.2.2.1]; exact pp.2.2.1.2)) (by rw [j1.2.2.1]; exact pp.2.2.1) (by rw [j1.2.2.1]; exact pp.2.1) j1.2.2.2.1 pp.2.2.2.1 (fun M' F H' => by rw [j1.2.2.1]; exact hq M' (j1.hnd F (fun _ _ q => q) H') (frH F)))
theorem st_drawn {s w : Int} : Step md_X9_drawn md_X10_drawn [vI s, vI w] := fun n M ca ⟨h, hk, xt, xs, τ, z, b, p, j, pp⟩ =>
  step_of (R := dwR τ h s w) j pp
    (fun Q hq => x_drawn (n := n + 93) p.1 pp.1 p.2.1 (by rw [p.2.2.1]; exact pp.2.1) (fun M' F => hq M' (p.scr F (fun _ => sC_in)) (kM.of F (fun _ => sC51))))
    (fun M1 Q j1 hq => mm_drawn (n := n + 16) j1.1 pp.1 (j1.2.1.rd (by rw [j1.2.2.1]; exact pp.2.2.1.2)) (by rw [j1.2.2.1]; exact pp.2.1) (fun M' F H' => hq M' (j1.hnd F (fun _ _ q => q) H') (frH F)))
theorem st_chance {a m k q : Int} : Step md_X9_chance md_X10_chance [vI a, vI m, vI k, vI q] := fun n M ca ⟨h, hk, xt, xs, τ, z, b, p, j, pp⟩ =>
  step_of (R := chR τ h a m k q) j pp
    (fun Q hq => x_chance (n := n + 93) p.1 pp.1 p.2.1 (by rw [p.2.2.1]; exact pp.2.1) (fun M' F => hq M' (p.scr F (fun _ => sC_in)) (kM.of F (fun _ => sC51))))
    (fun M1 Q j1 hq => mm_chance (n := n + 16) j1.1 pp.1 (j1.2.1.rd (by rw [j1.2.2.1]; exact pp.2.2.1.2)) (by rw [j1.2.2.1]; exact pp.2.1) (fun M' F H' => hq M' (j1.hnd F (fun _ _ q => q) H') (frH F)))
theorem st_count {w : Int} : Step md_X9_count md_X10_count [vI w] := fun n M ca ⟨h, hk, xt, xs, τ, z, b, p, j, pp⟩ =>
  step_of (R := ctR h xt z w) j pp
    (fun Q hq => x_count (n := n + 98) p.1 pp.1 p.2.2.2.2.1 (by rw [p.2.2.1]; exact hq M p kM.rf))
    (fun M1 Q j1 hq => mm_count (n := n + 98) j1.1 pp.1 j1.2.2.2.2.1 (by rw [j1.2.2.1]; exact hq M1 j1 Fr.rf))
theorem st_taken {f k : Int} : Step md_X9_taken md_X10_taken [vI f, vI k] := fun n M ca ⟨h, hk, xt, xs, τ, z, b, p, j, pp⟩ =>
  step_of (R := tkR h f k) j pp
    (fun Q hq => x_taken (n := n + 97) p.1 pp.1 (hq M p kM.rf))
    (fun M1 Q j1 hq => mm_taken (n := n + 97) j1.1 pp.1 (hq M1 j1 Fr.rf))
