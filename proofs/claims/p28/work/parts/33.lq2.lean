/-! THE LAW'S QUESTIONS of groups (printed by wip/p28/lq2.py) -/
section LQ8
set_option maxRecDepth 20000 in
set_option maxHeartbeats 400000 in
theorem t_L_place {w : List MC} {b : Nat} {σ : SG} {al : Bool} (hu : w[b]? = some (cArr 3 32 (um (s_fr σ)))) (hi : Inv σ) {gg p g : Int} (hG : gg = 4 * p + g) (h_p : 0 ≤ p ∧ p < 4) (h_g : 0 ≤ g ∧ g < 4) : GM M_L_place al [vI gg, vR b] (w) 0 0 (dt (some (vI (b2 (ip σ p g)))) (w)) := by
  show G _ none _ _ 0 [some (vI gg), some (vR b), none, none, none] [] _ _ _ _
  refine g_iconst (pc := 0) dL_place_0 ?_
  refine g_iload_n (i := 0) (pc := 1) dL_place_1 rfl rfl ?_
  refine g_imul (pc := 2) dL_place_2 ?_
  refine g_aload_n (i := 1) (pc := 3) dL_place_3 rfl rfl ?_
  refine g_sIR (pc := 4) okS_L_frame rfl l_L_46 dL_place_4 (by decide) (by decide) (Nat.le_of_ble_eq_true rfl) (t_L_frame (σ := σ) hu hi (by omega)) rfl ?_
  simp only [Option.toList, List.cons_append, List.nil_append]
  have bb := hi.1 ((4 * gg)).toNat
  refine G.eqS (congrArg (fun z => vI z) (fo_k (σ := σ) (p := p) (v := 4 * g) (by omega) h_p (by omega))) ?_
  have bf := fo_rng hi p (4 * g)
  refine g_istore_n (i := 2) (pc := 7) dL_place_7 rfl (by decide) rfl ?_
  simp only [List.set_cons_succ, List.set_cons_zero]
  refine g_iload_n (i := 2) (pc := 8) dL_place_8 rfl rfl ?_
  refine g_z_lt (tgt := 22) (pc := 9) dL_place_9 (by omega) (by decide) (fun c9 => ?_) (fun c9 => ?_)
  · skip
    refine g_iconst (pc := 22) dL_place_22 ?_
    refine g_istore_n (i := 3) (pc := 23) dL_place_23 rfl (by decide) rfl ?_
    simp only [List.set_cons_succ, List.set_cons_zero]
    refine g_iconst (pc := 24) dL_place_24 ?_
    refine g_istore (pc := 25) dL_place_25 (by decide) rfl ?_
    simp only [List.set_cons_succ, List.set_cons_zero]
    refine G.eqL2 (F := fun x y => [some (vI gg), some (vR b), some (vI (fo σ p (4 * g))), some (vI x), some (vI y)]) (x' := b2 (ipk σ p g 1)) (y' := ((1 : Nat) : Int)) ?_ (by omega) ?_
    · first
      | exact (b2_t (ipk_1.mpr ⟨by omega, by omega⟩)).symm
      | exact (b2_f (fun z => by have z9 := ipk_1.mp z; omega)).symm
    refine lp_up (P := fun k => 1 ≤ k → G M_L_place none al al 27 [some (vI gg), some (vR b), some (vI (fo σ p (4 * g))), some (vI (b2 (ipk σ p g k))), some (vI (k : Int))] [] w 0 0 (dt (some (vI (b2 (ip σ p g)))) (w))) 4 ?_ ?_ 1 (by decide) (by decide)
    · intro h1
      have bx := b2_rng (ipk σ p g 4)
      refine g_iload (pc := 27) dL_place_27 rfl ?_
      refine g_iconst (pc := 29) dL_place_29 ?_
      refine g_c_ge (tgt := 66) (pc := 30) dL_place_30 (by omega) (by decide) (fun c30 => ?_) (fun c30 => absurd c30 (by omega))
      refine g_iload_n (i := 3) (pc := 66) dL_place_66 rfl rfl ?_
      refine g_zret (pc := 67) rfl dL_place_67 (by omega) (fun h => h) ?_
      exact dt_i rfl rfl
    · intro k hk ih h1
      have bx := b2_rng (ipk σ p g k)
      have by9 := @ipk_s σ p g k h1
      refine g_iload (pc := 27) dL_place_27 rfl ?_
      refine g_iconst (pc := 29) dL_place_29 ?_
      refine g_c_ge (tgt := 66) (pc := 30) dL_place_30 (by omega) (by decide) (fun c30 => absurd c30 (by omega)) (fun c30 => ?_)
      refine g_iload_n (i := 3) (pc := 33) dL_place_33 rfl rfl ?_
      refine g_z_eq (tgt := 58) (pc := 34) dL_place_34 (by omega) (by decide) (fun c34 => ?_) (fun c34 => ?_)
      · skip
        refine g_iconst (pc := 58) dL_place_58 ?_
        refine g_istore_n (i := 3) (pc := 59) dL_place_59 rfl (by decide) rfl ?_
        simp only [List.set_cons_succ, List.set_cons_zero]
        refine g_iinc (pc := 60) dL_place_60 rfl (by decide) rfl ?_
        simp only [List.set_cons_succ, List.set_cons_zero]
        refine g_goto (tgt := 27) (pc := 63) dL_place_63 (by decide) ?_
        refine G.eqL2 (F := fun x y => [some (vI gg), some (vR b), some (vI (fo σ p (4 * g))), some (vI x), some (vI y)]) (x' := b2 (ipk σ p g (k + 1))) (y' := ((k + 1 : Nat) : Int)) ?_ (by omega) (ih (by omega))
        first
        | exact (b2_f (fun z => b2_0.mp (by omega) (by9.mp z).1)).symm
        | exact (b2_f (fun z => by have z9 := (by9.mp z).2; omega)).symm
        | exact (b2_t (by9.mpr ⟨b2_1.mp (by omega), by omega⟩)).symm
      · skip
        refine g_iconst (pc := 37) dL_place_37 ?_
        refine g_iload_n (i := 0) (pc := 38) dL_place_38 rfl rfl ?_
        refine g_imul (pc := 39) dL_place_39 ?_
        refine g_iload (pc := 40) dL_place_40 rfl ?_
        refine g_iadd (pc := 42) dL_place_42 ?_
        refine g_aload_n (i := 1) (pc := 43) dL_place_43 rfl rfl ?_
        refine g_sIR (pc := 44) okS_L_frame rfl l_L_46 dL_place_44 (by decide) (by decide) (Nat.le_of_ble_eq_true rfl) (t_L_frame (σ := σ) hu hi (by omega)) rfl ?_
        simp only [Option.toList, List.cons_append, List.nil_append]
        have bb := hi.1 (((4 * gg) + (k : Int))).toNat
        refine G.eqS (congrArg (fun z => vI z) (fo_k (σ := σ) (p := p) (v := 4 * g + (k : Int)) (by omega) h_p (by omega))) ?_
        have bq := fo_rng hi p (4 * g + (k : Int))
        refine g_iload_n (i := 2) (pc := 47) dL_place_47 rfl rfl ?_
        refine g_iload (pc := 48) dL_place_48 rfl ?_
        refine g_iadd (pc := 50) dL_place_50 ?_
        refine g_c_ne (tgt := 58) (pc := 51) dL_place_51 (by omega) (by decide) (fun c51 => ?_) (fun c51 => ?_)
        · skip
          refine g_iconst (pc := 58) dL_place_58 ?_
          refine g_istore_n (i := 3) (pc := 59) dL_place_59 rfl (by decide) rfl ?_
          simp only [List.set_cons_succ, List.set_cons_zero]
          refine g_iinc (pc := 60) dL_place_60 rfl (by decide) rfl ?_
          simp only [List.set_cons_succ, List.set_cons_zero]
          refine g_goto (tgt := 27) (pc := 63) dL_place_63 (by decide) ?_
          refine G.eqL2 (F := fun x y => [some (vI gg), some (vR b), some (vI (fo σ p (4 * g))), some (vI x), some (vI y)]) (x' := b2 (ipk σ p g (k + 1))) (y' := ((k + 1 : Nat) : Int)) ?_ (by omega) (ih (by omega))
          first
          | exact (b2_f (fun z => b2_0.mp (by omega) (by9.mp z).1)).symm
          | exact (b2_f (fun z => by have z9 := (by9.mp z).2; omega)).symm
          | exact (b2_t (by9.mpr ⟨b2_1.mp (by omega), by omega⟩)).symm
        · skip
          refine g_iconst (pc := 54) dL_place_54 ?_
          refine g_goto (tgt := 59) (pc := 55) dL_place_55 (by decide) ?_
          refine g_istore_n (i := 3) (pc := 59) dL_place_59 rfl (by decide) rfl ?_
          simp only [List.set_cons_succ, List.set_cons_zero]
          refine g_iinc (pc := 60) dL_place_60 rfl (by decide) rfl ?_
          simp only [List.set_cons_succ, List.set_cons_zero]
          refine g_goto (tgt := 27) (pc := 63) dL_place_63 (by decide) ?_
          refine G.eqL2 (F := fun x y => [some (vI gg), some (vR b), some (vI (fo σ p (4 * g))), some (vI x), some (vI y)]) (x' := b2 (ipk σ p g (k + 1))) (y' := ((k + 1 : Nat) : Int)) ?_ (by omega) (ih (by omega))
          first
          | exact (b2_f (fun z => b2_0.mp (by omega) (by9.mp z).1)).symm
          | exact (b2_f (fun z => by have z9 := (by9.mp z).2; omega)).symm
          | exact (b2_t (by9.mpr ⟨b2_1.mp (by omega), by omega⟩)).symm
  · skip
    have m9 := Int.tmod_eq_emod_of_nonneg (a := fo σ p (4 * g)) (b := 4) (by omega)
    refine g_iload_n (i := 2) (pc := 12) dL_place_12 rfl rfl ?_
    refine g_iconst (pc := 13) dL_place_13 ?_
    refine g_irem (pc := 14) dL_place_14 (by omega) (by omega) ?_
    refine g_z_ne (tgt := 22) (pc := 15) dL_place_15 (by omega) (by decide) (fun c15 => ?_) (fun c15 => ?_)
    · skip
      refine g_iconst (pc := 22) dL_place_22 ?_
      refine g_istore_n (i := 3) (pc := 23) dL_place_23 rfl (by decide) rfl ?_
      simp only [List.set_cons_succ, List.set_cons_zero]
      refine g_iconst (pc := 24) dL_place_24 ?_
      refine g_istore (pc := 25) dL_place_25 (by decide) rfl ?_
      simp only [List.set_cons_succ, List.set_cons_zero]
      refine G.eqL2 (F := fun x y => [some (vI gg), some (vR b), some (vI (fo σ p (4 * g))), some (vI x), some (vI y)]) (x' := b2 (ipk σ p g 1)) (y' := ((1 : Nat) : Int)) ?_ (by omega) ?_
      · first
        | exact (b2_t (ipk_1.mpr ⟨by omega, by omega⟩)).symm
        | exact (b2_f (fun z => by have z9 := ipk_1.mp z; omega)).symm
      refine lp_up (P := fun k => 1 ≤ k → G M_L_place none al al 27 [some (vI gg), some (vR b), some (vI (fo σ p (4 * g))), some (vI (b2 (ipk σ p g k))), some (vI (k : Int))] [] w 0 0 (dt (some (vI (b2 (ip σ p g)))) (w))) 4 ?_ ?_ 1 (by decide) (by decide)
      · intro h1
        have bx := b2_rng (ipk σ p g 4)
        refine g_iload (pc := 27) dL_place_27 rfl ?_
        refine g_iconst (pc := 29) dL_place_29 ?_
        refine g_c_ge (tgt := 66) (pc := 30) dL_place_30 (by omega) (by decide) (fun c30 => ?_) (fun c30 => absurd c30 (by omega))
        refine g_iload_n (i := 3) (pc := 66) dL_place_66 rfl rfl ?_
        refine g_zret (pc := 67) rfl dL_place_67 (by omega) (fun h => h) ?_
        exact dt_i rfl rfl
      · intro k hk ih h1
        have bx := b2_rng (ipk σ p g k)
        have by9 := @ipk_s σ p g k h1
        refine g_iload (pc := 27) dL_place_27 rfl ?_
        refine g_iconst (pc := 29) dL_place_29 ?_
        refine g_c_ge (tgt := 66) (pc := 30) dL_place_30 (by omega) (by decide) (fun c30 => absurd c30 (by omega)) (fun c30 => ?_)
        refine g_iload_n (i := 3) (pc := 33) dL_place_33 rfl rfl ?_
        refine g_z_eq (tgt := 58) (pc := 34) dL_place_34 (by omega) (by decide) (fun c34 => ?_) (fun c34 => ?_)
        · skip
          refine g_iconst (pc := 58) dL_place_58 ?_
          refine g_istore_n (i := 3) (pc := 59) dL_place_59 rfl (by decide) rfl ?_
          simp only [List.set_cons_succ, List.set_cons_zero]
          refine g_iinc (pc := 60) dL_place_60 rfl (by decide) rfl ?_
          simp only [List.set_cons_succ, List.set_cons_zero]
          refine g_goto (tgt := 27) (pc := 63) dL_place_63 (by decide) ?_
          refine G.eqL2 (F := fun x y => [some (vI gg), some (vR b), some (vI (fo σ p (4 * g))), some (vI x), some (vI y)]) (x' := b2 (ipk σ p g (k + 1))) (y' := ((k + 1 : Nat) : Int)) ?_ (by omega) (ih (by omega))
          first
          | exact (b2_f (fun z => b2_0.mp (by omega) (by9.mp z).1)).symm
          | exact (b2_f (fun z => by have z9 := (by9.mp z).2; omega)).symm
          | exact (b2_t (by9.mpr ⟨b2_1.mp (by omega), by omega⟩)).symm
        · skip
          refine g_iconst (pc := 37) dL_place_37 ?_
          refine g_iload_n (i := 0) (pc := 38) dL_place_38 rfl rfl ?_
          refine g_imul (pc := 39) dL_place_39 ?_
          refine g_iload (pc := 40) dL_place_40 rfl ?_
          refine g_iadd (pc := 42) dL_place_42 ?_
          refine g_aload_n (i := 1) (pc := 43) dL_place_43 rfl rfl ?_
          refine g_sIR (pc := 44) okS_L_frame rfl l_L_46 dL_place_44 (by decide) (by decide) (Nat.le_of_ble_eq_true rfl) (t_L_frame (σ := σ) hu hi (by omega)) rfl ?_
          simp only [Option.toList, List.cons_append, List.nil_append]
          have bb := hi.1 (((4 * gg) + (k : Int))).toNat
          refine G.eqS (congrArg (fun z => vI z) (fo_k (σ := σ) (p := p) (v := 4 * g + (k : Int)) (by omega) h_p (by omega))) ?_
          have bq := fo_rng hi p (4 * g + (k : Int))
          refine g_iload_n (i := 2) (pc := 47) dL_place_47 rfl rfl ?_
          refine g_iload (pc := 48) dL_place_48 rfl ?_
          refine g_iadd (pc := 50) dL_place_50 ?_
          refine g_c_ne (tgt := 58) (pc := 51) dL_place_51 (by omega) (by decide) (fun c51 => ?_) (fun c51 => ?_)
          · skip
            refine g_iconst (pc := 58) dL_place_58 ?_
            refine g_istore_n (i := 3) (pc := 59) dL_place_59 rfl (by decide) rfl ?_
            simp only [List.set_cons_succ, List.set_cons_zero]
            refine g_iinc (pc := 60) dL_place_60 rfl (by decide) rfl ?_
            simp only [List.set_cons_succ, List.set_cons_zero]
            refine g_goto (tgt := 27) (pc := 63) dL_place_63 (by decide) ?_
            refine G.eqL2 (F := fun x y => [some (vI gg), some (vR b), some (vI (fo σ p (4 * g))), some (vI x), some (vI y)]) (x' := b2 (ipk σ p g (k + 1))) (y' := ((k + 1 : Nat) : Int)) ?_ (by omega) (ih (by omega))
            first
            | exact (b2_f (fun z => b2_0.mp (by omega) (by9.mp z).1)).symm
            | exact (b2_f (fun z => by have z9 := (by9.mp z).2; omega)).symm
            | exact (b2_t (by9.mpr ⟨b2_1.mp (by omega), by omega⟩)).symm
          · skip
            refine g_iconst (pc := 54) dL_place_54 ?_
            refine g_goto (tgt := 59) (pc := 55) dL_place_55 (by decide) ?_
            refine g_istore_n (i := 3) (pc := 59) dL_place_59 rfl (by decide) rfl ?_
            simp only [List.set_cons_succ, List.set_cons_zero]
            refine g_iinc (pc := 60) dL_place_60 rfl (by decide) rfl ?_
            simp only [List.set_cons_succ, List.set_cons_zero]
            refine g_goto (tgt := 27) (pc := 63) dL_place_63 (by decide) ?_
            refine G.eqL2 (F := fun x y => [some (vI gg), some (vR b), some (vI (fo σ p (4 * g))), some (vI x), some (vI y)]) (x' := b2 (ipk σ p g (k + 1))) (y' := ((k + 1 : Nat) : Int)) ?_ (by omega) (ih (by omega))
            first
            | exact (b2_f (fun z => b2_0.mp (by omega) (by9.mp z).1)).symm
            | exact (b2_f (fun z => by have z9 := (by9.mp z).2; omega)).symm
            | exact (b2_t (by9.mpr ⟨b2_1.mp (by omega), by omega⟩)).symm
    · skip
      refine g_iconst (pc := 18) dL_place_18 ?_
      refine g_goto (tgt := 23) (pc := 19) dL_place_19 (by decide) ?_
      refine g_istore_n (i := 3) (pc := 23) dL_place_23 rfl (by decide) rfl ?_
      simp only [List.set_cons_succ, List.set_cons_zero]
      refine g_iconst (pc := 24) dL_place_24 ?_
      refine g_istore (pc := 25) dL_place_25 (by decide) rfl ?_
      simp only [List.set_cons_succ, List.set_cons_zero]
      refine G.eqL2 (F := fun x y => [some (vI gg), some (vR b), some (vI (fo σ p (4 * g))), some (vI x), some (vI y)]) (x' := b2 (ipk σ p g 1)) (y' := ((1 : Nat) : Int)) ?_ (by omega) ?_
      · first
        | exact (b2_t (ipk_1.mpr ⟨by omega, by omega⟩)).symm
        | exact (b2_f (fun z => by have z9 := ipk_1.mp z; omega)).symm
      refine lp_up (P := fun k => 1 ≤ k → G M_L_place none al al 27 [some (vI gg), some (vR b), some (vI (fo σ p (4 * g))), some (vI (b2 (ipk σ p g k))), some (vI (k : Int))] [] w 0 0 (dt (some (vI (b2 (ip σ p g)))) (w))) 4 ?_ ?_ 1 (by decide) (by decide)
      · intro h1
        have bx := b2_rng (ipk σ p g 4)
        refine g_iload (pc := 27) dL_place_27 rfl ?_
        refine g_iconst (pc := 29) dL_place_29 ?_
        refine g_c_ge (tgt := 66) (pc := 30) dL_place_30 (by omega) (by decide) (fun c30 => ?_) (fun c30 => absurd c30 (by omega))
        refine g_iload_n (i := 3) (pc := 66) dL_place_66 rfl rfl ?_
        refine g_zret (pc := 67) rfl dL_place_67 (by omega) (fun h => h) ?_
        exact dt_i rfl rfl
      · intro k hk ih h1
        have bx := b2_rng (ipk σ p g k)
        have by9 := @ipk_s σ p g k h1
        refine g_iload (pc := 27) dL_place_27 rfl ?_
        refine g_iconst (pc := 29) dL_place_29 ?_
        refine g_c_ge (tgt := 66) (pc := 30) dL_place_30 (by omega) (by decide) (fun c30 => absurd c30 (by omega)) (fun c30 => ?_)
        refine g_iload_n (i := 3) (pc := 33) dL_place_33 rfl rfl ?_
        refine g_z_eq (tgt := 58) (pc := 34) dL_place_34 (by omega) (by decide) (fun c34 => ?_) (fun c34 => ?_)
        · skip
          refine g_iconst (pc := 58) dL_place_58 ?_
          refine g_istore_n (i := 3) (pc := 59) dL_place_59 rfl (by decide) rfl ?_
          simp only [List.set_cons_succ, List.set_cons_zero]
          refine g_iinc (pc := 60) dL_place_60 rfl (by decide) rfl ?_
          simp only [List.set_cons_succ, List.set_cons_zero]
          refine g_goto (tgt := 27) (pc := 63) dL_place_63 (by decide) ?_
          refine G.eqL2 (F := fun x y => [some (vI gg), some (vR b), some (vI (fo σ p (4 * g))), some (vI x), some (vI y)]) (x' := b2 (ipk σ p g (k + 1))) (y' := ((k + 1 : Nat) : Int)) ?_ (by omega) (ih (by omega))
          first
          | exact (b2_f (fun z => b2_0.mp (by omega) (by9.mp z).1)).symm
          | exact (b2_f (fun z => by have z9 := (by9.mp z).2; omega)).symm
          | exact (b2_t (by9.mpr ⟨b2_1.mp (by omega), by omega⟩)).symm
        · skip
          refine g_iconst (pc := 37) dL_place_37 ?_
          refine g_iload_n (i := 0) (pc := 38) dL_place_38 rfl rfl ?_
          refine g_imul (pc := 39) dL_place_39 ?_
          refine g_iload (pc := 40) dL_place_40 rfl ?_
          refine g_iadd (pc := 42) dL_place_42 ?_
          refine g_aload_n (i := 1) (pc := 43) dL_place_43 rfl rfl ?_
          refine g_sIR (pc := 44) okS_L_frame rfl l_L_46 dL_place_44 (by decide) (by decide) (Nat.le_of_ble_eq_true rfl) (t_L_frame (σ := σ) hu hi (by omega)) rfl ?_
          simp only [Option.toList, List.cons_append, List.nil_append]
          have bb := hi.1 (((4 * gg) + (k : Int))).toNat
          refine G.eqS (congrArg (fun z => vI z) (fo_k (σ := σ) (p := p) (v := 4 * g + (k : Int)) (by omega) h_p (by omega))) ?_
          have bq := fo_rng hi p (4 * g + (k : Int))
          refine g_iload_n (i := 2) (pc := 47) dL_place_47 rfl rfl ?_
          refine g_iload (pc := 48) dL_place_48 rfl ?_
          refine g_iadd (pc := 50) dL_place_50 ?_
          refine g_c_ne (tgt := 58) (pc := 51) dL_place_51 (by omega) (by decide) (fun c51 => ?_) (fun c51 => ?_)
          · skip
            refine g_iconst (pc := 58) dL_place_58 ?_
            refine g_istore_n (i := 3) (pc := 59) dL_place_59 rfl (by decide) rfl ?_
            simp only [List.set_cons_succ, List.set_cons_zero]
            refine g_iinc (pc := 60) dL_place_60 rfl (by decide) rfl ?_
            simp only [List.set_cons_succ, List.set_cons_zero]
            refine g_goto (tgt := 27) (pc := 63) dL_place_63 (by decide) ?_
            refine G.eqL2 (F := fun x y => [some (vI gg), some (vR b), some (vI (fo σ p (4 * g))), some (vI x), some (vI y)]) (x' := b2 (ipk σ p g (k + 1))) (y' := ((k + 1 : Nat) : Int)) ?_ (by omega) (ih (by omega))
            first
            | exact (b2_f (fun z => b2_0.mp (by omega) (by9.mp z).1)).symm
            | exact (b2_f (fun z => by have z9 := (by9.mp z).2; omega)).symm
            | exact (b2_t (by9.mpr ⟨b2_1.mp (by omega), by omega⟩)).symm
          · skip
            refine g_iconst (pc := 54) dL_place_54 ?_
            refine g_goto (tgt := 59) (pc := 55) dL_place_55 (by decide) ?_
            refine g_istore_n (i := 3) (pc := 59) dL_place_59 rfl (by decide) rfl ?_
            simp only [List.set_cons_succ, List.set_cons_zero]
            refine g_iinc (pc := 60) dL_place_60 rfl (by decide) rfl ?_
            simp only [List.set_cons_succ, List.set_cons_zero]
            refine g_goto (tgt := 27) (pc := 63) dL_place_63 (by decide) ?_
            refine G.eqL2 (F := fun x y => [some (vI gg), some (vR b), some (vI (fo σ p (4 * g))), some (vI x), some (vI y)]) (x' := b2 (ipk σ p g (k + 1))) (y' := ((k + 1 : Nat) : Int)) ?_ (by omega) (ih (by omega))
            first
            | exact (b2_f (fun z => b2_0.mp (by omega) (by9.mp z).1)).symm
            | exact (b2_f (fun z => by have z9 := (by9.mp z).2; omega)).symm
            | exact (b2_t (by9.mpr ⟨b2_1.mp (by omega), by omega⟩)).symm
set_option maxRecDepth 20000 in
set_option maxHeartbeats 400000 in
theorem t_L_why {w : List MC} {a b : Nat} {σ : SG} {al : Bool} (hq : w[a]? = some (cArr 0 7 (qf σ))) (hu : w[b]? = some (cArr 3 32 (um (s_fr σ)))) (hi : Inv σ) {gg p g : Int} (hG : gg = 4 * p + g) (h_p : 0 ≤ p ∧ p < 4) (h_g : 0 ≤ g ∧ g < 4) : GM M_L_why al [vI gg, vR a, vR b] (w) 0 0 (dt (some (vI (wn σ p g))) (w)) := by
  show G _ none _ _ 0 [some (vI gg), some (vR a), some (vR b), none, none, none] [] _ _ _ _
  refine g_aload_n (i := 1) (pc := 0) dL_why_0 rfl rfl ?_
  refine g_iconst (pc := 1) dL_why_1 ?_
  refine g_iald (pc := 2) dL_why_2 (hq) (by omega) ?_
  refine G.eqS (v' := vI (bsum (s_bg σ) 16)) rfl ?_
  refine g_iload_n (i := 0) (pc := 3) dL_why_3 rfl rfl ?_
  refine g_ishr (pc := 4) dL_why_4 ?_
  refine g_iconst (pc := 5) dL_why_5 ?_
  refine g_iand (pc := 6) dL_why_6 ?_
  refine G.eqS (congrArg (fun z => vI z) (bit_bg hi hG h_p h_g)) ?_
  have b8 := b2_rng (big σ p g)
  refine g_iconst (pc := 7) dL_why_7 ?_
  refine g_c_ne (tgt := 13) (pc := 8) dL_why_8 (by omega) (by decide) (fun c8 => ?_) (fun c8 => ?_)
  · skip
    refine g_iconst (pc := 13) dL_why_13 ?_
    refine g_istore_n (i := 3) (pc := 14) dL_why_14 rfl (by decide) rfl ?_
    simp only [List.set_cons_succ, List.set_cons_zero]
    refine g_iconst (pc := 15) dL_why_15 ?_
    refine g_iload_n (i := 0) (pc := 16) dL_why_16 rfl rfl ?_
    refine g_imul (pc := 17) dL_why_17 ?_
    refine g_istore (pc := 18) dL_why_18 (by decide) rfl ?_
    simp only [List.set_cons_succ, List.set_cons_zero]
    have n8 : ¬ big σ p g = true := b2_0.mp (by omega)
    refine G.eqL2 (F := fun x y => [some (vI gg), some (vR a), some (vR b), some (vI x), some (vI y), none]) (x' := b2 (decide (0 < ct (fun i : Nat => sh σ (fo σ p (4 * g + i))) 0))) (y' := 4 * gg + ((0 : Nat) : Int)) rfl (by omega) ?_
    refine lp_up (P := fun k => (∀ i : Nat, i < k → fo σ p (4 * g + i) ≠ -1) → G M_L_why none al al 20 [some (vI gg), some (vR a), some (vR b), some (vI (b2 (decide (0 < ct (fun i : Nat => sh σ (fo σ p (4 * g + i))) k)))), some (vI (4 * gg + (k : Int))), none] [] w 0 0 (dt (some (vI (wn σ p g))) (w))) 4 ?_ ?_ 0 (Nat.zero_le _) (fun i h => absurd h (Nat.not_lt_zero i))
    · intro hH
      have bx := b2_rng (decide (0 < ct (fun i : Nat => sh σ (fo σ p (4 * g + i))) 4))
      have n7 := pf_full hH
      refine g_iload (pc := 20) dL_why_20 rfl ?_
      refine g_iconst (pc := 22) dL_why_22 ?_
      refine g_iload_n (i := 0) (pc := 23) dL_why_23 rfl rfl ?_
      refine g_imul (pc := 24) dL_why_24 ?_
      refine g_iconst (pc := 25) dL_why_25 ?_
      refine g_iadd (pc := 26) dL_why_26 ?_
      refine g_c_ge (tgt := 71) (pc := 27) dL_why_27 (by omega) (by decide) (fun c27 => ?_) (fun c27 => absurd c27 (by omega))
      refine g_iload_n (i := 3) (pc := 71) dL_why_71 rfl rfl ?_
      refine g_z_eq (tgt := 79) (pc := 72) dL_why_72 (by omega) (by decide) (fun c72 => ?_) (fun c72 => ?_)
      · skip
        refine g_iload_n (i := 0) (pc := 79) dL_why_79 rfl rfl ?_
        refine g_aload_n (i := 2) (pc := 80) dL_why_80 rfl rfl ?_
        refine g_sIR (pc := 81) okS_L_place rfl l_L_66 dL_why_81 (by decide) (by decide) (Nat.le_of_ble_eq_true rfl) (t_L_place (σ := σ) (p := p) (g := g) hu hi (by omega) h_p h_g) rfl ?_
        simp only [Option.toList, List.cons_append, List.nil_append]
        have bb := b2_rng (ip σ p g)
        refine g_z_ne (tgt := 98) (pc := 84) dL_why_84 (by omega) (by decide) (fun c84 => ?_) (fun c84 => ?_)
        · skip
          refine g_iconst (pc := 98) dL_why_98 ?_
          refine g_iret (pc := 99) rfl dL_why_99 (fun h => h) ?_
          refine dt_i ?_ rfl
          unfold wn
          rw [if_neg n8, if_neg n7]
          first
          | (have z9 : 0 < ct (fun i : Nat => sh σ (fo σ p (4 * g + i))) 4 := of_decide_eq_true (b2_1.mp (by omega))
             rw [if_pos (show 0 < ps σ p g from z9)]; done)
          | (rw [if_neg (show ¬ 0 < ps σ p g from fun z => b2_0.mp (show b2 (decide (0 < ct (fun i : Nat => sh σ (fo σ p (4 * g + i))) 4)) = 0 by omega) (decide_eq_true z))]
             first
             | (rw [if_pos (Or.inl (b2_1.mp (by omega)))]; done)
             | (rw [if_pos (Or.inr (by omega))]; done)
             | (rw [if_neg (fun z => z.elim (b2_0.mp (by omega)) (by omega))]; done))
        · skip
          refine g_aload_n (i := 2) (pc := 87) dL_why_87 rfl rfl ?_
          refine g_sR (pc := 88) okS_L_run rfl l_L_42 dL_why_88 (by decide) (by decide) (Nat.le_of_ble_eq_true rfl) (t_L_run (σ := σ) hu hi) rfl ?_
          simp only [Option.toList, List.cons_append, List.nil_append]
          have bb := lfr_rng σ
          refine g_z_ge (tgt := 98) (pc := 91) dL_why_91 (by omega) (by decide) (fun c91 => ?_) (fun c91 => ?_)
          · skip
            refine g_iconst (pc := 98) dL_why_98 ?_
            refine g_iret (pc := 99) rfl dL_why_99 (fun h => h) ?_
            refine dt_i ?_ rfl
            unfold wn
            rw [if_neg n8, if_neg n7]
            first
            | (have z9 : 0 < ct (fun i : Nat => sh σ (fo σ p (4 * g + i))) 4 := of_decide_eq_true (b2_1.mp (by omega))
               rw [if_pos (show 0 < ps σ p g from z9)]; done)
            | (rw [if_neg (show ¬ 0 < ps σ p g from fun z => b2_0.mp (show b2 (decide (0 < ct (fun i : Nat => sh σ (fo σ p (4 * g + i))) 4)) = 0 by omega) (decide_eq_true z))]
               first
               | (rw [if_pos (Or.inl (b2_1.mp (by omega)))]; done)
               | (rw [if_pos (Or.inr (by omega))]; done)
               | (rw [if_neg (fun z => z.elim (b2_0.mp (by omega)) (by omega))]; done))
          · skip
            refine g_iconst (pc := 94) dL_why_94 ?_
            refine g_goto (tgt := 99) (pc := 95) dL_why_95 (by decide) ?_
            refine g_iret (pc := 99) rfl dL_why_99 (fun h => h) ?_
            refine dt_i ?_ rfl
            unfold wn
            rw [if_neg n8, if_neg n7]
            first
            | (have z9 : 0 < ct (fun i : Nat => sh σ (fo σ p (4 * g + i))) 4 := of_decide_eq_true (b2_1.mp (by omega))
               rw [if_pos (show 0 < ps σ p g from z9)]; done)
            | (rw [if_neg (show ¬ 0 < ps σ p g from fun z => b2_0.mp (show b2 (decide (0 < ct (fun i : Nat => sh σ (fo σ p (4 * g + i))) 4)) = 0 by omega) (decide_eq_true z))]
               first
               | (rw [if_pos (Or.inl (b2_1.mp (by omega)))]; done)
               | (rw [if_pos (Or.inr (by omega))]; done)
               | (rw [if_neg (fun z => z.elim (b2_0.mp (by omega)) (by omega))]; done))
      · skip
        refine g_iconst (pc := 75) dL_why_75 ?_
        refine g_goto (tgt := 99) (pc := 76) dL_why_76 (by decide) ?_
        refine g_iret (pc := 99) rfl dL_why_99 (fun h => h) ?_
        refine dt_i ?_ rfl
        unfold wn
        rw [if_neg n8, if_neg n7]
        first
        | (have z9 : 0 < ct (fun i : Nat => sh σ (fo σ p (4 * g + i))) 4 := of_decide_eq_true (b2_1.mp (by omega))
           rw [if_pos (show 0 < ps σ p g from z9)]; done)
        | (rw [if_neg (show ¬ 0 < ps σ p g from fun z => b2_0.mp (show b2 (decide (0 < ct (fun i : Nat => sh σ (fo σ p (4 * g + i))) 4)) = 0 by omega) (decide_eq_true z))]
           first
           | (rw [if_pos (Or.inl (b2_1.mp (by omega)))]; done)
           | (rw [if_pos (Or.inr (by omega))]; done)
           | (rw [if_neg (fun z => z.elim (b2_0.mp (by omega)) (by omega))]; done))
    · intro k hk ih hH
      have bx := b2_rng (decide (0 < ct (fun i : Nat => sh σ (fo σ p (4 * g + i))) k))
      refine g_iload (pc := 20) dL_why_20 rfl ?_
      refine g_iconst (pc := 22) dL_why_22 ?_
      refine g_iload_n (i := 0) (pc := 23) dL_why_23 rfl rfl ?_
      refine g_imul (pc := 24) dL_why_24 ?_
      refine g_iconst (pc := 25) dL_why_25 ?_
      refine g_iadd (pc := 26) dL_why_26 ?_
      refine g_c_ge (tgt := 71) (pc := 27) dL_why_27 (by omega) (by decide) (fun c27 => absurd c27 (by omega)) (fun c27 => ?_)
      refine g_iload (pc := 30) dL_why_30 rfl ?_
      refine g_aload_n (i := 2) (pc := 32) dL_why_32 rfl rfl ?_
      refine g_sIR (pc := 33) okS_L_frame rfl l_L_46 dL_why_33 (by decide) (by decide) (Nat.le_of_ble_eq_true rfl) (t_L_frame (σ := σ) hu hi (by omega)) rfl ?_
      simp only [Option.toList, List.cons_append, List.nil_append]
      have bb := hi.1 ((4 * gg + (k : Int))).toNat
      refine G.eqS (congrArg (fun z => vI z) (fo_k (σ := σ) (p := p) (v := 4 * g + (k : Int)) (by omega) h_p (by omega))) ?_
      have bf := fo_rng hi p (4 * g + (k : Int))
      refine g_istore (pc := 36) dL_why_36 (by decide) rfl ?_
      simp only [List.set_cons_succ, List.set_cons_zero]
      refine g_iload (pc := 38) dL_why_38 rfl ?_
      refine g_z_ge (tgt := 45) (pc := 40) dL_why_40 (by omega) (by decide) (fun c40 => ?_) (fun c40 => ?_)
      · skip
        refine g_iload_n (i := 3) (pc := 45) dL_why_45 rfl rfl ?_
        refine g_z_ne (tgt := 59) (pc := 46) dL_why_46 (by omega) (by decide) (fun c46 => ?_) (fun c46 => ?_)
        · skip
          refine g_iconst (pc := 59) dL_why_59 ?_
          refine g_goto (tgt := 64) (pc := 60) dL_why_60 (by decide) ?_
          refine g_istore_n (i := 3) (pc := 64) dL_why_64 rfl (by decide) rfl ?_
          simp only [List.set_cons_succ, List.set_cons_zero]
          refine g_iinc (pc := 65) dL_why_65 rfl (by decide) rfl ?_
          simp only [List.set_cons_succ, List.set_cons_zero]
          refine g_goto (tgt := 20) (pc := 68) dL_why_68 (by decide) ?_
          refine G.drop 5 ?_
          simp only [List.set_cons_succ, List.set_cons_zero]
          refine G.eqL2 (F := fun x y => [some (vI gg), some (vR a), some (vR b), some (vI x), some (vI y), none]) (x' := b2 (decide (0 < ct (fun i : Nat => sh σ (fo σ p (4 * g + i))) (k + 1)))) (y' := 4 * gg + ((k + 1 : Nat) : Int)) ?_ (by omega) (ih (fun i h => ?_))
          · have n9 := ct_rng (fun i : Nat => sh σ (fo σ p (4 * g + i))) k
            have s9 := sh_one (σ := σ) (p := p) (v := 4 * g + (k : Int)) h_p (by omega) (by omega)
            refine (b2_t (decide_eq_true ?_)).symm
            rw [ct]
            have q9 : 0 < ct (fun i : Nat => sh σ (fo σ p (4 * g + i))) k := of_decide_eq_true (b2_1.mp (by omega))
            split <;> omega
          · rcases Nat.lt_or_ge i k with q | q
            · exact hH i q
            · rw [show i = k by omega]; omega
        · skip
          refine g_aload_n (i := 2) (pc := 49) dL_why_49 rfl rfl ?_
          refine g_iload (pc := 50) dL_why_50 rfl ?_
          refine g_lald (pc := 52) dL_why_52 (hu) (by omega) ?_
          refine g_sJ (pc := 53) okS_L_one rfl l_L_50 dL_why_53 (by decide) (by decide) (Nat.le_of_ble_eq_true rfl) (t_L_onex (fr := s_fr σ) (x := fo σ p (4 * g + (k : Int))) (by omega)) rfl ?_
          simp only [Option.toList, List.cons_append, List.nil_append]
          have bb := b2_rng (decide (uses (s_fr σ) (fo σ p (4 * g + (k : Int))) = 1))
          refine g_z_ne (tgt := 63) (pc := 56) dL_why_56 (by omega) (by decide) (fun c56 => ?_) (fun c56 => ?_)
          · skip
            refine g_iconst (pc := 63) dL_why_63 ?_
            refine g_istore_n (i := 3) (pc := 64) dL_why_64 rfl (by decide) rfl ?_
            simp only [List.set_cons_succ, List.set_cons_zero]
            refine g_iinc (pc := 65) dL_why_65 rfl (by decide) rfl ?_
            simp only [List.set_cons_succ, List.set_cons_zero]
            refine g_goto (tgt := 20) (pc := 68) dL_why_68 (by decide) ?_
            refine G.drop 5 ?_
            simp only [List.set_cons_succ, List.set_cons_zero]
            refine G.eqL2 (F := fun x y => [some (vI gg), some (vR a), some (vR b), some (vI x), some (vI y), none]) (x' := b2 (decide (0 < ct (fun i : Nat => sh σ (fo σ p (4 * g + i))) (k + 1)))) (y' := 4 * gg + ((k + 1 : Nat) : Int)) ?_ (by omega) (ih (fun i h => ?_))
            · have n9 := ct_rng (fun i : Nat => sh σ (fo σ p (4 * g + i))) k
              have s9 := sh_one (σ := σ) (p := p) (v := 4 * g + (k : Int)) h_p (by omega) (by omega)
              refine (b2_f ?_).symm
              rw [decide_eq_true_eq, ct_no (p := fun i : Nat => sh σ (fo σ p (4 * g + i))) (fun z => s9.mp z (of_decide_eq_true (b2_1.mp (by omega))))]
              exact fun z => b2_0.mp (by omega) (decide_eq_true z)
            · rcases Nat.lt_or_ge i k with q | q
              · exact hH i q
              · rw [show i = k by omega]; omega
          · skip
            refine g_iconst (pc := 59) dL_why_59 ?_
            refine g_goto (tgt := 64) (pc := 60) dL_why_60 (by decide) ?_
            refine g_istore_n (i := 3) (pc := 64) dL_why_64 rfl (by decide) rfl ?_
            simp only [List.set_cons_succ, List.set_cons_zero]
            refine g_iinc (pc := 65) dL_why_65 rfl (by decide) rfl ?_
            simp only [List.set_cons_succ, List.set_cons_zero]
            refine g_goto (tgt := 20) (pc := 68) dL_why_68 (by decide) ?_
            refine G.drop 5 ?_
            simp only [List.set_cons_succ, List.set_cons_zero]
            refine G.eqL2 (F := fun x y => [some (vI gg), some (vR a), some (vR b), some (vI x), some (vI y), none]) (x' := b2 (decide (0 < ct (fun i : Nat => sh σ (fo σ p (4 * g + i))) (k + 1)))) (y' := 4 * gg + ((k + 1 : Nat) : Int)) ?_ (by omega) (ih (fun i h => ?_))
            · have n9 := ct_rng (fun i : Nat => sh σ (fo σ p (4 * g + i))) k
              have s9 := sh_one (σ := σ) (p := p) (v := 4 * g + (k : Int)) h_p (by omega) (by omega)
              refine (b2_t (decide_eq_true ?_)).symm
              rw [ct_yes (p := fun i : Nat => sh σ (fo σ p (4 * g + i))) (s9.mpr (of_decide_eq_false (Bool.not_eq_true _ ▸ b2_0.mp (by omega))))]
              omega
            · rcases Nat.lt_or_ge i k with q | q
              · exact hH i q
              · rw [show i = k by omega]; omega
      · skip
        refine g_iconst (pc := 43) dL_why_43 ?_
        refine g_iret (pc := 44) rfl dL_why_44 (fun h => h) ?_
        refine dt_i ?_ rfl
        unfold wn
        rw [if_neg n8, if_pos (pf_lack (j := k) hk (by omega))]
  · skip
    refine g_iconst (pc := 11) dL_why_11 ?_
    refine g_iret (pc := 12) rfl dL_why_12 (fun h => h) ?_
    refine dt_i ?_ rfl
    unfold wn
    rw [if_pos (b2_1.mp (by omega))]
end LQ8
