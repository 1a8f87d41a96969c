/-! THE REFERENCE'S TEXT (printed by wip/whole/txt.py, but for the first rows) -/
section MT9
theorem lp_st {P : Nat → Prop} (n : Nat) (hs : ∀ b, b ≤ n → (∀ c, b < c → c ≤ n → P c) → P b) : ∀ b, b ≤ n → P b := by
  intro b
  generalize hd : n - b = d
  induction d using Nat.strongRecOn generalizing b with
  | ind d ih => intro h; exact hs b h (fun c h1 h2 => ih (n - c) (by omega) c rfl h2)
def mo (f : Nat → Int) (n b k : Int) : Int := if sn f n b = 119 then (if k = 1 then 3 else if k = 2 then 1 else if k = 3 then (if dg f n (b + 2) = 1 then 5 else 9) else if k < 6 then 9 else -1) else if sn f n b = 102 ∨ sn f n b = 120 then (if k = 1 then 3 else -1) else if sn f n b = 109 ∧ k < 3 then 3 else -1
theorem mo_rng (f : Nat → Int) (n b k : Int) : -1 ≤ mo f n b k ∧ mo f n b k ≤ 9 := by
  unfold mo
  (repeat' split) <;> omega
theorem mo_nn {f : Nat → Int} {n b k : Int} (hk : 1 ≤ k) (hd : db (sn f n b) ≠ -1) : 0 ≤ mo f n b k ↔ k ≤ db (sn f n b) := by
  unfold db at hd ⊢
  unfold mo
  (repeat' split at hd) <;> (repeat' split) <;> omega
theorem dg_1 {f : Nat → Int} {n i : Int} : dg f n i = 1 ↔ sn f n i = 49 := by
  unfold dg
  split <;> omega
theorem mo_hg {f : Nat → Int} {n b k : Int} (hk : 1 ≤ k) (hd : k ≤ db (sn f n b)) : mo f n b k = hg f n b (b + k) := by
  have h1 := dg_1 (f := f) (n := n) (i := b + 2)
  unfold db at hd
  unfold mo hg
  by_cases q : sn f n b = 119
  · rw [if_pos q] at hd
    rw [if_pos q]
    rcases (by omega : k = 1 ∨ k = 2 ∨ k = 3 ∨ k = 4 ∨ k = 5) with r | r | r | r | r <;> subst r
    · rw [if_pos rfl, if_pos (by omega)]
    · rw [if_neg (by decide), if_pos rfl, if_neg (by omega), if_pos (by omega)]
    · rw [if_neg (by decide), if_neg (by decide), if_pos rfl, show b + 3 - 1 = b + 2 by omega]
      by_cases z : dg f n (b + 2) = 1
      · rw [if_pos z, if_neg (by omega), if_neg (by omega), if_pos (by omega)]
      · rw [if_neg z, if_neg (by omega), if_neg (by omega), if_neg (by omega)]
    · rw [if_neg (by decide), if_neg (by decide), if_neg (by decide), if_pos (by decide), if_neg (by omega), if_neg (by omega), if_neg (by omega)]
    · rw [if_neg (by decide), if_neg (by decide), if_neg (by decide), if_pos (by decide), if_neg (by omega), if_neg (by omega), if_neg (by omega)]
  · rw [if_neg q] at hd
    rw [if_neg q, if_pos (Or.inl q)]
    (repeat' split at hd) <;> (repeat' split) <;> omega
theorem dg_lt {f : Nat → Int} {n i : Int} (h : dg f n i ≠ -1) : 0 ≤ i ∧ i < n := by
  rcases (by omega : (0 ≤ i ∧ i < n) ∨ ¬ (0 ≤ i ∧ i < n)) with q | q
  · exact q
  · exfalso
    apply h
    have e : sn f n i = 0 := by unfold sn; rw [if_neg q]
    unfold dg
    rw [if_neg (by omega)]
theorem dg_db {f : Nat → Int} {n i : Int} (h : dg f n i ≠ -1) : db (sn f n i) = -1 := by
  unfold dg at h
  unfold db
  split at h
  · rw [if_neg (by omega), if_neg (by omega), if_neg (by omega), if_neg (by omega)]
  · exact absurd rfl h
/-- where a command begins -/
def SPc (f : Nat → Int) (n : Int) (b : Nat) : Prop := 1 ≤ b ∧ (sc f n (b - 1)).1 = -1 ∧ (sc f n (b - 1)).2.2 = 0
theorem sp_1 (f : Nat → Int) (n : Int) : SPc f n 1 := ⟨Nat.le_refl 1, rfl, rfl⟩
theorem sp_let {f : Nat → Int} {n : Int} {b : Nat} (h : SPc f n b) (hd : db (sn f n b) ≠ -1) : sc f n b = (-1, (b : Int), db (sn f n b)) := by
  obtain ⟨h1, h2, h3⟩ := h
  cases b with
  | zero => omega
  | succ k =>
    rw [Nat.add_sub_cancel] at h2 h3
    have e : ((k + 1 : Nat) : Int) = (k : Int) + 1 := rfl
    rw [e] at hd ⊢
    rw [sc, if_neg (by omega), if_neg (by omega), if_neg hd]
theorem sp_no {f : Nat → Int} {n : Int} {b : Nat} (h : SPc f n b) (hd : db (sn f n b) = -1) : sc f n b = ((b : Int), 0, 0) := by
  obtain ⟨h1, h2, h3⟩ := h
  cases b with
  | zero => omega
  | succ k =>
    rw [Nat.add_sub_cancel] at h2 h3
    have e : ((k + 1 : Nat) : Int) = (k : Int) + 1 := rfl
    rw [e] at hd ⊢
    rw [sc, if_neg (by omega), if_neg (by omega), if_pos hd]
theorem sd_yes {f : Nat → Int} {n d : Int} {b j : Nat} (h : sc f n (b + j) = (-1, (b : Int), d)) (hd : 0 < d) (ha : ald f n b ((b : Int) + ((j : Int) + 1)) = true) : sc f n (b + (j + 1)) = (-1, (b : Int), d - 1) := by
  show sc f n ((b + j) + 1) = _
  rw [sc, h]
  have e : ((b + j : Nat) : Int) + 1 = (b : Int) + ((j : Int) + 1) := by omega
  dsimp only
  rw [e, if_neg (by decide), if_pos hd, if_pos ha]
theorem sd_no {f : Nat → Int} {n d : Int} {b j : Nat} (h : sc f n (b + j) = (-1, (b : Int), d)) (hd : 0 < d) (ha : ¬ ald f n b ((b : Int) + ((j : Int) + 1)) = true) : sc f n (b + (j + 1)) = ((b : Int) + ((j : Int) + 1), 0, 0) := by
  show sc f n ((b + j) + 1) = _
  rw [sc, h]
  have e : ((b + j : Nat) : Int) + 1 = (b : Int) + ((j : Int) + 1) := by omega
  dsimp only
  rw [e, if_neg (by decide), if_pos hd, if_neg ha]
theorem fe_end {f : Nat → Int} {n : Int} {k : Nat} (hM : sn f n 0 = 77) (hk : (k : Int) + 1 = n) (h : (sc f n k).1 = -1) : fe f n = if 0 < (sc f n k).2.2 then n else -1 := by
  unfold fe
  rw [if_neg (by omega), show (n - 1).toNat = k by omega, if_neg (by omega)]
theorem fe_bad {f : Nat → Int} {n d : Int} {b j : Nat} (hM : sn f n 0 = 77) (hb : ((b + j : Nat) : Int) < n) (h : sc f n (b + j) = (-1, (b : Int), d)) (hd : 0 < d) (ha : ¬ ald f n b ((b : Int) + ((j : Int) + 1)) = true) : fe f n = (b : Int) + ((j : Int) + 1) := by
  rcases (by omega : ((b + (j + 1) : Nat) : Int) < n ∨ ((b + j : Nat) : Int) + 1 = n) with q | q
  · have e := sd_no h hd ha
    have e1 := fe_err hM q (by rw [e]; dsimp only; omega)
    rw [e1, e]
  · have e1 := fe_end hM q (by rw [h])
    rw [e1, h, if_pos hd]
    omega
theorem fe_no {f : Nat → Int} {n : Int} {b : Nat} (hM : sn f n 0 = 77) (h : SPc f n b) (hb : (b : Int) < n) (hd : db (sn f n b) = -1) : fe f n = b := by
  have e := sp_no h hd
  have e1 := fe_err hM hb (by rw [e]; dsimp only; omega)
  rw [e1, e]
theorem fe_fin {f : Nat → Int} {n : Int} {b : Nat} (hM : sn f n 0 = 77) (h : SPc f n b) (hb : (b : Int) = n) : fe f n = -1 := by
  obtain ⟨h1, h2, h3⟩ := h
  have e1 := fe_end (k := b - 1) hM (by omega) h2
  rw [e1, if_neg (by omega)]
theorem sp_nx {f : Nat → Int} {n : Int} {b j : Nat} (h : sc f n (b + j) = (-1, (b : Int), 0)) : SPc f n (b + (j + 1)) := by
  refine ⟨by omega, ?_, ?_⟩
  · rw [show b + (j + 1) - 1 = b + j by omega, h]
  · rw [show b + (j + 1) - 1 = b + j by omega, h]
theorem ald_mo {f : Nat → Int} {n : Int} {b : Nat} {k : Int} (hk : 1 ≤ k) (hd : k ≤ db (sn f n b)) : ald f n b (b + k) = true ↔ 0 ≤ dg f n (b + k) ∧ dg f n (b + k) ≤ mo f n b k := by
  have h1 := dg_rng f n (b + k)
  unfold ald
  rw [decide_eq_true_eq, mo_hg hk hd]
  omega
/-- a story, command by command -/
theorem st_sc {f : Nat → Int} {n : Int} (hf : fe f n = -1) : sn f n 0 = 77 ∧ ∀ k : Nat, (k : Int) < n → (sc f n k).1 = -1 := by
  have hM : sn f n 0 = 77 := by
    rcases (by omega : sn f n 0 = 77 ∨ ¬ sn f n 0 = 77) with q | q
    · exact q
    · unfold fe at hf
      rw [if_pos q] at hf
      omega
  refine ⟨hM, fun k hk => ?_⟩
  rcases (by omega : (sc f n k).1 = -1 ∨ ¬ (sc f n k).1 = -1) with q | q
  · exact q
  · rw [fe_err hM hk q] at hf
    exact absurd hf q
theorem st_let {f : Nat → Int} {n : Int} (hf : fe f n = -1) {b : Nat} (h : SPc f n b) (hb : (b : Int) < n) : db (sn f n b) ≠ -1 := by
  intro q
  have := fe_no (st_sc hf).1 h hb q
  omega
theorem st_dig {f : Nat → Int} {n : Int} (hf : fe f n = -1) {b : Nat} (h : SPc f n b) (hb : (b : Int) < n) : ∀ j : Nat, (j : Int) ≤ db (sn f n b) → sc f n (b + j) = (-1, (b : Int), db (sn f n b) - j) ∧ ((b + j : Nat) : Int) < n ∧ ∀ i : Nat, 1 ≤ i → i ≤ j → dg f n ((b : Int) + i) ≠ -1
  | 0, _ => by
    refine ⟨?_, by omega, fun i h1 h2 => absurd h1 (by omega)⟩
    rw [Nat.add_zero, sp_let h (st_let hf h hb)]
    simp
  | j + 1, hj => by
    obtain ⟨h1, h2, h3⟩ := st_dig hf h hb j (by omega)
    by_cases ha : ald f n b ((b : Int) + ((j : Int) + 1)) = true
    · have hd := (of_decide_eq_true ha).1
      have hl := dg_lt hd
      refine ⟨?_, by omega, fun i q1 q2 => ?_⟩
      · rw [sd_yes h1 (by omega) ha]
        congr 2
        omega
      · rcases Nat.lt_or_ge i (j + 1) with z | z
        · exact h3 i q1 (by omega)
        · rw [show i = j + 1 by omega]
          exact hd
    · have := fe_bad (st_sc hf).1 h2 h1 (by omega) ha
      omega
theorem ld_dig {f : Nat → Int} {n : Int} {b : Nat} : ∀ j : Nat, (∀ i : Nat, 1 ≤ i → i ≤ j → dg f n ((b : Int) + i) ≠ -1) → ldS f n (b + j) = ldS f n b
  | 0, _ => rfl
  | j + 1, h => by
    have h1 := ld_dig j (fun i q1 q2 => h i q1 (by omega))
    have h2 := dg_db (h (j + 1) (by omega) (by omega))
    show ldS f n ((b + j) + 1) = _
    have e : ((b + j : Nat) : Int) + 1 = (b : Int) + ((j + 1 : Nat) : Int) := by omega
    rw [ldS, e, if_neg (fun q => q h2), h1]
theorem ld_cmd {f : Nat → Int} {n : Int} (hf : fe f n = -1) {b : Nat} (h : SPc f n b) (hb : (b : Int) < n) : ldS f n (b + (db (sn f n b)).toNat) = (tS (ldS f n (b - 1)).1 f n b, (ldS f n (b - 1)).2 + (if tV (ldS f n (b - 1)).1 f n b = true then 0 else 1)) := by
  have hd := st_let hf h hb
  have hr := db_rng (sn f n b)
  rw [ld_dig _ (st_dig hf h hb (db (sn f n b)).toNat (by omega)).2.2]
  have h1 := h.1
  cases b with
  | zero => omega
  | succ k =>
    rw [Nat.add_sub_cancel]
    have e : ((k + 1 : Nat) : Int) = (k : Int) + 1 := rfl
    rw [e] at hd ⊢
    rw [ldS, if_pos hd]
def xn_ld (ν : NT) : Int := if fe (n_tx ν) (n_tl ν) = -1 then 0 else 1
set_option maxRecDepth 20000 in
set_option maxHeartbeats 300000 in
theorem t_X4_digit {κ : KT} {ν : NT} {o : Nat → Int} {al : Bool} (ht : 0 ≤ n_tl ν ∧ n_tl ν ≤ 100) (hx : ∀ k, 0 ≤ n_tx ν k ∧ n_tx ν k < 256) {i : Int} (h_i : 0 ≤ i ∧ i < 200) : GM M_X4_digit al [vR 79, vI i] (cW κ (dE ν) o) 0 0 (dt (some (vI (dg (n_tx ν) (n_tl ν) i))) (cW κ (dE (ν)) o)) := by
  show G _ none _ _ 0 [some (vR 79), some (vI i)] [] _ _ _ _
  refine g_iload_n (i := 1) (pc := 0) dX4_digit_0 rfl rfl ?_
  refine g_aload_n (i := 0) (pc := 1) dX4_digit_1 rfl rfl ?_
  refine g_getf (pc := 2) f_X4_124 dX4_digit_2 (c_79) rfl ?_
  refine G.eqS (v' := vI ((n_tl ν))) rfl ?_
  refine g_c_ge (tgt := 36) (pc := 5) dX4_digit_5 (by omega) (by decide) (fun c5 => ?_) (fun c5 => ?_)
  · skip
    refine g_iconst (pc := 36) dX4_digit_36 ?_
    refine g_iret (pc := 37) rfl dX4_digit_37 (fun h => h) ?_
    have e9 : sn (n_tx ν) (n_tl ν) i = 0 := by unfold sn; rw [if_neg (by omega)]
    exact dt_i (by unfold dg; rw [if_neg (by omega)]) rfl
  · skip
    refine g_aload_n (i := 0) (pc := 8) dX4_digit_8 rfl rfl ?_
    refine g_getf (pc := 9) f_X4_28 dX4_digit_9 (c_79) rfl ?_
    refine g_iload_n (i := 1) (pc := 12) dX4_digit_12 rfl rfl ?_
    refine g_iald (pc := 13) dX4_digit_13 (c_86) (by omega) ?_
    refine G.eqS (congrArg (fun z => vI z) (show _ = sn (n_tx ν) (n_tl ν) i from (if_pos (show 0 ≤ i ∧ i < n_tl ν by omega)).symm)) ?_
    have y9 := sn_rng hx (n_tl ν) i
    refine g_bipush (pc := 14) dX4_digit_14 (by decide) ?_
    refine g_bipush (pc := 16) dX4_digit_16 (by decide) ?_
    refine g_s3 (pc := 18) okS_X4_within rfl l_X4_38 dX4_digit_18 (by decide) (by decide) (Nat.le_of_ble_eq_true rfl) (t_X4_within (by omega) (by omega) (by omega)) rfl ?_
    simp only [Option.toList, List.cons_append, List.nil_append]
    have bb := b2_rng (decide (48 ≤ (sn (n_tx ν) (n_tl ν) i) ∧ (sn (n_tx ν) (n_tl ν) i) ≤ 57))
    have b1 := b2_dec (p := 48 ≤ (sn (n_tx ν) (n_tl ν) i) ∧ (sn (n_tx ν) (n_tl ν) i) ≤ 57)
    refine g_z_eq (tgt := 36) (pc := 21) dX4_digit_21 (by omega) (by decide) (fun c21 => ?_) (fun c21 => ?_)
    · skip
      refine g_iconst (pc := 36) dX4_digit_36 ?_
      refine g_iret (pc := 37) rfl dX4_digit_37 (fun h => h) ?_
      exact dt_i (by unfold dg; rw [if_neg (by omega)]) rfl
    · skip
      refine g_aload_n (i := 0) (pc := 24) dX4_digit_24 rfl rfl ?_
      refine g_getf (pc := 25) f_X4_28 dX4_digit_25 (c_79) rfl ?_
      refine g_iload_n (i := 1) (pc := 28) dX4_digit_28 rfl rfl ?_
      refine g_iald (pc := 29) dX4_digit_29 (c_86) (by omega) ?_
      refine G.eqS (congrArg (fun z => vI z) (show _ = sn (n_tx ν) (n_tl ν) i from (if_pos (show 0 ≤ i ∧ i < n_tl ν by omega)).symm)) ?_
      refine g_bipush (pc := 30) dX4_digit_30 (by decide) ?_
      refine g_isub (pc := 32) dX4_digit_32 ?_
      refine g_goto (tgt := 37) (pc := 33) dX4_digit_33 (by decide) ?_
      refine g_iret (pc := 37) rfl dX4_digit_37 (fun h => h) ?_
      exact dt_i (by unfold dg; rw [if_pos (by omega)]) rfl
set_option maxRecDepth 20000 in
set_option maxHeartbeats 300000 in
theorem t_X4_mostAt {κ : KT} {ν : NT} {o : Nat → Int} {al : Bool} (ht : 0 ≤ n_tl ν ∧ n_tl ν ≤ 100) (hx : ∀ k, 0 ≤ n_tx ν k ∧ n_tx ν k < 256) {b k : Int} (h_b : 0 ≤ b ∧ b < n_tl ν) (h_k : 1 ≤ k ∧ k < 100) : GM M_X4_mostAt al [vR 79, vI b, vI k] (cW κ (dE ν) o) 0 0 (dt (some (vI (mo (n_tx ν) (n_tl ν) b k))) (cW κ (dE (ν)) o)) := by
  show G _ none _ _ 0 [some (vR 79), some (vI b), some (vI k), none] [] _ _ _ _
  refine g_aload_n (i := 0) (pc := 0) dX4_mostAt_0 rfl rfl ?_
  refine g_getf (pc := 1) f_X4_28 dX4_mostAt_1 (c_79) rfl ?_
  refine g_iload_n (i := 1) (pc := 4) dX4_mostAt_4 rfl rfl ?_
  refine g_iald (pc := 5) dX4_mostAt_5 (c_86) (by omega) ?_
  refine G.eqS (congrArg (fun z => vI z) (show _ = sn (n_tx ν) (n_tl ν) b from (if_pos (show 0 ≤ b ∧ b < n_tl ν by omega)).symm)) ?_
  have y9 := sn_rng hx (n_tl ν) b
  refine g_istore_n (i := 3) (pc := 6) dX4_mostAt_6 rfl (by decide) rfl ?_
  simp only [List.set_cons_succ, List.set_cons_zero]
  refine g_iload_n (i := 3) (pc := 7) dX4_mostAt_7 rfl rfl ?_
  refine g_bipush (pc := 8) dX4_mostAt_8 (by decide) ?_
  refine g_c_ne (tgt := 69) (pc := 10) dX4_mostAt_10 (by omega) (by decide) (fun c10 => ?_) (fun c10 => ?_)
  · skip
    refine g_iload_n (i := 3) (pc := 69) dX4_mostAt_69 rfl rfl ?_
    refine g_bipush (pc := 70) dX4_mostAt_70 (by decide) ?_
    refine g_c_eq (tgt := 81) (pc := 72) dX4_mostAt_72 (by omega) (by decide) (fun c72 => ?_) (fun c72 => ?_)
    · skip
      refine g_iload_n (i := 2) (pc := 81) dX4_mostAt_81 rfl rfl ?_
      refine g_iconst (pc := 82) dX4_mostAt_82 ?_
      refine g_c_ne (tgt := 90) (pc := 83) dX4_mostAt_83 (by omega) (by decide) (fun c83 => ?_) (fun c83 => ?_)
      · skip
        refine g_iconst (pc := 90) dX4_mostAt_90 ?_
        refine g_iret (pc := 91) rfl dX4_mostAt_91 (fun h => h) ?_
        exact dt_i (by unfold mo; (repeat' split) <;> omega) rfl
      · skip
        refine g_iconst (pc := 86) dX4_mostAt_86 ?_
        refine g_goto (tgt := 91) (pc := 87) dX4_mostAt_87 (by decide) ?_
        refine g_iret (pc := 91) rfl dX4_mostAt_91 (fun h => h) ?_
        exact dt_i (by unfold mo; (repeat' split) <;> omega) rfl
    · skip
      refine g_iload_n (i := 3) (pc := 75) dX4_mostAt_75 rfl rfl ?_
      refine g_bipush (pc := 76) dX4_mostAt_76 (by decide) ?_
      refine g_c_ne (tgt := 92) (pc := 78) dX4_mostAt_78 (by omega) (by decide) (fun c78 => ?_) (fun c78 => ?_)
      · skip
        refine g_iload_n (i := 3) (pc := 92) dX4_mostAt_92 rfl rfl ?_
        refine g_bipush (pc := 93) dX4_mostAt_93 (by decide) ?_
        refine g_c_ne (tgt := 107) (pc := 95) dX4_mostAt_95 (by omega) (by decide) (fun c95 => ?_) (fun c95 => ?_)
        · skip
          refine g_iconst (pc := 107) dX4_mostAt_107 ?_
          refine g_iret (pc := 108) rfl dX4_mostAt_108 (fun h => h) ?_
          exact dt_i (by unfold mo; (repeat' split) <;> omega) rfl
        · skip
          refine g_iload_n (i := 2) (pc := 98) dX4_mostAt_98 rfl rfl ?_
          refine g_iconst (pc := 99) dX4_mostAt_99 ?_
          refine g_c_ge (tgt := 107) (pc := 100) dX4_mostAt_100 (by omega) (by decide) (fun c100 => ?_) (fun c100 => ?_)
          · skip
            refine g_iconst (pc := 107) dX4_mostAt_107 ?_
            refine g_iret (pc := 108) rfl dX4_mostAt_108 (fun h => h) ?_
            exact dt_i (by unfold mo; (repeat' split) <;> omega) rfl
          · skip
            refine g_iconst (pc := 103) dX4_mostAt_103 ?_
            refine g_goto (tgt := 108) (pc := 104) dX4_mostAt_104 (by decide) ?_
            refine g_iret (pc := 108) rfl dX4_mostAt_108 (fun h => h) ?_
            exact dt_i (by unfold mo; (repeat' split) <;> omega) rfl
      · skip
        refine g_iload_n (i := 2) (pc := 81) dX4_mostAt_81 rfl rfl ?_
        refine g_iconst (pc := 82) dX4_mostAt_82 ?_
        refine g_c_ne (tgt := 90) (pc := 83) dX4_mostAt_83 (by omega) (by decide) (fun c83 => ?_) (fun c83 => ?_)
        · skip
          refine g_iconst (pc := 90) dX4_mostAt_90 ?_
          refine g_iret (pc := 91) rfl dX4_mostAt_91 (fun h => h) ?_
          exact dt_i (by unfold mo; (repeat' split) <;> omega) rfl
        · skip
          refine g_iconst (pc := 86) dX4_mostAt_86 ?_
          refine g_goto (tgt := 91) (pc := 87) dX4_mostAt_87 (by decide) ?_
          refine g_iret (pc := 91) rfl dX4_mostAt_91 (fun h => h) ?_
          exact dt_i (by unfold mo; (repeat' split) <;> omega) rfl
  · skip
    refine g_iload_n (i := 2) (pc := 13) dX4_mostAt_13 rfl rfl ?_
    refine g_iconst (pc := 14) dX4_mostAt_14 ?_
    refine g_c_ne (tgt := 22) (pc := 15) dX4_mostAt_15 (by omega) (by decide) (fun c15 => ?_) (fun c15 => ?_)
    · skip
      refine g_iload_n (i := 2) (pc := 22) dX4_mostAt_22 rfl rfl ?_
      refine g_iconst (pc := 23) dX4_mostAt_23 ?_
      refine g_c_ne (tgt := 31) (pc := 24) dX4_mostAt_24 (by omega) (by decide) (fun c24 => ?_) (fun c24 => ?_)
      · skip
        refine g_iload_n (i := 2) (pc := 31) dX4_mostAt_31 rfl rfl ?_
        refine g_iconst (pc := 32) dX4_mostAt_32 ?_
        refine g_c_ne (tgt := 56) (pc := 33) dX4_mostAt_33 (by omega) (by decide) (fun c33 => ?_) (fun c33 => ?_)
        · skip
          refine g_iload_n (i := 2) (pc := 56) dX4_mostAt_56 rfl rfl ?_
          refine g_bipush (pc := 57) dX4_mostAt_57 (by decide) ?_
          refine g_c_ge (tgt := 67) (pc := 59) dX4_mostAt_59 (by omega) (by decide) (fun c59 => ?_) (fun c59 => ?_)
          · skip
            refine g_iconst (pc := 67) dX4_mostAt_67 ?_
            refine g_iret (pc := 68) rfl dX4_mostAt_68 (fun h => h) ?_
            exact dt_i (by unfold mo; (repeat' split) <;> omega) rfl
          · skip
            refine g_bipush (pc := 62) dX4_mostAt_62 (by decide) ?_
            refine g_goto (tgt := 68) (pc := 64) dX4_mostAt_64 (by decide) ?_
            refine g_iret (pc := 68) rfl dX4_mostAt_68 (fun h => h) ?_
            exact dt_i (by unfold mo; (repeat' split) <;> omega) rfl
        · skip
          refine g_aload_n (i := 0) (pc := 36) dX4_mostAt_36 rfl rfl ?_
          refine g_iload_n (i := 1) (pc := 37) dX4_mostAt_37 rfl rfl ?_
          refine g_iconst (pc := 38) dX4_mostAt_38 ?_
          refine g_iadd (pc := 39) dX4_mostAt_39 ?_
          refine g_v1 (pc := 40) okV_X4_digit rfl l_X4_127 dX4_mostAt_40 (c_79) hc_4 (by decide) (by decide) (Nat.le_of_ble_eq_true rfl) (t_X4_digit (ν := ν) ht hx (i := (b + 2)) (by omega)) rfl ?_
          simp only [Option.toList, List.cons_append, List.nil_append]
          refine G.eqS (v' := vI (dg (n_tx ν) (n_tl ν) ((b + 2)))) rfl ?_
          have bb := dg_rng (n_tx ν) (n_tl ν) ((b + 2))
          refine g_iconst (pc := 43) dX4_mostAt_43 ?_
          refine g_c_ne (tgt := 51) (pc := 44) dX4_mostAt_44 (by omega) (by decide) (fun c44 => ?_) (fun c44 => ?_)
          · skip
            refine g_bipush (pc := 51) dX4_mostAt_51 (by decide) ?_
            refine g_goto (tgt := 68) (pc := 53) dX4_mostAt_53 (by decide) ?_
            refine g_iret (pc := 68) rfl dX4_mostAt_68 (fun h => h) ?_
            exact dt_i (by unfold mo; (repeat' split) <;> omega) rfl
          · skip
            refine g_iconst (pc := 47) dX4_mostAt_47 ?_
            refine g_goto (tgt := 68) (pc := 48) dX4_mostAt_48 (by decide) ?_
            refine g_iret (pc := 68) rfl dX4_mostAt_68 (fun h => h) ?_
            exact dt_i (by unfold mo; (repeat' split) <;> omega) rfl
      · skip
        refine g_iconst (pc := 27) dX4_mostAt_27 ?_
        refine g_goto (tgt := 68) (pc := 28) dX4_mostAt_28 (by decide) ?_
        refine g_iret (pc := 68) rfl dX4_mostAt_68 (fun h => h) ?_
        exact dt_i (by unfold mo; (repeat' split) <;> omega) rfl
    · skip
      refine g_iconst (pc := 18) dX4_mostAt_18 ?_
      refine g_goto (tgt := 68) (pc := 19) dX4_mostAt_19 (by decide) ?_
      refine g_iret (pc := 68) rfl dX4_mostAt_68 (fun h => h) ?_
      exact dt_i (by unfold mo; (repeat' split) <;> omega) rfl
set_option maxRecDepth 20000 in
set_option maxHeartbeats 300000 in
theorem t_X4_isLetter {κ : KT} {ν : NT} {o : Nat → Int} {al : Bool} (ht : 0 ≤ n_tl ν ∧ n_tl ν ≤ 100) (hx : ∀ k, 0 ≤ n_tx ν k ∧ n_tx ν k < 256) {b : Int} (h_b : 0 ≤ b ∧ b < n_tl ν) : GM M_X4_isLetter al [vR 79, vI b] (cW κ (dE ν) o) 0 0 (dt (some (vI (b2 (decide (db (sn (n_tx ν) (n_tl ν) b) ≠ -1))))) (cW κ (dE (ν)) o)) := by
  show G _ none _ _ 0 [some (vR 79), some (vI b), none] [] _ _ _ _
  refine g_aload_n (i := 0) (pc := 0) dX4_isLetter_0 rfl rfl ?_
  refine g_getf (pc := 1) f_X4_28 dX4_isLetter_1 (c_79) rfl ?_
  refine g_iload_n (i := 1) (pc := 4) dX4_isLetter_4 rfl rfl ?_
  refine g_iald (pc := 5) dX4_isLetter_5 (c_86) (by omega) ?_
  refine G.eqS (congrArg (fun z => vI z) (show _ = sn (n_tx ν) (n_tl ν) b from (if_pos (show 0 ≤ b ∧ b < n_tl ν by omega)).symm)) ?_
  have y9 := sn_rng hx (n_tl ν) b
  refine g_istore_n (i := 2) (pc := 6) dX4_isLetter_6 rfl (by decide) rfl ?_
  simp only [List.set_cons_succ, List.set_cons_zero]
  refine g_iload_n (i := 2) (pc := 7) dX4_isLetter_7 rfl rfl ?_
  refine g_bipush (pc := 8) dX4_isLetter_8 (by decide) ?_
  refine g_c_eq (tgt := 37) (pc := 10) dX4_isLetter_10 (by omega) (by decide) (fun c10 => ?_) (fun c10 => ?_)
  · skip
    refine g_iconst (pc := 37) dX4_isLetter_37 ?_
    refine g_goto (tgt := 42) (pc := 38) dX4_isLetter_38 (by decide) ?_
    refine g_zret (pc := 42) rfl dX4_isLetter_42 (by omega) (fun h => h) ?_
    first
    | exact dt_i (b2_t (b := decide (db (sn (n_tx ν) (n_tl ν) b) ≠ -1)) (decide_eq_true (by unfold db; (repeat' split) <;> omega))).symm rfl
    | exact dt_i (b2_f (b := decide (db (sn (n_tx ν) (n_tl ν) b) ≠ -1)) (fun q => absurd (of_decide_eq_true q) (by unfold db; (repeat' split) <;> omega))).symm rfl
  · skip
    refine g_iload_n (i := 2) (pc := 13) dX4_isLetter_13 rfl rfl ?_
    refine g_bipush (pc := 14) dX4_isLetter_14 (by decide) ?_
    refine g_c_eq (tgt := 37) (pc := 16) dX4_isLetter_16 (by omega) (by decide) (fun c16 => ?_) (fun c16 => ?_)
    · skip
      refine g_iconst (pc := 37) dX4_isLetter_37 ?_
      refine g_goto (tgt := 42) (pc := 38) dX4_isLetter_38 (by decide) ?_
      refine g_zret (pc := 42) rfl dX4_isLetter_42 (by omega) (fun h => h) ?_
      first
      | exact dt_i (b2_t (b := decide (db (sn (n_tx ν) (n_tl ν) b) ≠ -1)) (decide_eq_true (by unfold db; (repeat' split) <;> omega))).symm rfl
      | exact dt_i (b2_f (b := decide (db (sn (n_tx ν) (n_tl ν) b) ≠ -1)) (fun q => absurd (of_decide_eq_true q) (by unfold db; (repeat' split) <;> omega))).symm rfl
    · skip
      refine g_iload_n (i := 2) (pc := 19) dX4_isLetter_19 rfl rfl ?_
      refine g_bipush (pc := 20) dX4_isLetter_20 (by decide) ?_
      refine g_c_eq (tgt := 37) (pc := 22) dX4_isLetter_22 (by omega) (by decide) (fun c22 => ?_) (fun c22 => ?_)
      · skip
        refine g_iconst (pc := 37) dX4_isLetter_37 ?_
        refine g_goto (tgt := 42) (pc := 38) dX4_isLetter_38 (by decide) ?_
        refine g_zret (pc := 42) rfl dX4_isLetter_42 (by omega) (fun h => h) ?_
        first
        | exact dt_i (b2_t (b := decide (db (sn (n_tx ν) (n_tl ν) b) ≠ -1)) (decide_eq_true (by unfold db; (repeat' split) <;> omega))).symm rfl
        | exact dt_i (b2_f (b := decide (db (sn (n_tx ν) (n_tl ν) b) ≠ -1)) (fun q => absurd (of_decide_eq_true q) (by unfold db; (repeat' split) <;> omega))).symm rfl
      · skip
        refine g_iload_n (i := 2) (pc := 25) dX4_isLetter_25 rfl rfl ?_
        refine g_bipush (pc := 26) dX4_isLetter_26 (by decide) ?_
        refine g_c_eq (tgt := 37) (pc := 28) dX4_isLetter_28 (by omega) (by decide) (fun c28 => ?_) (fun c28 => ?_)
        · skip
          refine g_iconst (pc := 37) dX4_isLetter_37 ?_
          refine g_goto (tgt := 42) (pc := 38) dX4_isLetter_38 (by decide) ?_
          refine g_zret (pc := 42) rfl dX4_isLetter_42 (by omega) (fun h => h) ?_
          first
          | exact dt_i (b2_t (b := decide (db (sn (n_tx ν) (n_tl ν) b) ≠ -1)) (decide_eq_true (by unfold db; (repeat' split) <;> omega))).symm rfl
          | exact dt_i (b2_f (b := decide (db (sn (n_tx ν) (n_tl ν) b) ≠ -1)) (fun q => absurd (of_decide_eq_true q) (by unfold db; (repeat' split) <;> omega))).symm rfl
        · skip
          refine g_iload_n (i := 2) (pc := 31) dX4_isLetter_31 rfl rfl ?_
          refine g_bipush (pc := 32) dX4_isLetter_32 (by decide) ?_
          refine g_c_ne (tgt := 41) (pc := 34) dX4_isLetter_34 (by omega) (by decide) (fun c34 => ?_) (fun c34 => ?_)
          · skip
            refine g_iconst (pc := 41) dX4_isLetter_41 ?_
            refine g_zret (pc := 42) rfl dX4_isLetter_42 (by omega) (fun h => h) ?_
            first
            | exact dt_i (b2_t (b := decide (db (sn (n_tx ν) (n_tl ν) b) ≠ -1)) (decide_eq_true (by unfold db; (repeat' split) <;> omega))).symm rfl
            | exact dt_i (b2_f (b := decide (db (sn (n_tx ν) (n_tl ν) b) ≠ -1)) (fun q => absurd (of_decide_eq_true q) (by unfold db; (repeat' split) <;> omega))).symm rfl
          · skip
            refine g_iconst (pc := 37) dX4_isLetter_37 ?_
            refine g_goto (tgt := 42) (pc := 38) dX4_isLetter_38 (by decide) ?_
            refine g_zret (pc := 42) rfl dX4_isLetter_42 (by omega) (fun h => h) ?_
            first
            | exact dt_i (b2_t (b := decide (db (sn (n_tx ν) (n_tl ν) b) ≠ -1)) (decide_eq_true (by unfold db; (repeat' split) <;> omega))).symm rfl
            | exact dt_i (b2_f (b := decide (db (sn (n_tx ν) (n_tl ν) b) ≠ -1)) (fun q => absurd (of_decide_eq_true q) (by unfold db; (repeat' split) <;> omega))).symm rfl
set_option maxRecDepth 20000 in
set_option maxHeartbeats 300000 in
theorem t_X4_lengthAt {κ : KT} {ν : NT} {o : Nat → Int} {al : Bool} (ht : 0 ≤ n_tl ν ∧ n_tl ν ≤ 100) (hx : ∀ k, 0 ≤ n_tx ν k ∧ n_tx ν k < 256) {b : Int} (h_b : 0 ≤ b ∧ b < n_tl ν) (h_d : db (sn (n_tx ν) (n_tl ν) b) ≠ -1) : GM M_X4_lengthAt al [vR 79, vI b] (cW κ (dE ν) o) 0 0 (dt (some (vI ((db (sn (n_tx ν) (n_tl ν) b)) + 1))) (cW κ (dE (ν)) o)) := by
  show G _ none _ _ 0 [some (vR 79), some (vI b), none] [] _ _ _ _
  have hr9 := db_rng (sn (n_tx ν) (n_tl ν) b)
  refine g_iconst (pc := 0) dX4_lengthAt_0 ?_
  refine g_istore_n (i := 2) (pc := 1) dX4_lengthAt_1 rfl (by decide) rfl ?_
  simp only [List.set_cons_succ, List.set_cons_zero]
  refine lp_up (P := fun j => G M_X4_lengthAt none al al 2 [some (vR 79), some (vI b), some (vI ((j : Int) + 1))] [] (cW κ (dE ν) o) 0 0 (dt (some (vI ((db (sn (n_tx ν) (n_tl ν) b)) + 1))) (cW κ (dE (ν)) o))) (db (sn (n_tx ν) (n_tl ν) b)).toNat ?_ ?_ 0 (Nat.zero_le _)
  · show G _ _ _ _ _ _ _ _ _ _ _
    have b8 := mo_nn (f := n_tx ν) (n := n_tl ν) (b := b) (k := ((db (sn (n_tx ν) (n_tl ν) b)).toNat : Int) + 1) (by omega) h_d
    refine g_aload_n (i := 0) (pc := 2) dX4_lengthAt_2 rfl rfl ?_
    refine g_iload_n (i := 1) (pc := 3) dX4_lengthAt_3 rfl rfl ?_
    refine g_iload_n (i := 2) (pc := 4) dX4_lengthAt_4 rfl rfl ?_
    refine g_v2 (pc := 5) okV_X4_mostAt rfl l_X4_130 dX4_lengthAt_5 (c_79) hc_4 (by decide) (by decide) (Nat.le_of_ble_eq_true rfl) (t_X4_mostAt (ν := ν) ht hx (b := b) (k := (((db (sn (n_tx ν) (n_tl ν) b)).toNat : Int) + 1)) (by omega) (by omega)) rfl ?_
    simp only [Option.toList, List.cons_append, List.nil_append]
    refine G.eqS (v' := vI (mo (n_tx ν) (n_tl ν) (b) ((((db (sn (n_tx ν) (n_tl ν) b)).toNat : Int) + 1)))) rfl ?_
    have bb := mo_rng (n_tx ν) (n_tl ν) (b) ((((db (sn (n_tx ν) (n_tl ν) b)).toNat : Int) + 1))
    refine g_z_lt (tgt := 17) (pc := 8) dX4_lengthAt_8 (by omega) (by decide) (fun c8 => ?_) (fun c8 => absurd c8 (by omega))
    refine g_iload_n (i := 2) (pc := 17) dX4_lengthAt_17 rfl rfl ?_
    refine g_iret (pc := 18) rfl dX4_lengthAt_18 (fun h => h) ?_
    exact dt_i (by omega) rfl
  · intro j hj ih
    show G _ _ _ _ _ _ _ _ _ _ _
    have b8 := mo_nn (f := n_tx ν) (n := n_tl ν) (b := b) (k := (j : Int) + 1) (by omega) h_d
    refine g_aload_n (i := 0) (pc := 2) dX4_lengthAt_2 rfl rfl ?_
    refine g_iload_n (i := 1) (pc := 3) dX4_lengthAt_3 rfl rfl ?_
    refine g_iload_n (i := 2) (pc := 4) dX4_lengthAt_4 rfl rfl ?_
    refine g_v2 (pc := 5) okV_X4_mostAt rfl l_X4_130 dX4_lengthAt_5 (c_79) hc_4 (by decide) (by decide) (Nat.le_of_ble_eq_true rfl) (t_X4_mostAt (ν := ν) ht hx (b := b) (k := ((j : Int) + 1)) (by omega) (by omega)) rfl ?_
    simp only [Option.toList, List.cons_append, List.nil_append]
    refine G.eqS (v' := vI (mo (n_tx ν) (n_tl ν) (b) (((j : Int) + 1)))) rfl ?_
    have bb := mo_rng (n_tx ν) (n_tl ν) (b) (((j : Int) + 1))
    refine g_z_lt (tgt := 17) (pc := 8) dX4_lengthAt_8 (by omega) (by decide) (fun c8 => absurd c8 (by omega)) (fun c8 => ?_)
    refine g_iinc (pc := 11) dX4_lengthAt_11 rfl (by decide) rfl ?_
    simp only [List.set_cons_succ, List.set_cons_zero]
    refine g_goto (tgt := 2) (pc := 14) dX4_lengthAt_14 (by decide) ?_
    exact ih
set_option maxRecDepth 20000 in
set_option maxHeartbeats 300000 in
theorem t_X4_findError {κ : KT} {ν : NT} {o : Nat → Int} {al : Bool} (ht : 0 ≤ n_tl ν ∧ n_tl ν ≤ 100) (hx : ∀ k, 0 ≤ n_tx ν k ∧ n_tx ν k < 256) : GM M_X4_findError al [vR 79] (cW κ (dE ν) o) 0 0 (dt (some (vI (fe (n_tx ν) (n_tl ν)))) (cW κ (dE (ν)) o)) := by
  show G _ none _ _ 0 [some (vR 79), none, none] [] _ _ _ _
  refine g_aload_n (i := 0) (pc := 0) dX4_findError_0 rfl rfl ?_
  refine g_getf (pc := 1) f_X4_124 dX4_findError_1 (c_79) rfl ?_
  refine G.eqS (v' := vI ((n_tl ν))) rfl ?_
  refine g_z_eq (tgt := 18) (pc := 4) dX4_findError_4 (by omega) (by decide) (fun c4 => ?_) (fun c4 => ?_)
  · skip
    refine g_iconst (pc := 18) dX4_findError_18 ?_
    refine g_iret (pc := 19) rfl dX4_findError_19 (fun h => h) ?_
    have e9 : sn (n_tx ν) (n_tl ν) 0 = 0 := by unfold sn; rw [if_neg (by omega)]
    exact dt_i (by unfold fe; rw [if_pos (by omega)]) rfl
  · skip
    refine g_aload_n (i := 0) (pc := 7) dX4_findError_7 rfl rfl ?_
    refine g_getf (pc := 8) f_X4_28 dX4_findError_8 (c_79) rfl ?_
    refine g_iconst (pc := 11) dX4_findError_11 ?_
    refine g_iald (pc := 12) dX4_findError_12 (c_86) (by omega) ?_
    refine G.eqS (congrArg (fun z => vI z) (show _ = sn (n_tx ν) (n_tl ν) 0 from (if_pos (show (0 : Int) ≤ 0 ∧ 0 < n_tl ν by omega)).symm)) ?_
    have y9 := sn_rng hx (n_tl ν) 0
    refine g_bipush (pc := 13) dX4_findError_13 (by decide) ?_
    refine g_c_eq (tgt := 20) (pc := 15) dX4_findError_15 (by omega) (by decide) (fun c15 => ?_) (fun c15 => ?_)
    · skip
      have hM : sn (n_tx ν) (n_tl ν) 0 = 77 := by omega
      refine g_iconst (pc := 20) dX4_findError_20 ?_
      refine g_istore_n (i := 1) (pc := 21) dX4_findError_21 rfl (by decide) rfl ?_
      simp only [List.set_cons_succ, List.set_cons_zero]
      refine lp_st (P := fun b => (1 ≤ b) → SPc (n_tx ν) (n_tl ν) b → G M_X4_findError none al al 22 [some (vR 79), some (vI b), none] [] (cW κ (dE ν) o) 0 0 (dt (some (vI (fe (n_tx ν) (n_tl ν)))) (cW κ (dE (ν)) o))) (n_tl ν).toNat ?_ 1 (by omega) (Nat.le_refl 1) (sp_1 _ _)
      · intro b hb ih hb1 hS
        show G _ _ _ _ _ _ _ _ _ _ _
        refine g_iload_n (i := 1) (pc := 22) dX4_findError_22 rfl rfl ?_
        refine g_aload_n (i := 0) (pc := 23) dX4_findError_23 rfl rfl ?_
        refine g_getf (pc := 24) f_X4_124 dX4_findError_24 (c_79) rfl ?_
        refine G.eqS (v' := vI ((n_tl ν))) rfl ?_
        refine g_c_ge (tgt := 92) (pc := 27) dX4_findError_27 (by omega) (by decide) (fun c27 => ?_) (fun c27 => ?_)
        · skip
          refine g_iconst (pc := 92) dX4_findError_92 ?_
          refine g_iret (pc := 93) rfl dX4_findError_93 (fun h => h) ?_
          exact dt_i (fe_fin hM hS (by omega)).symm rfl
        · skip
          refine g_aload_n (i := 0) (pc := 30) dX4_findError_30 rfl rfl ?_
          refine g_iload_n (i := 1) (pc := 31) dX4_findError_31 rfl rfl ?_
          refine g_v1 (pc := 32) okV_X4_isLetter rfl l_X4_133 dX4_findError_32 (c_79) hc_4 (by decide) (by decide) (Nat.le_of_ble_eq_true rfl) (t_X4_isLetter (ν := ν) ht hx (b := (b : Int)) (by omega)) rfl ?_
          simp only [Option.toList, List.cons_append, List.nil_append]
          refine G.eqS (v' := vI (b2 (decide (db (sn (n_tx ν) (n_tl ν) ((b : Int))) ≠ -1)))) rfl ?_
          have bb := b2_rng (decide (db (sn (n_tx ν) (n_tl ν) ((b : Int))) ≠ -1))
          have b1 := b2_dec (p := db (sn (n_tx ν) (n_tl ν) ((b : Int))) ≠ -1)
          refine g_z_ne (tgt := 40) (pc := 35) dX4_findError_35 (by omega) (by decide) (fun c35 => ?_) (fun c35 => ?_)
          · skip
            have h_d : db (sn (n_tx ν) (n_tl ν) (b : Int)) ≠ -1 := b1.mp (by omega)
            have hr9 := db_rng (sn (n_tx ν) (n_tl ν) (b : Int))
            refine g_iconst (pc := 40) dX4_findError_40 ?_
            refine g_istore_n (i := 2) (pc := 41) dX4_findError_41 rfl (by decide) rfl ?_
            simp only [List.set_cons_succ, List.set_cons_zero]
            refine lp_up (P := fun j => (sc (n_tx ν) (n_tl ν) (b + j) = (-1, (b : Int), (db (sn (n_tx ν) (n_tl ν) (b : Int))) - j) ∧ ((b + j : Nat) : Int) < n_tl ν) → G M_X4_findError none al al 42 [some (vR 79), some (vI b), some (vI ((j : Int) + 1))] [] (cW κ (dE ν) o) 0 0 (dt (some (vI (fe (n_tx ν) (n_tl ν)))) (cW κ (dE (ν)) o))) (db (sn (n_tx ν) (n_tl ν) (b : Int))).toNat ?_ ?_ 0 (Nat.zero_le _) ⟨by rw [Nat.add_zero, sp_let hS h_d]; simp, by omega⟩
            · intro hE
              show G _ _ _ _ _ _ _ _ _ _ _
              have b8 := mo_nn (f := n_tx ν) (n := n_tl ν) (b := (b : Int)) (k := ((db (sn (n_tx ν) (n_tl ν) (b : Int))).toNat : Int) + 1) (by omega) h_d
              refine g_aload_n (i := 0) (pc := 42) dX4_findError_42 rfl rfl ?_
              refine g_iload_n (i := 1) (pc := 43) dX4_findError_43 rfl rfl ?_
              refine g_iload_n (i := 2) (pc := 44) dX4_findError_44 rfl rfl ?_
              refine g_v2 (pc := 45) okV_X4_mostAt rfl l_X4_130 dX4_findError_45 (c_79) hc_4 (by decide) (by decide) (Nat.le_of_ble_eq_true rfl) (t_X4_mostAt (ν := ν) ht hx (b := (b : Int)) (k := (((db (sn (n_tx ν) (n_tl ν) (b : Int))).toNat : Int) + 1)) (by omega) (by omega)) rfl ?_
              simp only [Option.toList, List.cons_append, List.nil_append]
              refine G.eqS (v' := vI (mo (n_tx ν) (n_tl ν) ((b : Int)) ((((db (sn (n_tx ν) (n_tl ν) (b : Int))).toNat : Int) + 1)))) rfl ?_
              have bb := mo_rng (n_tx ν) (n_tl ν) ((b : Int)) ((((db (sn (n_tx ν) (n_tl ν) (b : Int))).toNat : Int) + 1))
              refine g_z_lt (tgt := 81) (pc := 48) dX4_findError_48 (by omega) (by decide) (fun c48 => ?_) (fun c48 => absurd c48 (by omega))
              refine g_iload_n (i := 1) (pc := 81) dX4_findError_81 rfl rfl ?_
              refine g_aload_n (i := 0) (pc := 82) dX4_findError_82 rfl rfl ?_
              refine g_iload_n (i := 1) (pc := 83) dX4_findError_83 rfl rfl ?_
              refine g_v1 (pc := 84) okV_X4_lengthAt rfl l_X4_136 dX4_findError_84 (c_79) hc_4 (by decide) (by decide) (Nat.le_of_ble_eq_true rfl) (t_X4_lengthAt (ν := ν) ht hx (b := (b : Int)) (show 0 ≤ (b : Int) ∧ (b : Int) < n_tl ν by omega) h_d) rfl ?_
              simp only [Option.toList, List.cons_append, List.nil_append]
              refine G.eqS (v' := vI (db (sn (n_tx ν) (n_tl ν) ((b : Int))) + 1)) rfl ?_
              refine g_iadd (pc := 87) dX4_findError_87 ?_
              refine g_istore_n (i := 1) (pc := 88) dX4_findError_88 rfl (by decide) rfl ?_
              simp only [List.set_cons_succ, List.set_cons_zero]
              refine g_goto (tgt := 22) (pc := 89) dX4_findError_89 (by decide) ?_
              refine G.drop 2 ?_
              simp only [List.set_cons_succ, List.set_cons_zero]
              refine G.eqL (congrArg (fun z => [some (vR 79), some (vI z), none]) (show (b : Int) + ((db (sn (n_tx ν) (n_tl ν) (b : Int))) + 1) = ((b + ((db (sn (n_tx ν) (n_tl ν) (b : Int))).toNat + 1) : Nat) : Int) by omega)) (ih _ (by omega) (by omega) (by omega) (sp_nx (hE.1.trans ?_)))
              congr 2
              omega
            · intro j hj ih2 hE
              show G _ _ _ _ _ _ _ _ _ _ _
              have b8 := mo_nn (f := n_tx ν) (n := n_tl ν) (b := (b : Int)) (k := (j : Int) + 1) (by omega) h_d
              have b7 := ald_mo (f := n_tx ν) (n := n_tl ν) (b := b) (k := (j : Int) + 1) (by omega) (by omega)
              refine g_aload_n (i := 0) (pc := 42) dX4_findError_42 rfl rfl ?_
              refine g_iload_n (i := 1) (pc := 43) dX4_findError_43 rfl rfl ?_
              refine g_iload_n (i := 2) (pc := 44) dX4_findError_44 rfl rfl ?_
              refine g_v2 (pc := 45) okV_X4_mostAt rfl l_X4_130 dX4_findError_45 (c_79) hc_4 (by decide) (by decide) (Nat.le_of_ble_eq_true rfl) (t_X4_mostAt (ν := ν) ht hx (b := (b : Int)) (k := ((j : Int) + 1)) (by omega) (by omega)) rfl ?_
              simp only [Option.toList, List.cons_append, List.nil_append]
              refine G.eqS (v' := vI (mo (n_tx ν) (n_tl ν) ((b : Int)) (((j : Int) + 1)))) rfl ?_
              have bb := mo_rng (n_tx ν) (n_tl ν) ((b : Int)) (((j : Int) + 1))
              refine g_z_lt (tgt := 81) (pc := 48) dX4_findError_48 (by omega) (by decide) (fun c48 => absurd c48 (by omega)) (fun c48 => ?_)
              refine g_aload_n (i := 0) (pc := 51) dX4_findError_51 rfl rfl ?_
              refine g_iload_n (i := 1) (pc := 52) dX4_findError_52 rfl rfl ?_
              refine g_iload_n (i := 2) (pc := 53) dX4_findError_53 rfl rfl ?_
              refine g_iadd (pc := 54) dX4_findError_54 ?_
              refine g_v1 (pc := 55) okV_X4_digit rfl l_X4_127 dX4_findError_55 (c_79) hc_4 (by decide) (by decide) (Nat.le_of_ble_eq_true rfl) (t_X4_digit (ν := ν) ht hx (i := ((b : Int) + ((j : Int) + 1))) (by omega)) rfl ?_
              simp only [Option.toList, List.cons_append, List.nil_append]
              refine G.eqS (v' := vI (dg (n_tx ν) (n_tl ν) (((b : Int) + ((j : Int) + 1))))) rfl ?_
              have bb := dg_rng (n_tx ν) (n_tl ν) (((b : Int) + ((j : Int) + 1)))
              refine g_iconst (pc := 58) dX4_findError_58 ?_
              refine g_aload_n (i := 0) (pc := 59) dX4_findError_59 rfl rfl ?_
              refine g_iload_n (i := 1) (pc := 60) dX4_findError_60 rfl rfl ?_
              refine g_iload_n (i := 2) (pc := 61) dX4_findError_61 rfl rfl ?_
              refine g_v2 (pc := 62) okV_X4_mostAt rfl l_X4_130 dX4_findError_62 (c_79) hc_4 (by decide) (by decide) (Nat.le_of_ble_eq_true rfl) (t_X4_mostAt (ν := ν) ht hx (b := (b : Int)) (k := ((j : Int) + 1)) (by omega) (by omega)) rfl ?_
              simp only [Option.toList, List.cons_append, List.nil_append]
              refine G.eqS (v' := vI (mo (n_tx ν) (n_tl ν) ((b : Int)) (((j : Int) + 1)))) rfl ?_
              have bb := mo_rng (n_tx ν) (n_tl ν) ((b : Int)) (((j : Int) + 1))
              refine g_s3 (pc := 65) okS_X4_within rfl l_X4_38 dX4_findError_65 (by decide) (by decide) (Nat.le_of_ble_eq_true rfl) (t_X4_within (by omega) (by omega) (by omega)) rfl ?_
              simp only [Option.toList, List.cons_append, List.nil_append]
              have bb := b2_rng (decide (0 ≤ (dg (n_tx ν) (n_tl ν) (((b : Int) + ((j : Int) + 1)))) ∧ (dg (n_tx ν) (n_tl ν) (((b : Int) + ((j : Int) + 1)))) ≤ (mo (n_tx ν) (n_tl ν) ((b : Int)) (((j : Int) + 1)))))
              have b1 := b2_dec (p := 0 ≤ (dg (n_tx ν) (n_tl ν) (((b : Int) + ((j : Int) + 1)))) ∧ (dg (n_tx ν) (n_tl ν) (((b : Int) + ((j : Int) + 1)))) ≤ (mo (n_tx ν) (n_tl ν) ((b : Int)) (((j : Int) + 1))))
              refine g_z_ne (tgt := 75) (pc := 68) dX4_findError_68 (by omega) (by decide) (fun c68 => ?_) (fun c68 => ?_)
              · skip
                refine g_iinc (pc := 75) dX4_findError_75 rfl (by decide) rfl ?_
                simp only [List.set_cons_succ, List.set_cons_zero]
                refine g_goto (tgt := 42) (pc := 78) dX4_findError_78 (by decide) ?_
                have ha := b7.mpr (b1.mp (by omega))
                have hl := dg_lt (of_decide_eq_true ha).1
                refine ih2 ⟨(sd_yes hE.1 (by omega) ha).trans ?_, by omega⟩
                congr 2
                omega
              · skip
                refine g_iload_n (i := 1) (pc := 71) dX4_findError_71 rfl rfl ?_
                refine g_iload_n (i := 2) (pc := 72) dX4_findError_72 rfl rfl ?_
                refine g_iadd (pc := 73) dX4_findError_73 ?_
                refine g_iret (pc := 74) rfl dX4_findError_74 (fun h => h) ?_
                exact dt_i (fe_bad hM hE.2 hE.1 (by omega) (fun q => absurd (b1.mpr (b7.mp q)) (by omega))).symm rfl
          · skip
            refine g_iload_n (i := 1) (pc := 38) dX4_findError_38 rfl rfl ?_
            refine g_iret (pc := 39) rfl dX4_findError_39 (fun h => h) ?_
            exact dt_i (fe_no hM hS (by omega) (Decidable.not_not.mp (fun q => absurd (b1.mpr q) (by omega)))).symm rfl
    · skip
      refine g_iconst (pc := 18) dX4_findError_18 ?_
      refine g_iret (pc := 19) rfl dX4_findError_19 (fun h => h) ?_
      exact dt_i (by unfold fe; rw [if_pos (by omega)]) rfl
set_option maxRecDepth 20000 in
set_option maxHeartbeats 300000 in
theorem t_X4_errorPosition {κ : KT} {ν : NT} {o : Nat → Int} {al : Bool} (ht : 0 ≤ n_tl ν ∧ n_tl ν ≤ 100) (hx : ∀ k, 0 ≤ n_tx ν k ∧ n_tx ν k < 256) : GM M_X4_errorPosition al [vR 79] (cW κ (dE ν) o) 0 0 (dt (some (vI (fe (n_tx ν) (n_tl ν)))) (cW κ (dE (n_setth ν 0)) o)) := by
  show G _ none _ _ 0 [some (vR 79)] [] _ _ _ _
  refine g_aload_n (i := 0) (pc := 0) dX4_errorPosition_0 rfl rfl ?_
  refine g_iconst (pc := 1) dX4_errorPosition_1 ?_
  refine g_put (pc := 2) ft_X4_34 dX4_errorPosition_2 (c_79) (Nat.le_of_ble_eq_true rfl) (fun _ => rfl) (fun _ => rfl) (fun h => nomatch h) ?_
  refine G.eqw v_th ?_
  refine g_aload_n (i := 0) (pc := 5) dX4_errorPosition_5 rfl rfl ?_
  refine g_v0 (pc := 6) okV_X4_findError rfl l_X4_139 dX4_errorPosition_6 (c_79) hc_4 (by decide) (by decide) (Nat.le_of_ble_eq_true rfl) (t_X4_findError (ν := n_setth (ν) (0)) ht hx) rfl ?_
  simp only [Option.toList, List.cons_append, List.nil_append]
  refine G.eqS (v' := vI (fe (n_tx ν) (n_tl ν))) rfl ?_
  have bb := fe_rng (f := n_tx ν) (n := n_tl ν) ht.1
  refine g_iret (pc := 9) rfl dX4_errorPosition_9 (fun h => h) ?_
  exact dt_i rfl (nw rfl)
set_option maxRecDepth 20000 in
set_option maxHeartbeats 300000 in
theorem t_X4_commandAt {κ : KT} {ν : NT} {o : Nat → Int} {al : Bool} (hi : Inv (n_st ν)) (ht : 0 ≤ n_tl ν ∧ n_tl ν ≤ 100) (hx : ∀ k, 0 ≤ n_tx ν k ∧ n_tx ν k < 256) {b : Int} (h_b : 0 ≤ b ∧ b < n_tl ν) (h_l : db (sn (n_tx ν) (n_tl ν) b) ≠ -1) (h_ok : ∀ i : Nat, 1 ≤ i → (i : Int) ≤ db (sn (n_tx ν) (n_tl ν) b) → dg (n_tx ν) (n_tl ν) (b + i) ≠ -1) : GM M_X4_commandAt al [vR 79, vI b] (cW κ (dE ν) o) 0 0 (dt (some (vI (b2 (tV (n_st ν) (n_tx ν) (n_tl ν) b)))) (cW κ (dE (n_setst ν (tS (n_st ν) (n_tx ν) (n_tl ν) b))) o)) := by
  show G _ none _ _ 0 [some (vR 79), some (vI b), none] [] _ _ _ _
  refine g_aload_n (i := 0) (pc := 0) dX4_commandAt_0 rfl rfl ?_
  refine g_iload_n (i := 1) (pc := 1) dX4_commandAt_1 rfl rfl ?_
  refine g_iconst (pc := 2) dX4_commandAt_2 ?_
  refine g_iadd (pc := 3) dX4_commandAt_3 ?_
  refine g_v1 (pc := 4) okV_X4_digit rfl l_X4_127 dX4_commandAt_4 (c_79) hc_4 (by decide) (by decide) (Nat.le_of_ble_eq_true rfl) (t_X4_digit (ν := ν) ht hx (i := (b + 1)) (by omega)) rfl ?_
  simp only [Option.toList, List.cons_append, List.nil_append]
  refine G.eqS (v' := vI (dg (n_tx ν) (n_tl ν) ((b + 1)))) rfl ?_
  have bb := dg_rng (n_tx ν) (n_tl ν) ((b + 1))
  refine g_istore_n (i := 2) (pc := 7) dX4_commandAt_7 rfl (by decide) rfl ?_
  simp only [List.set_cons_succ, List.set_cons_zero]
  refine g_aload_n (i := 0) (pc := 8) dX4_commandAt_8 rfl rfl ?_
  refine g_getf (pc := 9) f_X4_28 dX4_commandAt_9 (c_79) rfl ?_
  refine g_iload_n (i := 1) (pc := 12) dX4_commandAt_12 rfl rfl ?_
  refine g_iald (pc := 13) dX4_commandAt_13 (c_86) (by omega) ?_
  refine G.eqS (congrArg (fun z => vI z) (show _ = sn (n_tx ν) (n_tl ν) b from (if_pos (show 0 ≤ b ∧ b < n_tl ν by omega)).symm)) ?_
  have y9 := sn_rng hx (n_tl ν) b
  rcases (by omega : (sn (n_tx ν) (n_tl ν) b) = 102 ∨ (sn (n_tx ν) (n_tl ν) b) = 109 ∨ (sn (n_tx ν) (n_tl ν) b) = 119 ∨ (sn (n_tx ν) (n_tl ν) b) = 120 ∨ (¬ 102 = (sn (n_tx ν) (n_tl ν) b) ∧ ¬ 109 = (sn (n_tx ν) (n_tl ν) b) ∧ ¬ 119 = (sn (n_tx ν) (n_tl ν) b) ∧ ¬ 120 = (sn (n_tx ν) (n_tl ν) b))) with ew14 | ew14 | ew14 | ew14 | ⟨ew14_102, ew14_109, ew14_119, ew14_120⟩
  · refine g_ls (off := 84) (tgt := 98) (pc := 14) dX4_commandAt_14 (by omega) (by decide) (by rw [ew14]; rfl) (by decide) ?_
    refine g_aload_n (i := 0) (pc := 98) dX4_commandAt_98 rfl rfl ?_
    refine g_iload_n (i := 2) (pc := 99) dX4_commandAt_99 rfl rfl ?_
    refine g_v1 (pc := 100) okV_X4_tryFork rfl l_X4_145 dX4_commandAt_100 (c_79) hc_4 (by decide) (by decide) (Nat.le_of_ble_eq_true rfl) (t_X4_tryFork (ν := ν) hi (by omega)) (by rw [c_len, c_len]) ?_
    simp only [Option.toList, List.cons_append, List.nil_append]
    have bb := b2_rng (decide (dfv (n_st ν) ((dg (n_tx ν) (n_tl ν) ((b + 1)))) ≠ -1))
    have hi0 := hi
    have hi := inv_df (σ := (n_st ν)) hi ((dg (n_tx ν) (n_tl ν) ((b + 1))))
    refine g_zret (pc := 103) rfl dX4_commandAt_103 (by omega) (fun h => h) ?_
    refine dt_i (congrArg b2 ?_) (congrArg (fun z => cW κ (dE (n_setst ν z)) o) ?_)
    · unfold tV; rw [if_neg (by omega), if_pos (by omega)]
    · unfold tS; rw [if_neg (by omega), if_pos (by omega)]
  · refine g_ls (off := 96) (tgt := 110) (pc := 14) dX4_commandAt_14 (by omega) (by decide) (by rw [ew14]; rfl) (by decide) ?_
    refine g_aload_n (i := 0) (pc := 110) dX4_commandAt_110 rfl rfl ?_
    refine g_iload_n (i := 2) (pc := 111) dX4_commandAt_111 rfl rfl ?_
    refine g_aload_n (i := 0) (pc := 112) dX4_commandAt_112 rfl rfl ?_
    refine g_iload_n (i := 1) (pc := 113) dX4_commandAt_113 rfl rfl ?_
    refine g_iconst (pc := 114) dX4_commandAt_114 ?_
    refine g_iadd (pc := 115) dX4_commandAt_115 ?_
    refine g_v1 (pc := 116) okV_X4_digit rfl l_X4_127 dX4_commandAt_116 (c_79) hc_4 (by decide) (by decide) (Nat.le_of_ble_eq_true rfl) (t_X4_digit (ν := ν) ht hx (i := (b + 2)) (by omega)) rfl ?_
    simp only [Option.toList, List.cons_append, List.nil_append]
    refine G.eqS (v' := vI (dg (n_tx ν) (n_tl ν) ((b + 2)))) rfl ?_
    have bb := dg_rng (n_tx ν) (n_tl ν) ((b + 2))
    refine g_v2 (pc := 119) okV_X4_tryMarry rfl l_X4_151 dX4_commandAt_119 (c_79) hc_4 (by decide) (by decide) (Nat.le_of_ble_eq_true rfl) (t_X4_tryMarry (ν := ν) hi (by omega) (by omega)) (by rw [c_len, c_len]) ?_
    simp only [Option.toList, List.cons_append, List.nil_append]
    have bb := b2_rng (decide (dmv (n_st ν) ((dg (n_tx ν) (n_tl ν) ((b + 1)))) ((dg (n_tx ν) (n_tl ν) ((b + 2)))) ≠ -1))
    have hi0 := hi
    have hi := inv_dm (σ := (n_st ν)) hi ((dg (n_tx ν) (n_tl ν) ((b + 1)))) ((dg (n_tx ν) (n_tl ν) ((b + 2))))
    refine g_zret (pc := 122) rfl dX4_commandAt_122 (by omega) (fun h => h) ?_
    refine dt_i (congrArg b2 ?_) (congrArg (fun z => cW κ (dE (n_setst ν z)) o) ?_)
    · unfold tV; rw [if_neg (by omega), if_neg (by omega), if_neg (by omega), if_pos (by omega)]
    · unfold tS; rw [if_neg (by omega), if_neg (by omega), if_neg (by omega), if_pos (by omega)]
  · refine g_ls (off := 42) (tgt := 56) (pc := 14) dX4_commandAt_14 (by omega) (by decide) (by rw [ew14]; rfl) (by decide) ?_
    have hd5 : db (sn (n_tx ν) (n_tl ν) b) = 5 := by unfold db; rw [if_pos (by omega)]
    have h1 := h_ok 1 (by omega) (by omega)
    have h2 : dg (n_tx ν) (n_tl ν) (b + 2) ≠ -1 := h_ok 2 (by omega) (by omega)
    have h3 : dg (n_tx ν) (n_tl ν) (b + 3) ≠ -1 := h_ok 3 (by omega) (by omega)
    have h4 : dg (n_tx ν) (n_tl ν) (b + 4) ≠ -1 := h_ok 4 (by omega) (by omega)
    have h5 : dg (n_tx ν) (n_tl ν) (b + 5) ≠ -1 := h_ok 5 (by omega) (by omega)
    refine g_aload_n (i := 0) (pc := 56) dX4_commandAt_56 rfl rfl ?_
    refine g_iload_n (i := 2) (pc := 57) dX4_commandAt_57 rfl rfl ?_
    refine g_bipush (pc := 58) dX4_commandAt_58 (by decide) ?_
    refine g_aload_n (i := 0) (pc := 60) dX4_commandAt_60 rfl rfl ?_
    refine g_iload_n (i := 1) (pc := 61) dX4_commandAt_61 rfl rfl ?_
    refine g_iconst (pc := 62) dX4_commandAt_62 ?_
    refine g_iadd (pc := 63) dX4_commandAt_63 ?_
    refine g_v1 (pc := 64) okV_X4_digit rfl l_X4_127 dX4_commandAt_64 (c_79) hc_4 (by decide) (by decide) (Nat.le_of_ble_eq_true rfl) (t_X4_digit (ν := ν) ht hx (i := (b + 2)) (by omega)) rfl ?_
    simp only [Option.toList, List.cons_append, List.nil_append]
    refine G.eqS (v' := vI (dg (n_tx ν) (n_tl ν) ((b + 2)))) rfl ?_
    have bb := dg_rng (n_tx ν) (n_tl ν) ((b + 2))
    refine g_imul (pc := 67) dX4_commandAt_67 ?_
    refine g_aload_n (i := 0) (pc := 68) dX4_commandAt_68 rfl rfl ?_
    refine g_iload_n (i := 1) (pc := 69) dX4_commandAt_69 rfl rfl ?_
    refine g_iconst (pc := 70) dX4_commandAt_70 ?_
    refine g_iadd (pc := 71) dX4_commandAt_71 ?_
    refine g_v1 (pc := 72) okV_X4_digit rfl l_X4_127 dX4_commandAt_72 (c_79) hc_4 (by decide) (by decide) (Nat.le_of_ble_eq_true rfl) (t_X4_digit (ν := ν) ht hx (i := (b + 3)) (by omega)) rfl ?_
    simp only [Option.toList, List.cons_append, List.nil_append]
    refine G.eqS (v' := vI (dg (n_tx ν) (n_tl ν) ((b + 3)))) rfl ?_
    have bb := dg_rng (n_tx ν) (n_tl ν) ((b + 3))
    refine g_iadd (pc := 75) dX4_commandAt_75 ?_
    refine g_bipush (pc := 76) dX4_commandAt_76 (by decide) ?_
    refine g_aload_n (i := 0) (pc := 78) dX4_commandAt_78 rfl rfl ?_
    refine g_iload_n (i := 1) (pc := 79) dX4_commandAt_79 rfl rfl ?_
    refine g_iconst (pc := 80) dX4_commandAt_80 ?_
    refine g_iadd (pc := 81) dX4_commandAt_81 ?_
    refine g_v1 (pc := 82) okV_X4_digit rfl l_X4_127 dX4_commandAt_82 (c_79) hc_4 (by decide) (by decide) (Nat.le_of_ble_eq_true rfl) (t_X4_digit (ν := ν) ht hx (i := (b + 4)) (by omega)) rfl ?_
    simp only [Option.toList, List.cons_append, List.nil_append]
    refine G.eqS (v' := vI (dg (n_tx ν) (n_tl ν) ((b + 4)))) rfl ?_
    have bb := dg_rng (n_tx ν) (n_tl ν) ((b + 4))
    refine g_imul (pc := 85) dX4_commandAt_85 ?_
    refine g_aload_n (i := 0) (pc := 86) dX4_commandAt_86 rfl rfl ?_
    refine g_iload_n (i := 1) (pc := 87) dX4_commandAt_87 rfl rfl ?_
    refine g_iconst (pc := 88) dX4_commandAt_88 ?_
    refine g_iadd (pc := 89) dX4_commandAt_89 ?_
    refine g_v1 (pc := 90) okV_X4_digit rfl l_X4_127 dX4_commandAt_90 (c_79) hc_4 (by decide) (by decide) (Nat.le_of_ble_eq_true rfl) (t_X4_digit (ν := ν) ht hx (i := (b + 5)) (by omega)) rfl ?_
    simp only [Option.toList, List.cons_append, List.nil_append]
    refine G.eqS (v' := vI (dg (n_tx ν) (n_tl ν) ((b + 5)))) rfl ?_
    have bb := dg_rng (n_tx ν) (n_tl ν) ((b + 5))
    refine g_iadd (pc := 93) dX4_commandAt_93 ?_
    refine g_v3 (pc := 94) okV_X4_tryWrite rfl l_X4_142 dX4_commandAt_94 (c_79) hc_4 (by decide) (by decide) (Nat.le_of_ble_eq_true rfl) (t_X4_tryWrite (ν := ν) hi (by omega) (by omega) (by omega)) (by rw [c_len, c_len]) ?_
    simp only [Option.toList, List.cons_append, List.nil_append]
    have bb := b2_rng (decide (dwv (n_st ν) ((dg (n_tx ν) (n_tl ν) ((b + 1)))) (((10 * (dg (n_tx ν) (n_tl ν) ((b + 2)))) + (dg (n_tx ν) (n_tl ν) ((b + 3))))) (((10 * (dg (n_tx ν) (n_tl ν) ((b + 4)))) + (dg (n_tx ν) (n_tl ν) ((b + 5))))) ≠ -1))
    have hi0 := hi
    have hi := inv_dw (σ := (n_st ν)) hi ((dg (n_tx ν) (n_tl ν) ((b + 1)))) (((10 * (dg (n_tx ν) (n_tl ν) ((b + 2)))) + (dg (n_tx ν) (n_tl ν) ((b + 3))))) (((10 * (dg (n_tx ν) (n_tl ν) ((b + 4)))) + (dg (n_tx ν) (n_tl ν) ((b + 5)))))
    refine g_zret (pc := 97) rfl dX4_commandAt_97 (by omega) (fun h => h) ?_
    have hn2 : nu (n_tx ν) (n_tl ν) (b + 2) = 10 * dg (n_tx ν) (n_tl ν) (b + 2) + dg (n_tx ν) (n_tl ν) (b + 3) := by unfold nu; rw [show b + 2 + 1 = b + 3 by omega, if_neg (by omega)]
    have hn4 : nu (n_tx ν) (n_tl ν) (b + 4) = 10 * dg (n_tx ν) (n_tl ν) (b + 4) + dg (n_tx ν) (n_tl ν) (b + 5) := by unfold nu; rw [show b + 4 + 1 = b + 5 by omega, if_neg (by omega)]
    rw [← hn2, ← hn4]
    refine dt_i (congrArg b2 ?_) (congrArg (fun z => cW κ (dE (n_setst ν z)) o) ?_)
    · unfold tV; rw [if_pos (by omega)]
    · unfold tS; rw [if_pos (by omega)]
  · refine g_ls (off := 90) (tgt := 104) (pc := 14) dX4_commandAt_14 (by omega) (by decide) (by rw [ew14]; rfl) (by decide) ?_
    refine g_aload_n (i := 0) (pc := 104) dX4_commandAt_104 rfl rfl ?_
    refine g_iload_n (i := 2) (pc := 105) dX4_commandAt_105 rfl rfl ?_
    refine g_v1 (pc := 106) okV_X4_tryExit rfl l_X4_148 dX4_commandAt_106 (c_79) hc_4 (by decide) (by decide) (Nat.le_of_ble_eq_true rfl) (t_X4_tryExit (ν := ν) hi (by omega)) (by rw [c_len, c_len]) ?_
    simp only [Option.toList, List.cons_append, List.nil_append]
    have bb := b2_rng (decide (dev (n_st ν) ((dg (n_tx ν) (n_tl ν) ((b + 1)))) ≠ -1))
    have hi0 := hi
    have hi := inv_de (σ := (n_st ν)) hi ((dg (n_tx ν) (n_tl ν) ((b + 1))))
    refine g_zret (pc := 109) rfl dX4_commandAt_109 (by omega) (fun h => h) ?_
    refine dt_i (congrArg b2 ?_) (congrArg (fun z => cW κ (dE (n_setst ν z)) o) ?_)
    · unfold tV; rw [if_neg (by omega), if_neg (by omega), if_pos (by omega)]
    · unfold tS; rw [if_neg (by omega), if_neg (by omega), if_pos (by omega)]
  · refine g_ls (off := 109) (tgt := 123) (pc := 14) dX4_commandAt_14 (by omega) (by decide) ?_ (by decide) ?_
    · simp only [Op.lookupswitch.offset_cons, Op.lookupswitch.offset_nil, if_neg ew14_102, if_neg ew14_109, if_neg ew14_119, if_neg ew14_120]
    refine g_aload_n (i := 0) (pc := 123) dX4_commandAt_123 rfl rfl ?_
    refine g_getf (pc := 124) f_X4_7 dX4_commandAt_124 (c_79) rfl ?_
    refine g_bipush (pc := 127) dX4_commandAt_127 (by decide) ?_
    refine g_iconst (pc := 129) dX4_commandAt_129 ?_
    refine g_iast (pc := 130) dX4_commandAt_130 c_80 (by decide) ?_
    refine G.eqw w4_ea ?_
    refine g_iconst (pc := 131) dX4_commandAt_131 ?_
    refine g_zret (pc := 132) rfl dX4_commandAt_132 (by omega) (fun h => h) ?_
    have h101 : sn (n_tx ν) (n_tl ν) b = 101 := by
      unfold db at h_l
      (repeat' split at h_l) <;> omega
    refine dt_i ?_ (congrArg (fun z => cW κ (dE (n_setst ν z)) o) ?_)
    · refine (b2_t ?_).symm
      unfold tV; rw [if_neg (by omega), if_neg (by omega), if_neg (by omega), if_neg (by omega), decide_eq_true_eq]
      exact h101
    · unfold tS; rw [if_neg (by omega), if_neg (by omega), if_neg (by omega), if_neg (by omega), if_pos h101]
set_option maxRecDepth 20000 in
set_option maxHeartbeats 300000 in
theorem t_X4_load {κ : KT} {ν : NT} {o : Nat → Int} {al : Bool} (hN : NInv ν) : GM M_X4_load al [vR 79] (cW κ (dE ν) o) 0 0 (dt (some (vI (nV (xn_ld ν) ((ldS (n_tx ν) (n_tl ν) (n_tl ν - 1).toNat).2)))) (cW κ (dE (nR ν (xn_ld ν) (n_setsv (n_setre (n_setst ν (ldS (n_tx ν) (n_tl ν) (n_tl ν - 1).toNat).1) 0) (va_up (va_up (n_sv ν) 0 0) 1 0)))) o)) := by
  show G _ none _ _ 0 [some (vR 79), none, none] [] _ _ _ _
  have hi := hN.1
  have hr := hN.2.1
  have ht := hN.2.2.2.2.2.2
  have hx := hN.2.2.2.2.2.1
  refine g_aload_n (i := 0) (pc := 0) dX4_load_0 rfl rfl ?_
  refine g_aload_n (i := 0) (pc := 1) dX4_load_1 rfl rfl ?_
  refine g_v0 (pc := 2) okV_X4_findError rfl l_X4_139 dX4_load_2 (c_79) hc_4 (by decide) (by decide) (Nat.le_of_ble_eq_true rfl) (t_X4_findError (ν := ν) ht hx) rfl ?_
  simp only [Option.toList, List.cons_append, List.nil_append]
  refine G.eqS (v' := vI (fe (n_tx ν) (n_tl ν))) rfl ?_
  have bb := fe_rng (f := n_tx ν) (n := n_tl ν) ht.1
  refine g_iconst (pc := 5) dX4_load_5 ?_
  refine g_c_ne (tgt := 13) (pc := 6) dX4_load_6 (by omega) (by decide) (fun c6 => ?_) (fun c6 => ?_)
  · skip
    refine g_iconst (pc := 13) dX4_load_13 ?_
    refine g_put (pc := 14) ft_X4_34 dX4_load_14 (c_79) (Nat.le_of_ble_eq_true rfl) (fun _ => rfl) (fun _ => rfl) (fun h => nomatch h) ?_
    refine G.eqw v_th ?_
    refine g_aload_n (i := 0) (pc := 17) dX4_load_17 rfl rfl ?_
    refine g_getf (pc := 18) f_X4_34 dX4_load_18 (c_79) rfl ?_
    refine G.eqS (v' := vI (1)) rfl ?_
    refine g_z_le (tgt := 26) (pc := 21) dX4_load_21 (by omega) (by decide) (fun c21 => absurd c21 (by omega)) (fun c21 => ?_)
    refine g_iconst (pc := 24) dX4_load_24 ?_
    refine g_iret (pc := 25) rfl dX4_load_25 (fun h => h) ?_
    exact df_1 (k := 1) (by unfold xn_ld; rw [if_neg (by omega)]) (by decide) (nw rfl)
  · skip
    have hf : fe (n_tx ν) (n_tl ν) = -1 := by omega
    refine g_iconst (pc := 9) dX4_load_9 ?_
    refine g_goto (tgt := 14) (pc := 10) dX4_load_10 (by decide) ?_
    refine g_put (pc := 14) ft_X4_34 dX4_load_14 (c_79) (Nat.le_of_ble_eq_true rfl) (fun _ => rfl) (fun _ => rfl) (fun h => nomatch h) ?_
    refine G.eqw v_th ?_
    refine g_aload_n (i := 0) (pc := 17) dX4_load_17 rfl rfl ?_
    refine g_getf (pc := 18) f_X4_34 dX4_load_18 (c_79) rfl ?_
    refine G.eqS (v' := vI (0)) rfl ?_
    refine g_z_le (tgt := 26) (pc := 21) dX4_load_21 (by omega) (by decide) (fun c21 => ?_) (fun c21 => absurd c21 (by omega))
    refine g_aload_n (i := 0) (pc := 26) dX4_load_26 rfl rfl ?_
    refine g_v0 (pc := 27) okV_X4_renew rfl l_X4_31 dX4_load_27 (c_79) hc_4 (by decide) (by decide) (Nat.le_of_ble_eq_true rfl) (t_X4_renew (ν := n_setth (ν) (0))) (by rw [c_len, c_len]) ?_
    simp only [Option.toList, List.cons_append, List.nil_append]
    refine g_aload_n (i := 0) (pc := 30) dX4_load_30 rfl rfl ?_
    refine g_iconst (pc := 31) dX4_load_31 ?_
    refine g_put (pc := 32) ft_X4_154 dX4_load_32 (c_79) (Nat.le_of_ble_eq_true rfl) (fun _ => rfl) (fun _ => rfl) (fun h => nomatch h) ?_
    refine G.eqw v_re ?_
    refine g_aload_n (i := 0) (pc := 35) dX4_load_35 rfl rfl ?_
    refine g_getf (pc := 36) f_X4_25 dX4_load_36 (c_79) rfl ?_
    refine g_iconst (pc := 39) dX4_load_39 ?_
    refine g_iconst (pc := 40) dX4_load_40 ?_
    refine g_iast (pc := 41) dX4_load_41 (c_85) (by omega) ?_
    refine G.eqw v_sv ?_
    refine g_aload_n (i := 0) (pc := 42) dX4_load_42 rfl rfl ?_
    refine g_getf (pc := 43) f_X4_25 dX4_load_43 (c_79) rfl ?_
    refine g_iconst (pc := 46) dX4_load_46 ?_
    refine g_iconst (pc := 47) dX4_load_47 ?_
    refine g_iast (pc := 48) dX4_load_48 (c_85) (by omega) ?_
    refine G.eqw v_sv ?_
    refine g_iconst (pc := 49) dX4_load_49 ?_
    refine g_istore_n (i := 1) (pc := 50) dX4_load_50 rfl (by decide) rfl ?_
    simp only [List.set_cons_succ, List.set_cons_zero]
    refine g_iconst (pc := 51) dX4_load_51 ?_
    refine g_istore_n (i := 2) (pc := 52) dX4_load_52 rfl (by decide) rfl ?_
    simp only [List.set_cons_succ, List.set_cons_zero]
    have h1n : 1 ≤ n_tl ν := by
      have q := (st_sc hf).1
      unfold sn at q
      split at q <;> omega
    refine G.eqw (w' := cW κ (dE (n_setst (n_setsv (n_setre (n_setst (n_setth (ν) (0)) (s_new)) (0)) (va_up (va_up (n_sv ν) 0 0) 1 0)) (ldS (n_tx ν) (n_tl ν) (1 - 1)).1)) o) (nw rfl) ?_
    refine G.eqL (L' := [some (vR 79), some (vI (ldS (n_tx ν) (n_tl ν) (1 - 1)).2), some (vI ((1 : Nat) : Int))]) rfl ?_
    refine lp_st (P := fun b => (1 ≤ b) → SPc (n_tx ν) (n_tl ν) b → G M_X4_load none al al 53 [some (vR 79), some (vI (ldS (n_tx ν) (n_tl ν) (b - 1)).2), some (vI b)] [] (cW κ (dE (n_setst (n_setsv (n_setre (n_setst (n_setth (ν) (0)) (s_new)) (0)) (va_up (va_up (n_sv ν) 0 0) 1 0)) (ldS (n_tx ν) (n_tl ν) (b - 1)).1)) o) 0 0 (dt (some (vI (nV (xn_ld ν) ((ldS (n_tx ν) (n_tl ν) (n_tl ν - 1).toNat).2)))) (cW κ (dE (nR ν (xn_ld ν) (n_setsv (n_setre (n_setst ν (ldS (n_tx ν) (n_tl ν) (n_tl ν - 1).toNat).1) 0) (va_up (va_up (n_sv ν) 0 0) 1 0)))) o))) (n_tl ν).toNat ?_ 1 (by omega) (Nat.le_refl 1) (sp_1 _ _)
    · intro b hb ih hb1 hS
      have hi := inv_ldS (n_tx ν) (n_tl ν) (b - 1)
      have hl9 := ldS_rng (n_tx ν) (n_tl ν) (b - 1)
      show G _ _ _ _ _ _ _ _ _ _ _
      refine g_iload_n (i := 2) (pc := 53) dX4_load_53 rfl rfl ?_
      refine g_aload_n (i := 0) (pc := 54) dX4_load_54 rfl rfl ?_
      refine g_getf (pc := 55) f_X4_124 dX4_load_55 (c_79) rfl ?_
      refine G.eqS (v' := vI ((n_tl ν))) rfl ?_
      refine g_c_ge (tgt := 88) (pc := 58) dX4_load_58 (by omega) (by decide) (fun c58 => ?_) (fun c58 => ?_)
      · skip
        refine g_iload_n (i := 1) (pc := 88) dX4_load_88 rfl rfl ?_
        refine g_iret (pc := 89) rfl dX4_load_89 (fun h => h) ?_
        have e9 : (n_tl ν - 1).toNat = b - 1 := by omega
        exact df_0 (by unfold xn_ld; rw [if_pos (by omega)]) (by rw [e9]) (nw (by rw [e9]; rfl))
      · skip
        have h_d := st_let hf hS (by omega)
        have hr9 := db_rng (sn (n_tx ν) (n_tl ν) (b : Int))
        have hD9 := st_dig hf hS (by omega) (db (sn (n_tx ν) (n_tl ν) (b : Int))).toNat (by omega)
        have h_ok : ∀ i : Nat, 1 ≤ i → (i : Int) ≤ db (sn (n_tx ν) (n_tl ν) (b : Int)) → dg (n_tx ν) (n_tl ν) ((b : Int) + i) ≠ -1 := fun i q1 q2 => hD9.2.2 i q1 (by omega)
        refine g_iload_n (i := 1) (pc := 61) dX4_load_61 rfl rfl ?_
        refine g_aload_n (i := 0) (pc := 62) dX4_load_62 rfl rfl ?_
        refine g_iload_n (i := 2) (pc := 63) dX4_load_63 rfl rfl ?_
        refine g_v1 (pc := 64) okV_X4_commandAt rfl l_X4_157 dX4_load_64 (c_79) hc_4 (by decide) (by decide) (Nat.le_of_ble_eq_true rfl) (t_X4_commandAt (ν := n_setst (n_setsv (n_setre (n_setst (n_setth (ν) (0)) (s_new)) (0)) (va_up (va_up (n_sv ν) 0 0) 1 0)) ((ldS (n_tx ν) (n_tl ν) (b - 1)).1)) hi ht hx (b := (b : Int)) (show 0 ≤ (b : Int) ∧ (b : Int) < n_tl ν by omega) h_d h_ok) (by rw [c_len, c_len]) ?_
        simp only [Option.toList, List.cons_append, List.nil_append]
        refine G.eqw (w' := cW κ (dE (n_setst (n_setst (n_setsv (n_setre (n_setst (n_setth (ν) (0)) (s_new)) (0)) (va_up (va_up (n_sv ν) 0 0) 1 0)) ((ldS (n_tx ν) (n_tl ν) (b - 1)).1)) (tS ((ldS (n_tx ν) (n_tl ν) (b - 1)).1) (n_tx ν) (n_tl ν) ((b : Int))))) o) rfl ?_
        refine G.eqS (v' := vI (b2 (tV ((ldS (n_tx ν) (n_tl ν) (b - 1)).1) (n_tx ν) (n_tl ν) ((b : Int))))) rfl ?_
        have bb := b2_rng (tV ((ldS (n_tx ν) (n_tl ν) (b - 1)).1) (n_tx ν) (n_tl ν) ((b : Int)))
        refine g_z_eq (tgt := 74) (pc := 67) dX4_load_67 (by omega) (by decide) (fun c67 => ?_) (fun c67 => ?_)
        · skip
          refine g_iconst (pc := 74) dX4_load_74 ?_
          refine g_iadd (pc := 75) dX4_load_75 ?_
          refine g_istore_n (i := 1) (pc := 76) dX4_load_76 rfl (by decide) rfl ?_
          simp only [List.set_cons_succ, List.set_cons_zero]
          refine g_iload_n (i := 2) (pc := 77) dX4_load_77 rfl rfl ?_
          refine g_aload_n (i := 0) (pc := 78) dX4_load_78 rfl rfl ?_
          refine g_iload_n (i := 2) (pc := 79) dX4_load_79 rfl rfl ?_
          refine g_v1 (pc := 80) okV_X4_lengthAt rfl l_X4_136 dX4_load_80 (c_79) hc_4 (by decide) (by decide) (Nat.le_of_ble_eq_true rfl) (t_X4_lengthAt (ν := n_setst (n_setst (n_setsv (n_setre (n_setst (n_setth (ν) (0)) (s_new)) (0)) (va_up (va_up (n_sv ν) 0 0) 1 0)) ((ldS (n_tx ν) (n_tl ν) (b - 1)).1)) (tS ((ldS (n_tx ν) (n_tl ν) (b - 1)).1) (n_tx ν) (n_tl ν) ((b : Int)))) ht hx (b := (b : Int)) (show 0 ≤ (b : Int) ∧ (b : Int) < n_tl ν by omega) h_d) rfl ?_
          simp only [Option.toList, List.cons_append, List.nil_append]
          refine G.eqS (v' := vI (db (sn (n_tx ν) (n_tl ν) ((b : Int))) + 1)) rfl ?_
          refine g_iadd (pc := 83) dX4_load_83 ?_
          refine g_istore_n (i := 2) (pc := 84) dX4_load_84 rfl (by decide) rfl ?_
          simp only [List.set_cons_succ, List.set_cons_zero]
          refine g_goto (tgt := 53) (pc := 85) dX4_load_85 (by decide) ?_
          have hC := ld_cmd hf hS (by omega)
          refine G.eqw (w' := cW κ (dE (n_setst (n_setsv (n_setre (n_setst (n_setth (ν) (0)) (s_new)) (0)) (va_up (va_up (n_sv ν) 0 0) 1 0)) (ldS (n_tx ν) (n_tl ν) (b + (db (sn (n_tx ν) (n_tl ν) (b : Int))).toNat)).1)) o) (congrArg (fun z => cW κ (dE (n_setst (n_setsv (n_setre (n_setst (n_setth (ν) (0)) (s_new)) (0)) (va_up (va_up (n_sv ν) 0 0) 1 0)) z)) o) (by rw [hC])) ?_
          refine G.eqL (L' := [some (vR 79), some (vI (ldS (n_tx ν) (n_tl ν) (b + (db (sn (n_tx ν) (n_tl ν) (b : Int))).toNat)).2), some (vI ((b + ((db (sn (n_tx ν) (n_tl ν) (b : Int))).toNat + 1) : Nat) : Int))]) ?_ ?_
          · rw [hC, show ((b + ((db (sn (n_tx ν) (n_tl ν) (b : Int))).toNat + 1) : Nat) : Int) = (b : Int) + ((db (sn (n_tx ν) (n_tl ν) (b : Int))) + 1) by omega]
            dsimp only
            rw [if_neg (b2_0.mp (show b2 (tV (ldS (n_tx ν) (n_tl ν) (b - 1)).1 (n_tx ν) (n_tl ν) b) = 0 by omega))]
          · have h9 := ih (b + ((db (sn (n_tx ν) (n_tl ν) (b : Int))).toNat + 1)) (by omega) (by omega) (by omega) (sp_nx ((st_dig hf hS (by omega) (db (sn (n_tx ν) (n_tl ν) (b : Int))).toNat (by omega)).1.trans (by congr 2; omega)))
            rw [show b + ((db (sn (n_tx ν) (n_tl ν) (b : Int))).toNat + 1) - 1 = b + (db (sn (n_tx ν) (n_tl ν) (b : Int))).toNat by omega] at h9
            exact h9
        · skip
          refine g_iconst (pc := 70) dX4_load_70 ?_
          refine g_goto (tgt := 75) (pc := 71) dX4_load_71 (by decide) ?_
          refine g_iadd (pc := 75) dX4_load_75 ?_
          refine g_istore_n (i := 1) (pc := 76) dX4_load_76 rfl (by decide) rfl ?_
          simp only [List.set_cons_succ, List.set_cons_zero]
          refine g_iload_n (i := 2) (pc := 77) dX4_load_77 rfl rfl ?_
          refine g_aload_n (i := 0) (pc := 78) dX4_load_78 rfl rfl ?_
          refine g_iload_n (i := 2) (pc := 79) dX4_load_79 rfl rfl ?_
          refine g_v1 (pc := 80) okV_X4_lengthAt rfl l_X4_136 dX4_load_80 (c_79) hc_4 (by decide) (by decide) (Nat.le_of_ble_eq_true rfl) (t_X4_lengthAt (ν := n_setst (n_setst (n_setsv (n_setre (n_setst (n_setth (ν) (0)) (s_new)) (0)) (va_up (va_up (n_sv ν) 0 0) 1 0)) ((ldS (n_tx ν) (n_tl ν) (b - 1)).1)) (tS ((ldS (n_tx ν) (n_tl ν) (b - 1)).1) (n_tx ν) (n_tl ν) ((b : Int)))) ht hx (b := (b : Int)) (show 0 ≤ (b : Int) ∧ (b : Int) < n_tl ν by omega) h_d) rfl ?_
          simp only [Option.toList, List.cons_append, List.nil_append]
          refine G.eqS (v' := vI (db (sn (n_tx ν) (n_tl ν) ((b : Int))) + 1)) rfl ?_
          refine g_iadd (pc := 83) dX4_load_83 ?_
          refine g_istore_n (i := 2) (pc := 84) dX4_load_84 rfl (by decide) rfl ?_
          simp only [List.set_cons_succ, List.set_cons_zero]
          refine g_goto (tgt := 53) (pc := 85) dX4_load_85 (by decide) ?_
          have hC := ld_cmd hf hS (by omega)
          refine G.eqw (w' := cW κ (dE (n_setst (n_setsv (n_setre (n_setst (n_setth (ν) (0)) (s_new)) (0)) (va_up (va_up (n_sv ν) 0 0) 1 0)) (ldS (n_tx ν) (n_tl ν) (b + (db (sn (n_tx ν) (n_tl ν) (b : Int))).toNat)).1)) o) (congrArg (fun z => cW κ (dE (n_setst (n_setsv (n_setre (n_setst (n_setth (ν) (0)) (s_new)) (0)) (va_up (va_up (n_sv ν) 0 0) 1 0)) z)) o) (by rw [hC])) ?_
          refine G.eqL (L' := [some (vR 79), some (vI (ldS (n_tx ν) (n_tl ν) (b + (db (sn (n_tx ν) (n_tl ν) (b : Int))).toNat)).2), some (vI ((b + ((db (sn (n_tx ν) (n_tl ν) (b : Int))).toNat + 1) : Nat) : Int))]) ?_ ?_
          · rw [hC, show ((b + ((db (sn (n_tx ν) (n_tl ν) (b : Int))).toNat + 1) : Nat) : Int) = (b : Int) + ((db (sn (n_tx ν) (n_tl ν) (b : Int))) + 1) by omega]
            dsimp only
            rw [if_pos (b2_1.mp (show b2 (tV (ldS (n_tx ν) (n_tl ν) (b - 1)).1 (n_tx ν) (n_tl ν) b) = 1 by omega))]
          · have h9 := ih (b + ((db (sn (n_tx ν) (n_tl ν) (b : Int))).toNat + 1)) (by omega) (by omega) (by omega) (sp_nx ((st_dig hf hS (by omega) (db (sn (n_tx ν) (n_tl ν) (b : Int))).toNat (by omega)).1.trans (by congr 2; omega)))
            rw [show b + ((db (sn (n_tx ν) (n_tl ν) (b : Int))).toNat + 1) - 1 = b + (db (sn (n_tx ν) (n_tl ν) (b : Int))).toNat by omega] at h9
            exact h9
end MT9
