/-! THE CLASS'S OBJECT AND THE REFERENCE'S HOLD THE SAME -/
section MR
/-- where the j-th remembered state lies -/
def rx (κ : KT) (j : Nat) : Nat := 2 + ((k_nx κ + 14 - k_sz κ + j) % 14).toNat
def Rel (κ : KT) (ν : NT) : Prop := n_st ν = k_ms κ 0 ∧ n_re ν = k_sz κ ∧ (∀ j : Nat, (j : Int) < k_sz κ → n_hi ν j = k_ms κ (rx κ j)) ∧ (n_sv ν = k_fl κ ∧ ∀ k : Nat, 2 ≤ k → k_fl κ k = 0) ∧ (∀ k : Nat, k < 2 → k_fl κ k = 1 → n_sl ν k = k_ms κ (16 + k)) ∧ n_tx ν = k_sg κ ∧ n_tl ν = k_ln κ
theorem ninv_of {κ : KT} {ν : NT} (hK : KInv κ) (h : Rel κ ν) : NInv ν := by
  obtain ⟨k1, k2, k3, k4, k5, k6⟩ := hK
  obtain ⟨h1, h2, h3, ⟨h4, h5⟩, h6, h7, h8⟩ := h
  refine ⟨?_, ?_, fun j hj => ?_, fun k => ?_, fun k hk => ?_, fun k => ?_, ?_⟩
  · rw [h1]; exact k3 0
  · rw [h2]; exact k5
  · rw [h2] at hj; rw [h3 j hj]; exact k3 _
  · rw [h4]; exact k6 k
  · rw [h4] at hk
    rcases Nat.lt_or_ge k 2 with q | q
    · rw [h6 k q hk]; exact k3 _
    · have := h5 k q; omega
  · rw [h7]; exact k1 k
  · rw [h8]; exact k2
theorem rel_th {κ : KT} {ν : NT} {c : Int} (h : Rel κ ν) : Rel κ (n_setth ν c) := h
theorem rel_ke {κ : KT} {ν : NT} {σ : SG} (h : Rel κ ν) : Rel κ (n_setke ν σ) := h
theorem rel_sk {κ : KT} {ν : NT} {σ : SG} (h : Rel κ ν) : Rel κ (n_setsk ν σ) := h
theorem rel_m1 {κ : KT} {ν : NT} {τ : SG} (h : Rel κ ν) : Rel (k_setms κ 1 τ) ν := by
  obtain ⟨h1, h2, h3, h4, h6, h7⟩ := h
  refine ⟨?_, h2, fun j hj => ?_, h4, fun k hk hf => ?_, h7⟩
  · rw [ms_ne κ τ (by decide)]; exact h1
  · rw [ms_ne κ τ (by unfold rx; omega)]; exact h3 j hj
  · rw [ms_ne κ τ (by omega)]; exact h6 k hk hf
theorem rel_m0 {κ : KT} {ν : NT} {σ : SG} (h : Rel κ ν) : Rel (k_setms κ 0 σ) (n_setst ν σ) := by
  obtain ⟨h1, h2, h3, h4, h6, h7⟩ := h
  refine ⟨?_, h2, fun j hj => ?_, h4, fun k hk hf => ?_, h7⟩
  · rw [ms_at]; rfl
  · rw [ms_ne κ σ (by unfold rx; omega)]; exact h3 j hj
  · rw [ms_ne κ σ (by omega)]; exact h6 k hk hf
theorem rel_rem {κ : KT} {ν : NT} (hK : KInv κ) (h : Rel κ ν) : Rel (k_rem κ) (n_rem ν) := by
  obtain ⟨k1, k2, k3, k4, k5, k6⟩ := hK
  obtain ⟨h1, h2, h3, h4, h6, h7⟩ := h
  have e1 : ∀ i, k_ms (k_rem κ) i = va_up (k_ms κ) (2 + (k_nx κ).toNat) (k_ms κ 0) i := fun i => rfl
  have e2 : k_nx (k_rem κ) = (k_nx κ + 1) % 14 := rfl
  have e3 : k_sz (k_rem κ) = if k_sz κ < 14 then k_sz κ + 1 else 14 := rfl
  have e5 : n_hi (n_rem ν) = rmh ν := rfl
  have e6 : n_re (n_rem ν) = rmr ν := rfl
  refine ⟨?_, ?_, fun j hj => ?_, h4, fun k hk hf => ?_, h7⟩
  · rw [rem_0]; exact h1
  · rw [e6, e3]
    unfold rmr
    rw [h2]
    (repeat' split) <;> omega
  · rw [e5, e1]
    rw [e3] at hj
    unfold rx
    rw [e2, e3]
    unfold rmh
    by_cases q : k_sz κ = 14
    · rw [if_pos (by omega)]
      rw [if_neg (by omega)] at hj ⊢
      by_cases z : j = 13
      · rw [z, up_s, h1, show 2 + (((k_nx κ + 1) % 14 + 14 - 14 + ((13 : Nat) : Int)) % 14).toNat = 2 + (k_nx κ).toNat by omega, up_s]
      · rw [up_n z, up_n (by omega)]
        unfold sh1
        rw [if_pos (by omega), h3 (j + 1) (by omega)]
        unfold rx
        rw [q]
        congr 1
        omega
    · rw [if_neg (by omega)]
      rw [if_pos (by omega)] at hj ⊢
      by_cases z : (j : Int) = k_sz κ
      · rw [show j = (n_re ν).toNat by omega, up_s, h1, show 2 + (((k_nx κ + 1) % 14 + 14 - (k_sz κ + 1) + (((n_re ν).toNat : Nat) : Int)) % 14).toNat = 2 + (k_nx κ).toNat by omega, up_s]
      · rw [up_n (by omega), up_n (by omega), h3 j (by omega)]
        unfold rx
        congr 1
        omega
  · have hf' : k_fl κ k = 1 := hf
    rw [e1, up_n (by omega)]
    exact h6 k hk hf'
theorem rel_act {κ : KT} {ν : NT} {σ : SG} (hK : KInv κ) (h : Rel κ ν) : Rel (k_setms (k_rem κ) 0 σ) (n_setst (n_rem ν) σ) := rel_m0 (rel_rem hK h)
theorem rel_tak {κ : KT} {ν : NT} (hK : KInv κ) (h : Rel κ ν) (hz : 0 < k_sz κ) : Rel (k_tak κ) (n_setst (n_setre ν (n_re ν - 1)) (n_hi ν (n_re ν - 1).toNat)) := by
  obtain ⟨k1, k2, k3, k4, k5, k6⟩ := hK
  obtain ⟨h1, h2, h3, h4, h6, h7⟩ := h
  have e0 : k_tak κ = k_setms (k_setsz (k_setnx κ (k_prv κ)) (k_sz κ - 1)) 0 (k_ms κ (2 + (k_prv κ).toNat)) := by unfold k_tak; rw [if_pos hz]
  rw [e0]
  have hp : k_prv κ = (k_nx κ + 13) % 14 := rfl
  have e1 : n_hi ν (n_re ν - 1).toNat = k_ms κ (2 + (k_prv κ).toNat) := by
    rw [h3 _ (by omega)]
    unfold rx
    congr 1
    omega
  rw [e1]
  refine rel_m0 (κ := k_setsz (k_setnx κ (k_prv κ)) (k_sz κ - 1)) (ν := n_setre ν (n_re ν - 1)) ⟨h1, ?_, fun j hj => ?_, h4, h6, h7⟩
  · show n_re ν - 1 = k_sz κ - 1
    rw [h2]
  · have hj' : (j : Int) < k_sz κ - 1 := hj
    show n_hi ν j = k_ms κ (2 + ((k_prv κ + 14 - (k_sz κ - 1) + j) % 14).toNat)
    rw [h3 j (by omega)]
    unfold rx
    congr 1
    omega
theorem rel_sv {κ : KT} {ν : NT} {x : Int} (h : Rel κ ν) (hx : 0 ≤ x ∧ x < 2) : Rel (xk_sv κ x) (n_setsv (n_setsl ν (va_up (n_sl ν) x.toNat (n_st ν))) (va_up (n_sv ν) x.toNat 1)) := by
  obtain ⟨h1, h2, h3, ⟨h4, h5⟩, h6, h7⟩ := h
  have e1 : ∀ i, k_ms (xk_sv κ x) i = va_up (k_ms κ) (16 + x.toNat) (k_ms κ 0) i := fun i => rfl
  have e2 : k_fl (xk_sv κ x) = va_up (k_fl κ) x.toNat 1 := rfl
  refine ⟨?_, h2, fun j hj => ?_, ⟨?_, fun k hk => ?_⟩, fun k hk hf => ?_, h7⟩
  · rw [e1, up_n (by omega)]; exact h1
  · have hj' : (j : Int) < k_sz κ := hj
    rw [e1]
    show n_hi ν j = va_up (k_ms κ) (16 + x.toNat) (k_ms κ 0) (rx κ j)
    rw [up_n (by unfold rx; omega)]
    exact h3 j hj'
  · rw [e2, ← h4]; rfl
  · rw [e2, up_n (by omega)]; exact h5 k hk
  · rw [e1]
    show va_up (n_sl ν) x.toNat (n_st ν) k = _
    by_cases q : k = x.toNat
    · rw [q, up_s, up_s]; exact h1
    · rw [up_n q, up_n (by omega)]
      rw [e2, up_n q] at hf
      exact h6 k hk hf
theorem rel_rs {κ : KT} {ν : NT} {x : Int} (hK : KInv κ) (h : Rel κ ν) (hx : 0 ≤ x ∧ x < 2) (hf : k_fl κ x.toNat ≠ 0) : Rel (xk_rs κ x) (n_setre (n_setst ν (n_sl ν x.toNat)) 0) := by
  have hs : n_sl ν x.toNat = k_ms κ (16 + x.toNat) := h.2.2.2.2.1 x.toNat (by omega) (by have := hK.2.2.2.2.2 x.toNat; omega)
  obtain ⟨g1, g2, g3, g4, g6, g7⟩ := rel_m0 (σ := n_sl ν x.toNat) h
  unfold xk_rs
  rw [← hs]
  exact ⟨g1, rfl, fun j hj => absurd hj (show ¬ (j : Int) < 0 by omega), g4, g6, g7⟩
theorem rel_app {κ : KT} {ν : NT} {x : Int} (h : Rel κ ν) : Rel (xk_app κ x) (n_settl (n_settx ν (va_up (n_tx ν) (n_tl ν).toNat x)) (n_tl ν + 1)) := by
  obtain ⟨h1, h2, h3, h4, h6, h7, h8⟩ := h
  refine ⟨h1, h2, h3, h4, h6, ?_, ?_⟩
  · show va_up (n_tx ν) (n_tl ν).toNat x = va_up (k_sg κ) (k_ln κ).toNat x
    rw [h7, h8]
  · show n_tl ν + 1 = k_ln κ + 1
    rw [h8]
theorem rel_cl {κ : KT} {ν : NT} (h : Rel κ ν) : Rel (k_setln κ 0) (n_settl ν 0) := by
  obtain ⟨h1, h2, h3, h4, h6, h7, h8⟩ := h
  exact ⟨h1, h2, h3, h4, h6, h7, rfl⟩
theorem rel_ld {κ : KT} {ν : NT} {σ : SG} (h : Rel κ ν) : Rel (k_setms (xk_l0 κ) 0 σ) (n_setsv (n_setre (n_setst ν σ) 0) (va_up (va_up (n_sv ν) 0 0) 1 0)) := by
  obtain ⟨h1, h2, h3, ⟨h4, h5⟩, h6, h7⟩ := h
  have e2 : k_fl (k_setms (xk_l0 κ) 0 σ) = va_up (va_up (k_fl κ) 0 0) 1 0 := rfl
  refine ⟨?_, rfl, fun j hj => absurd hj (show ¬ (j : Int) < 0 by omega), ⟨?_, fun k hk => ?_⟩, fun k hk hf => ?_, h7⟩
  · rw [ms_at]; rfl
  · rw [e2, ← h4]; rfl
  · rw [e2, up_n (by omega), up_n (by omega)]; exact h5 k hk
  · exfalso
    rw [e2] at hf
    rcases (by omega : k = 0 ∨ k = 1) with q | q
    · rw [q, up_n (by decide), up_s] at hf
      omega
    · rw [q, up_s] at hf
      omega
theorem rel_00 : Rel k_00 n_00 := ⟨rfl, rfl, fun j hj => absurd hj (show ¬ (j : Int) < 0 by omega), ⟨rfl, fun _ _ => rfl⟩, fun k _ hf => absurd hf (show ¬ (0 : Int) = 1 by decide), rfl, rfl⟩
/-- the reference's answers, where they are known -/
theorem nr_0 {M : MT} {al : Bool} {as : List MV} {w : List MC} {κ : KT} {ν ν1 : NT} {o : Nat → Int} {c v v' : Int} (h : GM M al as w 0 0 (dt (some (vI (nV c v))) (cW κ (dE (nR ν c ν1)) o))) (hc : c = 0) (hv : v = v') : GM M al as w 0 0 (dt (some (vI v')) (cW κ (dE (n_setth ν1 0)) o)) := by
  unfold nV nR at h
  rw [if_pos hc, if_pos hc, hv] at h
  exact h
theorem nr_1 {M : MT} {al : Bool} {as : List MV} {w : List MC} {κ : KT} {ν ν1 : NT} {o : Nat → Int} {c v k : Int} (h : GM M al as w 0 0 (dt (some (vI (nV c v))) (cW κ (dE (nR ν c ν1)) o))) (hc : c = k) (hk : k ≠ 0) : GM M al as w 0 0 (dt (some (vI 0)) (cW κ (dE (n_setth ν k)) o)) := by
  subst hc
  unfold nV nR at h
  rw [if_neg hk, if_neg hk] at h
  exact h
theorem b_and31 (x : Int) : 0 ≤ b_and x 31 ∧ b_and x 31 ≤ 31 := by
  unfold b_and
  have h : (Int32.ofInt x &&& Int32.ofInt 31).toBitVec.toNat ≤ 31 := by
    rw [Int32.toBitVec_and, BitVec.toNat_and]
    exact Nat.and_le_right
  generalize Int32.ofInt x &&& Int32.ofInt 31 = z at h
  have h2 : z.toInt = (z.toBitVec.toNat : Int) := by
    show z.toBitVec.toInt = _
    rw [BitVec.toInt_eq_toNat_of_lt (by show 2 * z.toBitVec.toNat < 2 ^ 32; omega)]
  rw [h2]
  omega
theorem orL_rng (x y : Int) : -9223372036854775808 ≤ b_orL x y ∧ b_orL x y < 9223372036854775808 := by
  have h1 := Int64.minValue_le_toInt (Int64.ofInt x ||| Int64.ofInt y)
  have h2 := Int64.toInt_lt (Int64.ofInt x ||| Int64.ofInt y)
  unfold b_orL
  constructor
  · have h3 : Int64.minValue.toInt = -9223372036854775808 := by decide
    omega
  · omega
theorem bcmp_0 (x : Int) : b_cmp x x = 0 := ((b_cmp_s x x).2.1).mpr rfl
end MR
