/-! WHAT THE METHODS ANSWER, of a state -/
section FU
theorem dt_i {z z' : Int} {w w' : List MC} (h : z = z') (hw : w = w') : dt (some (vI z')) w' (.inl (some (vI z))) w := ⟨by rw [h], hw⟩
theorem dt_v {w w' : List MC} (hw : w = w') : dt none w' (.inl none) w := ⟨rfl, hw⟩
def b2 (b : Bool) : Int := if b = true then 1 else 0
theorem b2_rng (b : Bool) : b2 b = 0 ∨ b2 b = 1 := by cases b <;> simp [b2]
theorem b2_t {b : Bool} (h : b = true) : b2 b = 1 := by rw [h]; rfl
theorem b2_f {b : Bool} (h : ¬ b = true) : b2 b = 0 := by unfold b2; rw [if_neg h]
theorem b2_1 {b : Bool} : b2 b = 1 ↔ b = true := by cases b <;> simp [b2]
theorem b2_0 {b : Bool} : b2 b = 0 ↔ ¬ b = true := by cases b <;> simp [b2]
def hasP (σ : SG) (p : Int) : Bool := decide (0 ≤ p ∧ p < 4 ∧ s_ex σ p.toNat = 1)
def hasPg (σ : SG) (p v : Int) : Bool := hasP σ p && decide (0 ≤ v ∧ v < 16)
def hasGr (σ : SG) (p g : Int) : Bool := hasP σ p && decide (0 ≤ g ∧ g < 4)
def fo (σ : SG) (p v : Int) : Int := if 0 ≤ p ∧ p < 4 ∧ 0 ≤ v ∧ v < 16 then s_fr σ (16 * p + v).toNat else -1
theorem fo_rng {σ : SG} (hi : Inv σ) (p v : Int) : -1 ≤ fo σ p v ∧ fo σ p v < 32 := by
  unfold fo
  split
  · exact hi.1 _
  · omega
def vo (σ : SG) (p v : Int) : Int := if fo σ p v = -1 then -1 else s_va σ (fo σ p v).toNat
theorem vo_rng {σ : SG} (hi : Inv σ) (p v : Int) : -1 ≤ vo σ p v ∧ vo σ p v < 100 := by
  unfold vo
  split
  · omega
  · have := hi.2.2.2.2.1 (fo σ p v).toNat
    omega
def uo (σ : SG) (p v : Int) : Int := if fo σ p v = -1 then -1 else uses (s_fr σ) (fo σ p v)
theorem uo_rng (σ : SG) (p v : Int) : -1 ≤ uo σ p v ∧ uo σ p v ≤ 64 := by
  unfold uo
  split
  · omega
  · have := uses_rng (s_fr σ) (fo σ p v)
    omega
def big (σ : SG) (p g : Int) : Bool := decide (0 ≤ p ∧ p < 4 ∧ 0 ≤ g ∧ g < 4 ∧ s_bg σ (4 * p + g).toNat = 1)
def ro (σ : SG) (p g : Int) : Int := if big σ p g = true then (fo σ p (4 * g)).tdiv 4 else -1
theorem ro_rng {σ : SG} (hi : Inv σ) (p g : Int) : -1 ≤ ro σ p g ∧ ro σ p g < 32 := by
  unfold ro
  split
  · have := fo_rng hi p (4 * g)
    generalize fo σ p (4 * g) = x at this ⊢
    rcases (by omega : x = -1 ∨ 0 ≤ x) with rfl | h
    · decide
    · rw [Int.tdiv_eq_ediv_of_nonneg h]; omega
  · omega
def sh (σ : SG) (f : Int) : Bool := decide (f ≠ -1 ∧ 1 < uses (s_fr σ) f)
def pf (σ : SG) (p g : Int) : Int := ct (fun i => decide (fo σ p (4 * g + i) ≠ -1)) 4
def ps (σ : SG) (p g : Int) : Int := ct (fun i => sh σ (fo σ p (4 * g + i))) 4
def pz (σ : SG) (p g : Int) : Int := ct (fun i => decide (vo σ p (4 * g + i) = 0)) 4
def rf (σ : SG) (r : Int) : Bool := decide (ct (fun i => decide (0 < uses (s_fr σ) (4 * r + i))) 4 = 0)
def lfr (σ : SG) : Int := ff (fun r => rf σ r) 8
def lsf1 (σ : SG) : Int := ff (fun f => decide (uses (s_fr σ) f = 0) && !(rf σ ((f : Int).tdiv 4))) 32
def lsf0 (σ : SG) : Int := ff (fun f => decide (uses (s_fr σ) f = 0)) 32
def lsf (σ : SG) : Int := if lsf1 σ = -1 then lsf0 σ else lsf1 σ
def nff (σ : SG) : Int := ct (fun f => decide (uses (s_fr σ) f = 0)) 32
def nsf (σ : SG) : Int := ct (fun f => sh σ f) 32
def nfr (σ : SG) : Int := ct (fun r => rf σ r) 8
def nbg (σ : SG) : Int := ct (fun k => decide (s_bg σ k = 1)) 16
def brun (σ : SG) (r : Int) : Int := ct (fun k => decide (ro σ ((k / 4 : Nat) : Int) ((k % 4 : Nat) : Int) = r)) 16
def wid (σ : SG) (p g : Int) : Bool := big σ p g && decide (0 < ps σ p g) && decide (brun σ (ro σ p g) = 1)
def nwid (σ : SG) : Int := ct (fun k => wid σ ((k / 4 : Nat) : Int) ((k % 4 : Nat) : Int)) 16
def uat (σ : SG) (f i : Int) : Int :=
  let k := ff (fun k => decide (s_fr σ k = f) && decide (ct (fun j => decide (s_fr σ j = f)) k = i)) 64
  if k = -1 then -1 else 100 * (k / 16) + k % 16
def oc (σ : SG) (p v : Int) : Int :=
  if hasPg σ p v = true then
    if fo σ p v ≠ -1 ∧ ¬ sh σ (fo σ p v) = true then 0 else if nff σ = 0 then -1 else if fo σ p v = -1 then 1 else if big σ p (v.tdiv 4) = true then 3 else 2
  else -1
theorem oc_rng (σ : SG) (p v : Int) : -1 ≤ oc σ p v ∧ oc σ p v ≤ 3 := by
  unfold oc
  (repeat' split) <;> omega
theorem pf_rng (σ : SG) (p g : Int) : 0 ≤ pf σ p g ∧ pf σ p g ≤ 4 := ct_rng _ 4
theorem ps_rng (σ : SG) (p g : Int) : 0 ≤ ps σ p g ∧ ps σ p g ≤ 4 := ct_rng _ 4
theorem pz_rng (σ : SG) (p g : Int) : 0 ≤ pz σ p g ∧ pz σ p g ≤ 4 := ct_rng _ 4
theorem lfr_rng (σ : SG) : -1 ≤ lfr σ ∧ lfr σ < 8 := ff_rng _ 8
theorem nff_rng (σ : SG) : 0 ≤ nff σ ∧ nff σ ≤ 32 := ct_rng _ 32
theorem nsf_rng (σ : SG) : 0 ≤ nsf σ ∧ nsf σ ≤ 32 := ct_rng _ 32
theorem nfr_rng (σ : SG) : 0 ≤ nfr σ ∧ nfr σ ≤ 8 := ct_rng _ 8
theorem nbg_rng (σ : SG) : 0 ≤ nbg σ ∧ nbg σ ≤ 16 := ct_rng _ 16
theorem brun_rng (σ : SG) (r : Int) : 0 ≤ brun σ r ∧ brun σ r ≤ 16 := ct_rng _ 16
theorem nwid_rng (σ : SG) : 0 ≤ nwid σ ∧ nwid σ ≤ 16 := ct_rng _ 16
theorem lsf_rng (σ : SG) : -1 ≤ lsf σ ∧ lsf σ < 32 := by
  have h1 := ff_rng (fun f => decide (uses (s_fr σ) f = 0) && !(rf σ ((f : Int).tdiv 4))) 32
  have h2 := ff_rng (fun f => decide (uses (s_fr σ) f = 0)) 32
  unfold lsf lsf1 lsf0
  split <;> omega
/-! bits -/
theorem bsum_rng {f : Nat → Int} (h : ∀ k, f k = 0 ∨ f k = 1) : ∀ n : Nat, 0 ≤ bsum f n ∧ bsum f n < 2 ^ n
  | 0 => by simp [bsum]
  | n + 1 => by
    have h1 := bsum_rng h n
    have e : (2 : Int) ^ (n + 1) = 2 ^ n * 2 := Int.pow_succ 2 n
    rw [bsum, e]
    rcases h n with q | q <;> rw [q] <;> omega
/-- the same as a natural number -/
def bN (f : Nat → Int) : Nat → Nat
  | 0 => 0
  | n + 1 => bN f n + (if f n = 1 then 2 ^ n else 0)
theorem bN_eq {f : Nat → Int} (h : ∀ k, f k = 0 ∨ f k = 1) : ∀ n : Nat, bsum f n = (bN f n : Int)
  | 0 => rfl
  | n + 1 => by
    rw [bsum, bN, bN_eq h n]
    rcases h n with q | q
    · rw [q, if_neg (by decide)]; simp
    · rw [q, if_pos rfl]; simp
theorem bN_lt (f : Nat → Int) : ∀ n : Nat, bN f n < 2 ^ n
  | 0 => by simp [bN]
  | n + 1 => by
    have h1 := bN_lt f n
    have e : 2 ^ (n + 1) = 2 ^ n * 2 := Nat.pow_succ 2 n
    rw [bN, e]
    split <;> omega
theorem bN_bit (f : Nat → Int) (k : Nat) : ∀ n : Nat, (bN f n).testBit k = (decide (k < n) && decide (f k = 1))
  | 0 => by simp [bN]
  | n + 1 => by
    have ih := bN_bit f k n
    have h1 := bN_lt f n
    rw [bN]
    by_cases h : f n = 1
    · rw [if_pos h, Nat.add_comm]
      rcases Nat.lt_trichotomy k n with q | q | q
      · rw [Nat.testBit_two_pow_add_gt q, ih]
        simp [q, Nat.lt_succ_of_lt q]
      · subst q
        rw [Nat.testBit_two_pow_add_eq, ih]
        simp [h]
      · rw [Nat.testBit_lt_two_pow (Nat.lt_of_lt_of_le (show 2 ^ n + bN f n < 2 ^ (n + 1) by rw [Nat.pow_succ]; omega) (Nat.pow_le_pow_right (by decide) (by omega)))]
        simp; omega
    · rw [if_neg h, Nat.add_zero, ih]
      by_cases q : k = n
      · subst q; simp [h]
      · congr 1
        simp; omega
end FU
