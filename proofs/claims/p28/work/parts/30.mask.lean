/-! MASKS: 64 pages as the bits of a long -/
section MK
def pN (P : Nat → Bool) : Nat → Nat
  | 0 => 0
  | n + 1 => pN P n + (if P n = true then 2 ^ n else 0)
theorem pN_lt (P : Nat → Bool) : ∀ n : Nat, pN P n < 2 ^ n
  | 0 => by simp [pN]
  | n + 1 => by
    have h1 := pN_lt P n
    have e : 2 ^ (n + 1) = 2 ^ n * 2 := Nat.pow_succ 2 n
    rw [pN, e]
    split <;> omega
theorem pN_bit (P : Nat → Bool) (k : Nat) : ∀ n : Nat, (pN P n).testBit k = (decide (k < n) && P k)
  | 0 => by simp [pN]
  | n + 1 => by
    have ih := pN_bit P k n
    have h1 := pN_lt P n
    rw [pN]
    by_cases h : P n = true
    · rw [if_pos h, Nat.add_comm]
      rcases Nat.lt_trichotomy k n with q | q | q
      · rw [Nat.testBit_two_pow_add_gt q, ih]
        simp [q, Nat.lt_succ_of_lt q]
      · subst q
        rw [Nat.testBit_two_pow_add_eq, ih]
        simp [h]
      · rw [Nat.testBit_lt_two_pow (Nat.lt_of_lt_of_le (show 2 ^ n + pN P n < 2 ^ (n + 1) by rw [Nat.pow_succ]; omega) (Nat.pow_le_pow_right (by decide) (by omega)))]
        simp; omega
    · rw [if_neg h, Nat.add_zero, ih]
      by_cases q : k = n
      · subst q; simp [h]
      · congr 1
        simp; omega
theorem pN_zero {P : Nat → Bool} : ∀ {n : Nat}, pN P n = 0 ↔ ct P n = 0
  | 0 => ⟨fun _ => rfl, fun _ => rfl⟩
  | n + 1 => by
    have h1 := @pN_zero P n
    have h2 := ct_rng P n
    have h3 : 0 < 2 ^ n := Nat.pow_pos (by decide)
    rw [pN, ct]
    by_cases h : P n = true
    · rw [if_pos h, if_pos h]
      constructor <;> intro <;> omega
    · rw [if_neg h, if_neg h]
      constructor <;> intro <;> omega
/-- one bit alone -/
theorem pN_one {P : Nat → Bool} : ∀ {n : Nat}, pN P n ≠ 0 → (pN P n &&& (pN P n - 1) = 0 ↔ ct P n = 1)
  | 0, h => absurd rfl h
  | n + 1, h => by
    have ih := @pN_one P n
    have hz := @pN_zero P n
    have h1 := pN_lt P n
    have h2 := ct_rng P n
    have h3 : 0 < 2 ^ n := Nat.pow_pos (by decide)
    rw [pN] at h ⊢
    rw [ct]
    by_cases hp : P n = true
    · rw [if_pos hp] at h ⊢
      rw [if_pos hp]
      by_cases q : pN P n = 0
      · rw [q, Nat.zero_add]
        have h4 := hz.mp q
        refine ⟨fun _ => by omega, fun _ => ?_⟩
        apply Nat.eq_of_testBit_eq
        intro i
        rw [Nat.testBit_and, Nat.testBit_two_pow, Nat.testBit_two_pow_sub_one, Nat.zero_testBit]
        by_cases e : n = i
        · subst e; simp
        · simp [e]
      · have h4 : ct P n ≠ 0 := fun e => q (hz.mpr e)
        constructor
        · intro e
          have h5 : (pN P n + 2 ^ n).testBit n = true := by
            rw [Nat.add_comm, Nat.testBit_two_pow_add_eq, Nat.testBit_lt_two_pow h1]; rfl
          have h6 : (pN P n + 2 ^ n - 1).testBit n = true := by
            rw [show pN P n + 2 ^ n - 1 = 2 ^ n + (pN P n - 1) by omega, Nat.testBit_two_pow_add_eq, Nat.testBit_lt_two_pow (by omega)]; rfl
          have h7 : (pN P n + 2 ^ n &&& (pN P n + 2 ^ n - 1)).testBit n = true := by rw [Nat.testBit_and, h5, h6]; rfl
          rw [e, Nat.zero_testBit] at h7
          cases h7
        · intro e; omega
    · rw [if_neg hp, Nat.add_zero] at h ⊢
      rw [if_neg hp]
      rw [ih h]
      constructor <;> intro <;> omega
def pX (P : Nat → Bool) : Int64 := Int64.ofBitVec (BitVec.ofNat 64 (pN P 64))
/-- the long whose bits are the places with P -/
def pL (P : Nat → Bool) : Int := (pX P).toInt
theorem pL_of (P : Nat → Bool) : Int64.ofInt (pL P) = pX P := Int64.ofInt_toInt _
def y_bt (x : Int64) (i : Nat) : Bool := x.toBitVec.getLsbD i
theorem y_ext {x y : Int64} (h : ∀ i, i < 64 → y_bt x i = y_bt y i) : x = y := Int64.toBitVec_inj.mp (BitVec.eq_of_getLsbD_eq (fun i hi => h i hi))
theorem pX_bt (P : Nat → Bool) {i : Nat} (hi : i < 64) : y_bt (pX P) i = P i := by
  show (BitVec.ofNat 64 (pN P 64)).getLsbD i = _
  rw [BitVec.getLsbD_ofNat, pN_bit]
  simp [hi]
theorem pX_eq {x : Int64} {P : Nat → Bool} (h : ∀ i, i < 64 → y_bt x i = P i) : x.toInt = pL P := congrArg Int64.toInt (y_ext fun i hi => (h i hi).trans (pX_bt P hi).symm)
theorem pL_cong {P Q : Nat → Bool} (h : ∀ i, i < 64 → P i = Q i) : pL P = pL Q := pX_eq (fun i hi => (pX_bt P hi).trans (h i hi))
theorem pL_rng (P : Nat → Bool) : -9223372036854775808 ≤ pL P ∧ pL P < 9223372036854775808 := by
  have h1 := Int64.minValue_le_toInt (pX P)
  have h2 := Int64.toInt_lt (pX P)
  have h3 : Int64.minValue.toInt = -9223372036854775808 := by decide
  unfold pL
  omega
theorem y_and (x y : Int64) (i : Nat) : y_bt (x &&& y) i = (y_bt x i && y_bt y i) := by unfold y_bt; rw [Int64.toBitVec_and, BitVec.getLsbD_and]
theorem y_or (x y : Int64) (i : Nat) : y_bt (x ||| y) i = (y_bt x i || y_bt y i) := by unfold y_bt; rw [Int64.toBitVec_or, BitVec.getLsbD_or]
theorem y_xor (x y : Int64) (i : Nat) : y_bt (x ^^^ y) i = (y_bt x i ^^ y_bt y i) := by unfold y_bt; rw [Int64.toBitVec_xor, BitVec.getLsbD_xor]
theorem y_m1 : ∀ i, i < 64 → y_bt (-1) i = true := by decide +kernel
theorem y_sl : ∀ n, n < 64 → (((nI n).toInt64 &&& 63).toBitVec.smod 64).toNat = n := by decide +kernel
theorem y_shl (n : Nat) (hn : n < 64) (x : Int64) {i : Nat} (hi : i < 64) : y_bt (x <<< ((nI n).toInt64 &&& 63)) i = (decide (n ≤ i) && y_bt x (i - n)) := by
  unfold y_bt
  rw [Int64.toBitVec_shiftLeft]
  show (x.toBitVec <<< (((nI n).toInt64 &&& 63).toBitVec.smod 64).toNat).getLsbD i = _
  rw [y_sl n hn, BitVec.getLsbD_shiftLeft]
  rcases Nat.lt_or_ge i n with h | h
  · simp [h, Nat.not_le.mpr h]
  · simp [hi, h, Nat.not_lt.mpr h]
theorem y_shr (n : Nat) (hn : n < 64) (x : Int64) {i : Nat} (hi : i < 64) : y_bt (x >>> ((nI n).toInt64 &&& 63)) i = if n + i < 64 then y_bt x (n + i) else y_bt x 63 := by
  unfold y_bt
  rw [Int64.toBitVec_shiftRight]
  show (x.toBitVec.sshiftRight (((nI n).toInt64 &&& 63).toBitVec.smod 64).toNat).getLsbD i = _
  rw [y_sl n hn, BitVec.getLsbD_sshiftRight, BitVec.msb_eq_getLsbD_last]
  simp [Nat.not_le.mpr hi]
def b_xorL (x y : Int) : Int := (Int64.ofInt x ^^^ Int64.ofInt y).toInt
def b_shrL (x y : Int) : Int := (Int64.ofInt x >>> ((Int32.ofInt y).toInt64 &&& 63)).toInt
section
variable {M : MT} {scr : Option (Nat × (Nat → Int))} {al alE : Bool} {pc : Nat} {L : List (Option MV)} {S : List MV} {w : List MC} {bc bs : Nat} {Q : (Option MV) ⊕ String → List MC → Prop}
theorem g_lxor {x y : Int} (hd : decode (mC M) pc = .ok (.lxor, 1)) (kk : G M scr al alE (pc + 1) L (vL (b_xorL x y) :: S) w bc bs Q) : G M scr al alE pc L (vL y :: vL x :: S) w bc bs Q :=
  G.st (fun p l e R s m args below meth c H locs cells slots Z ls ad hx hb hown hts hl k => lv_lxor hx hb hd (g_top (congrArg Value.long (Int64.ofInt_toInt _).symm) (k ls hl))) kk
theorem g_lshr {x y : Int} (hd : decode (mC M) pc = .ok (.lshr, 1)) (kk : G M scr al alE (pc + 1) L (vL (b_shrL x y) :: S) w bc bs Q) : G M scr al alE pc L (vI y :: vL x :: S) w bc bs Q :=
  G.st (fun p l e R s m args below meth c H locs cells slots Z ls ad hx hb hown hts hl k => lv_lshr hx hb hd rfl (g_top (congrArg Value.long (Int64.ofInt_toInt _).symm) (k ls hl))) kk
theorem g_lsub {x y : Int} (hd : decode (mC M) pc = .ok (.lsub, 1)) (kk : G M scr al alE (pc + 1) L (vL (x - y) :: S) w bc bs Q) : G M scr al alE pc L (vL y :: vL x :: S) w bc bs Q :=
  G.st (fun p l e R s m args below meth c H locs cells slots Z ls ad hx hb hown hts hl k => lv_lsub hx hb hd (g_top (congrArg Value.long (Int64.ofInt_sub x y).symm) (k ls hl))) kk
theorem g_ldc {n : Int} {v : Int32} {idx : Nat} (hc : Cond.constant (mY M).cls idx v ∈ g_WS) (hd : decode (mC M) pc = .ok (.ldc idx, 2)) (hn : v = Int32.ofInt n) (kk : G M scr al alE (pc + 2) L (vI n :: S) w bc bs Q) : G M scr al alE pc L S w bc bs Q :=
  G.st (fun p l e R s m args below meth c H locs cells slots Z ls ad hx hb hown hts hl k => lv_ldc hx hb hown (hts _ hc) hd (g_top (congrArg Value.int hn) (k ls hl))) kk
end
theorem m_0 : pL (fun _ => false) = 0 := by decide +kernel
theorem m_1 : pL (fun k => decide (k = 0)) = 1 := by decide +kernel
theorem m_16 : pL (fun k => decide (k < 16)) = 65535 := by decide +kernel
theorem m_and (P Q : Nat → Bool) : b_andL (pL P) (pL Q) = pL (fun k => P k && Q k) := by
  unfold b_andL
  rw [pL_of, pL_of]
  exact pX_eq fun i hi => by rw [y_and, pX_bt P hi, pX_bt Q hi]
theorem m_or (P Q : Nat → Bool) : b_orL (pL P) (pL Q) = pL (fun k => P k || Q k) := by
  unfold b_orL
  rw [pL_of, pL_of]
  exact pX_eq fun i hi => by rw [y_or, pX_bt P hi, pX_bt Q hi]
theorem m_not (P : Nat → Bool) : b_xorL (pL P) (-1) = pL (fun k => !(P k)) := by
  unfold b_xorL
  rw [pL_of]
  exact pX_eq fun i hi => by rw [y_xor, pX_bt P hi, show Int64.ofInt (-1) = -1 from rfl, y_m1 i hi]; simp
theorem m_shl (P : Nat → Bool) {n : Nat} (hn : n < 64) : b_shlL (pL P) (n : Int) = pL (fun k => decide (n ≤ k) && P (k - n)) := by
  unfold b_shlL
  rw [pL_of, z_of]
  exact pX_eq fun i hi => by rw [y_shl n hn _ hi, pX_bt P (by omega)]
theorem m_shr (P : Nat → Bool) {n : Nat} (hn : n < 64) : b_shrL (pL P) (n : Int) = pL (fun k => if n + k < 64 then P (n + k) else P 63) := by
  unfold b_shrL
  rw [pL_of, z_of]
  refine pX_eq fun i hi => ?_
  rw [y_shr n hn _ hi]
  by_cases q : n + i < 64
  · rw [if_pos q, if_pos q, pX_bt P q]
  · rw [if_neg q, if_neg q, pX_bt P (by omega)]
/-- one bit of a mask -/
theorem m_get (P : Nat → Bool) {k : Nat} (hk : k < 64) : b_andL (b_shrL (pL P) (k : Int)) 1 = b2 (P k) := by
  rw [m_shr P hk, ← m_1, m_and]
  by_cases h : P k = true
  · rw [b2_t h, ← m_1]
    refine pL_cong fun i hi => ?_
    by_cases q : i = 0
    · subst q; simp [hk, h]
    · simp [q]
  · rw [b2_f h, ← m_0]
    refine pL_cong fun i hi => ?_
    by_cases q : i = 0
    · subst q; simp [hk, h]
    · simp [q]
/-- the bit k -/
theorem m_bit {k : Nat} (hk : k < 64) : b_shlL 1 (k : Int) = pL (fun j => decide (j = k)) := by
  rw [← m_1, m_shl _ hk]
  refine pL_cong fun i _ => ?_
  by_cases q : i = k
  · subst q; simp
  · have : (decide (k ≤ i) && decide (i - k = 0)) = false := by simp; omega
    rw [this]; simp [q]
theorem m_zero {P : Nat → Bool} : pL P = 0 ↔ ct P 64 = 0 := by
  rw [ct_zero]
  constructor
  · intro h k hk hp
    have h1 : pX P = pX (fun _ => false) := Int64.toInt_inj.mp (h.trans m_0.symm)
    have h2 := pX_bt P hk
    rw [h1, pX_bt _ hk, hp] at h2
    cases h2
  · intro h
    rw [← m_0]
    exact pL_cong fun i hi => by simpa using h i hi
theorem m_sub1 {P : Nat → Bool} (h : pN P 64 ≠ 0) {i : Nat} (hi : i < 64) : y_bt (pX P - 1) i = (pN P 64 - 1).testBit i := by
  have hN := pN_lt P 64
  have e : (pX P - 1).toBitVec = BitVec.ofNat 64 (pN P 64 - 1) := by
    rw [Int64.toBitVec_sub]
    show BitVec.ofNat 64 (pN P 64) - 1#64 = _
    apply BitVec.eq_of_toNat_eq
    rw [BitVec.toNat_sub, BitVec.toNat_ofNat, BitVec.toNat_ofNat, BitVec.toNat_ofNat]
    omega
  unfold y_bt
  rw [e, BitVec.getLsbD_ofNat]
  simp [hi]
theorem m_one {P : Nat → Bool} (h : ¬ pL P = 0) : b_andL (pL P) (pL P - 1) = 0 ↔ ct P 64 = 1 := by
  have hn : pN P 64 ≠ 0 := fun e => h (m_zero.mpr (pN_zero.mp e))
  have e : b_andL (pL P) (pL P - 1) = pL (fun i => (pN P 64 &&& (pN P 64 - 1)).testBit i) := by
    unfold b_andL
    rw [Int64.ofInt_sub, pL_of]
    refine pX_eq fun i hi => ?_
    rw [y_and, pX_bt P hi, show Int64.ofInt 1 = 1 from rfl, m_sub1 hn hi, Nat.testBit_and, pN_bit]
    simp [hi]
  rw [e, m_zero, ← pN_one hn, ct_zero]
  constructor
  · intro h1
    apply Nat.eq_of_testBit_eq
    intro i
    rw [Nat.zero_testBit]
    rcases Nat.lt_or_ge i 64 with q | q
    · simpa using h1 i q
    · have h2 : pN P 64 &&& (pN P 64 - 1) < 2 ^ 64 := Nat.lt_of_le_of_lt Nat.and_le_left (pN_lt P 64)
      exact Nat.testBit_lt_two_pow (Nat.lt_of_lt_of_le h2 (Nat.pow_le_pow_right (by decide) q))
  · intro h1 i _
    rw [h1, Nat.zero_testBit]
    exact fun h => nomatch h
end MK
