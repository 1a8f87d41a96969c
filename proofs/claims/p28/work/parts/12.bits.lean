/-! bits of small numbers (z_bt .. z_shl: from the kit's rows of bits, renamed) -/
section BI
def z_bt (x : Int32) (i : Nat) : Bool := x.toBitVec.getLsbD i
theorem z_ext {x y : Int32} (h : ∀ i, i < 32 → z_bt x i = z_bt y i) : x = y := Int32.toBitVec_inj.mp (BitVec.eq_of_getLsbD_eq (fun i hi => h i hi))
theorem z_or (x y : Int32) (i : Nat) : z_bt (x ||| y) i = (z_bt x i || z_bt y i) := by unfold z_bt; rw [Int32.toBitVec_or, BitVec.getLsbD_or]
theorem z_and (x y : Int32) (i : Nat) : z_bt (x &&& y) i = (z_bt x i && z_bt y i) := by unfold z_bt; rw [Int32.toBitVec_and, BitVec.getLsbD_and]
theorem z_xor (x y : Int32) (i : Nat) : z_bt (x ^^^ y) i = (z_bt x i ^^ z_bt y i) := by unfold z_bt; rw [Int32.toBitVec_xor, BitVec.getLsbD_xor]
theorem z_m1 : ∀ i, i < 32 → z_bt (-1) i = true := by decide +kernel
theorem z_1 : ∀ i, i < 32 → z_bt 1 i = decide (i = 0) := by decide +kernel
theorem z_sl : ∀ n, n < 32 → ((nI n &&& 31).toBitVec.smod 32).toNat = n := by decide +kernel
theorem z_su : ∀ n, n < 32 → (((nI n).toUInt32 &&& Int32.toUInt32 31).toBitVec % 32).toNat = n := by decide +kernel
theorem z_shl (n : Nat) (hn : n < 32) (x : Int32) {i : Nat} (hi : i < 32) : z_bt (x <<< (nI n &&& 31)) i = (decide (n ≤ i) && z_bt x (i - n)) := by
  unfold z_bt
  rw [Int32.toBitVec_shiftLeft]
  show (x.toBitVec <<< ((nI n &&& 31).toBitVec.smod 32).toNat).getLsbD i = _
  rw [z_sl n hn, BitVec.getLsbD_shiftLeft]
  rcases Nat.lt_or_ge i n with h | h
  · simp [h, Nat.not_le.mpr h]
  · simp [hi, h, Nat.not_lt.mpr h]
theorem z_nI (N : Nat) {i : Nat} (hi : i < 32) : z_bt (nI N) i = N.testBit i := by
  show (BitVec.ofNat 32 N).getLsbD i = _
  rw [BitVec.getLsbD_ofNat]
  simp [hi]
theorem z_of (N : Nat) : Int32.ofInt (N : Int) = nI N := Int32.ofInt_eq_ofNat
theorem z_shr {N k : Nat} (hN : N < 2 ^ 31) (hk : k < 32) : b_shr N k = ((N / 2 ^ k : Nat) : Int) := by
  unfold b_shr
  rw [z_of, z_of, pk_shrN hN _ k (z_sl k hk), nI_toInt (Nat.lt_of_le_of_lt (Nat.div_le_self _ _) hN)]
theorem z_ushr {N k : Nat} (hN : N < 2 ^ 31) (hk : k < 32) : b_ushr N k = ((N / 2 ^ k : Nat) : Int) := by
  unfold b_ushr
  rw [z_of, z_of, pk_ushrN (by omega) _ k (z_su k hk), nI_toInt (Nat.lt_of_le_of_lt (Nat.div_le_self _ _) hN)]
theorem z_andN {a b : Nat} (ha : a < 2 ^ 31) : b_and a b = ((a &&& b : Nat) : Int) := by
  unfold b_and
  have e : nI a &&& nI b = nI (a &&& b) := z_ext fun i hi => by rw [z_and, z_nI _ hi, z_nI _ hi, z_nI _ hi, Nat.testBit_and]
  rw [z_of, z_of, e, nI_toInt (Nat.lt_of_le_of_lt Nat.and_le_left ha)]
/-- one bit of a row of bits -/
theorem z_get {f : Nat → Int} (h : ∀ k, f k = 0 ∨ f k = 1) {n k : Nat} (hn : n ≤ 30) (hk : k < n) : b_and (b_shr (bsum f n) k) 1 = f k := by
  have h1 := bN_lt f n
  have h2 : (2 : Nat) ^ n ≤ 2 ^ 30 := Nat.pow_le_pow_right (by decide) hn
  rw [bN_eq h, z_shr (by omega) (by omega), show (1 : Int) = ((1 : Nat) : Int) from rfl, z_andN (Nat.lt_of_le_of_lt (Nat.div_le_self _ _) (by omega)), Nat.and_one_is_mod]
  have h3 := bN_bit f k n
  rw [Nat.testBit_eq_decide_div_mod_eq] at h3
  rcases h k with q | q
  · rw [q] at h3 ⊢
    have : ¬ bN f n / 2 ^ k % 2 = 1 := by simpa using h3
    omega
  · rw [q] at h3 ⊢
    have : bN f n / 2 ^ k % 2 = 1 := by simpa [hk] using h3
    omega
theorem z_up {f : Nat → Int} (h : ∀ k, f k = 0 ∨ f k = 1) {j : Nat} {x : Int} (hx : x = 0 ∨ x = 1) : ∀ k, va_up f j x k = 0 ∨ va_up f j x k = 1 := by
  intro k
  unfold va_up
  split
  · exact hx
  · exact h k
theorem z_sh1 {k : Nat} : Int32.ofInt (b_shl 1 k) = 1 <<< (nI k &&& 31) := by
  unfold b_shl
  rw [Int32.ofInt_toInt, z_of]
  rfl
theorem z_set {f : Nat → Int} (h : ∀ k, f k = 0 ∨ f k = 1) {n k : Nat} (hn : n ≤ 30) (hk : k < n) : b_or (bsum f n) (b_shl 1 k) = bsum (va_up f k 1) n := by
  have h1 := bN_lt (va_up f k 1) n
  have h2 : (2 : Nat) ^ n ≤ 2 ^ 30 := Nat.pow_le_pow_right (by decide) hn
  rw [bN_eq h, bN_eq (z_up h (Or.inr rfl))]
  unfold b_or
  rw [z_sh1, z_of, ← nI_toInt (show bN (va_up f k 1) n < 2 ^ 31 by omega)]
  refine congrArg Int32.toInt (z_ext fun i hi => ?_)
  rw [z_or, z_nI _ hi, z_nI _ hi, z_shl k (by omega) 1 hi, bN_bit, bN_bit, z_1 _ (by omega)]
  unfold va_up
  by_cases q : i = k
  · subst q; simp [hk]
  · rw [if_neg q]
    have : (decide (k ≤ i) && decide (i - k = 0)) = false := by simp; omega
    rw [this, Bool.or_false]
theorem z_clr {f : Nat → Int} (h : ∀ k, f k = 0 ∨ f k = 1) {n k : Nat} (hn : n ≤ 30) (hk : k < n) : b_and (bsum f n) (b_xor (b_shl 1 k) (-1)) = bsum (va_up f k 0) n := by
  have h1 := bN_lt (va_up f k 0) n
  have h2 : (2 : Nat) ^ n ≤ 2 ^ 30 := Nat.pow_le_pow_right (by decide) hn
  rw [bN_eq h, bN_eq (z_up h (Or.inl rfl))]
  unfold b_and b_xor
  rw [Int32.ofInt_toInt, z_sh1, z_of, ← nI_toInt (show bN (va_up f k 0) n < 2 ^ 31 by omega)]
  refine congrArg Int32.toInt (z_ext fun i hi => ?_)
  rw [z_and, z_xor, z_nI _ hi, z_nI _ hi, z_shl k (by omega) 1 hi, bN_bit, bN_bit, z_1 _ (by omega), show Int32.ofInt (-1) = -1 from rfl, z_m1 i hi]
  unfold va_up
  by_cases q : i = k
  · subst q; simp
  · rw [if_neg q]
    have : (decide (k ≤ i) && decide (i - k = 0)) = false := by simp; omega
    rw [this]; simp
/-! the number of bits, as Integer.bitCount counts them -/
def bcN (x : Nat) : Nat :=
  let a := Nat.sub x (Nat.land (Nat.div x 2) 1431655765)
  let b := Nat.add (Nat.land a 858993459) (Nat.land (Nat.div a 4) 858993459)
  let c := Nat.land (Nat.add b (Nat.div b 16)) 252645135
  let d := Nat.add c (Nat.div c 256)
  let e := Nat.add d (Nat.div d 65536)
  Nat.land e 63
def popN (x : Nat) : Nat := Nat.add (Nat.add (Nat.add (Nat.add (Nat.add (Nat.add (Nat.add (Nat.add (Nat.add (Nat.add (Nat.add (Nat.add (Nat.add (Nat.add (Nat.add (Nat.mod x 2) (Nat.mod (Nat.div x 2) 2)) (Nat.mod (Nat.div x 4) 2)) (Nat.mod (Nat.div x 8) 2)) (Nat.mod (Nat.div x 16) 2)) (Nat.mod (Nat.div x 32) 2)) (Nat.mod (Nat.div x 64) 2)) (Nat.mod (Nat.div x 128) 2)) (Nat.mod (Nat.div x 256) 2)) (Nat.mod (Nat.div x 512) 2)) (Nat.mod (Nat.div x 1024) 2)) (Nat.mod (Nat.div x 2048) 2)) (Nat.mod (Nat.div x 4096) 2)) (Nat.mod (Nat.div x 8192) 2)) (Nat.mod (Nat.div x 16384) 2)) (Nat.mod (Nat.div x 32768) 2)
def bc_all (x : Nat) : Nat → Bool
  | 0 => true
  | n + 1 => Nat.beq (bcN (Nat.add x n)) (popN (Nat.add x n)) && bc_all x n
theorem bc_all_spec {x : Nat} : ∀ {n : Nat}, bc_all x n = true → ∀ b, b < n → bcN (x + b) = popN (x + b)
  | 0, _, b, hb => absurd hb (Nat.not_lt_zero b)
  | n + 1, h, b, hb => by
    rw [bc_all, Bool.and_eq_true] at h
    rcases Nat.lt_or_ge b n with q | q
    · exact bc_all_spec h.2 b q
    · rw [show b = n by omega]
      exact Nat.eq_of_beq_eq_true h.1
theorem bc_0 : bc_all 0 512 = true ∧ bc_all 512 512 = true := by decide +kernel
theorem bc_1 : bc_all 1024 512 = true ∧ bc_all 1536 512 = true := by decide +kernel
theorem bc_2 : bc_all 2048 512 = true ∧ bc_all 2560 512 = true := by decide +kernel
theorem bc_3 : bc_all 3072 512 = true ∧ bc_all 3584 512 = true := by decide +kernel
theorem bc_4 : bc_all 4096 512 = true ∧ bc_all 4608 512 = true := by decide +kernel
theorem bc_5 : bc_all 5120 512 = true ∧ bc_all 5632 512 = true := by decide +kernel
theorem bc_6 : bc_all 6144 512 = true ∧ bc_all 6656 512 = true := by decide +kernel
theorem bc_7 : bc_all 7168 512 = true ∧ bc_all 7680 512 = true := by decide +kernel
theorem bc_8 : bc_all 8192 512 = true ∧ bc_all 8704 512 = true := by decide +kernel
theorem bc_9 : bc_all 9216 512 = true ∧ bc_all 9728 512 = true := by decide +kernel
theorem bc_10 : bc_all 10240 512 = true ∧ bc_all 10752 512 = true := by decide +kernel
theorem bc_11 : bc_all 11264 512 = true ∧ bc_all 11776 512 = true := by decide +kernel
theorem bc_12 : bc_all 12288 512 = true ∧ bc_all 12800 512 = true := by decide +kernel
theorem bc_13 : bc_all 13312 512 = true ∧ bc_all 13824 512 = true := by decide +kernel
theorem bc_14 : bc_all 14336 512 = true ∧ bc_all 14848 512 = true := by decide +kernel
theorem bc_15 : bc_all 15360 512 = true ∧ bc_all 15872 512 = true := by decide +kernel
theorem bc_16 : bc_all 16384 512 = true ∧ bc_all 16896 512 = true := by decide +kernel
theorem bc_17 : bc_all 17408 512 = true ∧ bc_all 17920 512 = true := by decide +kernel
theorem bc_18 : bc_all 18432 512 = true ∧ bc_all 18944 512 = true := by decide +kernel
theorem bc_19 : bc_all 19456 512 = true ∧ bc_all 19968 512 = true := by decide +kernel
theorem bc_20 : bc_all 20480 512 = true ∧ bc_all 20992 512 = true := by decide +kernel
theorem bc_21 : bc_all 21504 512 = true ∧ bc_all 22016 512 = true := by decide +kernel
theorem bc_22 : bc_all 22528 512 = true ∧ bc_all 23040 512 = true := by decide +kernel
theorem bc_23 : bc_all 23552 512 = true ∧ bc_all 24064 512 = true := by decide +kernel
theorem bc_24 : bc_all 24576 512 = true ∧ bc_all 25088 512 = true := by decide +kernel
theorem bc_25 : bc_all 25600 512 = true ∧ bc_all 26112 512 = true := by decide +kernel
theorem bc_26 : bc_all 26624 512 = true ∧ bc_all 27136 512 = true := by decide +kernel
theorem bc_27 : bc_all 27648 512 = true ∧ bc_all 28160 512 = true := by decide +kernel
theorem bc_28 : bc_all 28672 512 = true ∧ bc_all 29184 512 = true := by decide +kernel
theorem bc_29 : bc_all 29696 512 = true ∧ bc_all 30208 512 = true := by decide +kernel
theorem bc_30 : bc_all 30720 512 = true ∧ bc_all 31232 512 = true := by decide +kernel
theorem bc_31 : bc_all 31744 512 = true ∧ bc_all 32256 512 = true := by decide +kernel
theorem bc_32 : bc_all 32768 512 = true ∧ bc_all 33280 512 = true := by decide +kernel
theorem bc_33 : bc_all 33792 512 = true ∧ bc_all 34304 512 = true := by decide +kernel
theorem bc_34 : bc_all 34816 512 = true ∧ bc_all 35328 512 = true := by decide +kernel
theorem bc_35 : bc_all 35840 512 = true ∧ bc_all 36352 512 = true := by decide +kernel
theorem bc_36 : bc_all 36864 512 = true ∧ bc_all 37376 512 = true := by decide +kernel
theorem bc_37 : bc_all 37888 512 = true ∧ bc_all 38400 512 = true := by decide +kernel
theorem bc_38 : bc_all 38912 512 = true ∧ bc_all 39424 512 = true := by decide +kernel
theorem bc_39 : bc_all 39936 512 = true ∧ bc_all 40448 512 = true := by decide +kernel
theorem bc_40 : bc_all 40960 512 = true ∧ bc_all 41472 512 = true := by decide +kernel
theorem bc_41 : bc_all 41984 512 = true ∧ bc_all 42496 512 = true := by decide +kernel
theorem bc_42 : bc_all 43008 512 = true ∧ bc_all 43520 512 = true := by decide +kernel
theorem bc_43 : bc_all 44032 512 = true ∧ bc_all 44544 512 = true := by decide +kernel
theorem bc_44 : bc_all 45056 512 = true ∧ bc_all 45568 512 = true := by decide +kernel
theorem bc_45 : bc_all 46080 512 = true ∧ bc_all 46592 512 = true := by decide +kernel
theorem bc_46 : bc_all 47104 512 = true ∧ bc_all 47616 512 = true := by decide +kernel
theorem bc_47 : bc_all 48128 512 = true ∧ bc_all 48640 512 = true := by decide +kernel
theorem bc_48 : bc_all 49152 512 = true ∧ bc_all 49664 512 = true := by decide +kernel
theorem bc_49 : bc_all 50176 512 = true ∧ bc_all 50688 512 = true := by decide +kernel
theorem bc_50 : bc_all 51200 512 = true ∧ bc_all 51712 512 = true := by decide +kernel
theorem bc_51 : bc_all 52224 512 = true ∧ bc_all 52736 512 = true := by decide +kernel
theorem bc_52 : bc_all 53248 512 = true ∧ bc_all 53760 512 = true := by decide +kernel
theorem bc_53 : bc_all 54272 512 = true ∧ bc_all 54784 512 = true := by decide +kernel
theorem bc_54 : bc_all 55296 512 = true ∧ bc_all 55808 512 = true := by decide +kernel
theorem bc_55 : bc_all 56320 512 = true ∧ bc_all 56832 512 = true := by decide +kernel
theorem bc_56 : bc_all 57344 512 = true ∧ bc_all 57856 512 = true := by decide +kernel
theorem bc_57 : bc_all 58368 512 = true ∧ bc_all 58880 512 = true := by decide +kernel
theorem bc_58 : bc_all 59392 512 = true ∧ bc_all 59904 512 = true := by decide +kernel
theorem bc_59 : bc_all 60416 512 = true ∧ bc_all 60928 512 = true := by decide +kernel
theorem bc_60 : bc_all 61440 512 = true ∧ bc_all 61952 512 = true := by decide +kernel
theorem bc_61 : bc_all 62464 512 = true ∧ bc_all 62976 512 = true := by decide +kernel
theorem bc_62 : bc_all 63488 512 = true ∧ bc_all 64000 512 = true := by decide +kernel
theorem bc_63 : bc_all 64512 512 = true ∧ bc_all 65024 512 = true := by decide +kernel
theorem bcN_pop : ∀ x, x < 65536 → bcN x = popN x := by
  have h : ∀ k : Nat, k < 128 → bc_all (512 * k) 512 = true := by
    intro k hk
    rcases (show k = 0 ∨ k = 1 ∨ k = 2 ∨ k = 3 ∨ k = 4 ∨ k = 5 ∨ k = 6 ∨ k = 7 ∨ k = 8 ∨ k = 9 ∨ k = 10 ∨ k = 11 ∨ k = 12 ∨ k = 13 ∨ k = 14 ∨ k = 15 ∨ k = 16 ∨ k = 17 ∨ k = 18 ∨ k = 19 ∨ k = 20 ∨ k = 21 ∨ k = 22 ∨ k = 23 ∨ k = 24 ∨ k = 25 ∨ k = 26 ∨ k = 27 ∨ k = 28 ∨ k = 29 ∨ k = 30 ∨ k = 31 ∨ k = 32 ∨ k = 33 ∨ k = 34 ∨ k = 35 ∨ k = 36 ∨ k = 37 ∨ k = 38 ∨ k = 39 ∨ k = 40 ∨ k = 41 ∨ k = 42 ∨ k = 43 ∨ k = 44 ∨ k = 45 ∨ k = 46 ∨ k = 47 ∨ k = 48 ∨ k = 49 ∨ k = 50 ∨ k = 51 ∨ k = 52 ∨ k = 53 ∨ k = 54 ∨ k = 55 ∨ k = 56 ∨ k = 57 ∨ k = 58 ∨ k = 59 ∨ k = 60 ∨ k = 61 ∨ k = 62 ∨ k = 63 ∨ k = 64 ∨ k = 65 ∨ k = 66 ∨ k = 67 ∨ k = 68 ∨ k = 69 ∨ k = 70 ∨ k = 71 ∨ k = 72 ∨ k = 73 ∨ k = 74 ∨ k = 75 ∨ k = 76 ∨ k = 77 ∨ k = 78 ∨ k = 79 ∨ k = 80 ∨ k = 81 ∨ k = 82 ∨ k = 83 ∨ k = 84 ∨ k = 85 ∨ k = 86 ∨ k = 87 ∨ k = 88 ∨ k = 89 ∨ k = 90 ∨ k = 91 ∨ k = 92 ∨ k = 93 ∨ k = 94 ∨ k = 95 ∨ k = 96 ∨ k = 97 ∨ k = 98 ∨ k = 99 ∨ k = 100 ∨ k = 101 ∨ k = 102 ∨ k = 103 ∨ k = 104 ∨ k = 105 ∨ k = 106 ∨ k = 107 ∨ k = 108 ∨ k = 109 ∨ k = 110 ∨ k = 111 ∨ k = 112 ∨ k = 113 ∨ k = 114 ∨ k = 115 ∨ k = 116 ∨ k = 117 ∨ k = 118 ∨ k = 119 ∨ k = 120 ∨ k = 121 ∨ k = 122 ∨ k = 123 ∨ k = 124 ∨ k = 125 ∨ k = 126 ∨ k = 127 by omega) with rfl | rfl | rfl | rfl | rfl | rfl | rfl | rfl | rfl | rfl | rfl | rfl | rfl | rfl | rfl | rfl | rfl | rfl | rfl | rfl | rfl | rfl | rfl | rfl | rfl | rfl | rfl | rfl | rfl | rfl | rfl | rfl | rfl | rfl | rfl | rfl | rfl | rfl | rfl | rfl | rfl | rfl | rfl | rfl | rfl | rfl | rfl | rfl | rfl | rfl | rfl | rfl | rfl | rfl | rfl | rfl | rfl | rfl | rfl | rfl | rfl | rfl | rfl | rfl | rfl | rfl | rfl | rfl | rfl | rfl | rfl | rfl | rfl | rfl | rfl | rfl | rfl | rfl | rfl | rfl | rfl | rfl | rfl | rfl | rfl | rfl | rfl | rfl | rfl | rfl | rfl | rfl | rfl | rfl | rfl | rfl | rfl | rfl | rfl | rfl | rfl | rfl | rfl | rfl | rfl | rfl | rfl | rfl | rfl | rfl | rfl | rfl | rfl | rfl | rfl | rfl | rfl | rfl | rfl | rfl | rfl | rfl | rfl | rfl | rfl | rfl | rfl | rfl
    · exact bc_0.1
    · exact bc_0.2
    · exact bc_1.1
    · exact bc_1.2
    · exact bc_2.1
    · exact bc_2.2
    · exact bc_3.1
    · exact bc_3.2
    · exact bc_4.1
    · exact bc_4.2
    · exact bc_5.1
    · exact bc_5.2
    · exact bc_6.1
    · exact bc_6.2
    · exact bc_7.1
    · exact bc_7.2
    · exact bc_8.1
    · exact bc_8.2
    · exact bc_9.1
    · exact bc_9.2
    · exact bc_10.1
    · exact bc_10.2
    · exact bc_11.1
    · exact bc_11.2
    · exact bc_12.1
    · exact bc_12.2
    · exact bc_13.1
    · exact bc_13.2
    · exact bc_14.1
    · exact bc_14.2
    · exact bc_15.1
    · exact bc_15.2
    · exact bc_16.1
    · exact bc_16.2
    · exact bc_17.1
    · exact bc_17.2
    · exact bc_18.1
    · exact bc_18.2
    · exact bc_19.1
    · exact bc_19.2
    · exact bc_20.1
    · exact bc_20.2
    · exact bc_21.1
    · exact bc_21.2
    · exact bc_22.1
    · exact bc_22.2
    · exact bc_23.1
    · exact bc_23.2
    · exact bc_24.1
    · exact bc_24.2
    · exact bc_25.1
    · exact bc_25.2
    · exact bc_26.1
    · exact bc_26.2
    · exact bc_27.1
    · exact bc_27.2
    · exact bc_28.1
    · exact bc_28.2
    · exact bc_29.1
    · exact bc_29.2
    · exact bc_30.1
    · exact bc_30.2
    · exact bc_31.1
    · exact bc_31.2
    · exact bc_32.1
    · exact bc_32.2
    · exact bc_33.1
    · exact bc_33.2
    · exact bc_34.1
    · exact bc_34.2
    · exact bc_35.1
    · exact bc_35.2
    · exact bc_36.1
    · exact bc_36.2
    · exact bc_37.1
    · exact bc_37.2
    · exact bc_38.1
    · exact bc_38.2
    · exact bc_39.1
    · exact bc_39.2
    · exact bc_40.1
    · exact bc_40.2
    · exact bc_41.1
    · exact bc_41.2
    · exact bc_42.1
    · exact bc_42.2
    · exact bc_43.1
    · exact bc_43.2
    · exact bc_44.1
    · exact bc_44.2
    · exact bc_45.1
    · exact bc_45.2
    · exact bc_46.1
    · exact bc_46.2
    · exact bc_47.1
    · exact bc_47.2
    · exact bc_48.1
    · exact bc_48.2
    · exact bc_49.1
    · exact bc_49.2
    · exact bc_50.1
    · exact bc_50.2
    · exact bc_51.1
    · exact bc_51.2
    · exact bc_52.1
    · exact bc_52.2
    · exact bc_53.1
    · exact bc_53.2
    · exact bc_54.1
    · exact bc_54.2
    · exact bc_55.1
    · exact bc_55.2
    · exact bc_56.1
    · exact bc_56.2
    · exact bc_57.1
    · exact bc_57.2
    · exact bc_58.1
    · exact bc_58.2
    · exact bc_59.1
    · exact bc_59.2
    · exact bc_60.1
    · exact bc_60.2
    · exact bc_61.1
    · exact bc_61.2
    · exact bc_62.1
    · exact bc_62.2
    · exact bc_63.1
    · exact bc_63.2
  intro x hx
  have h1 := bc_all_spec (h (x / 512) (by omega)) (x % 512) (Nat.mod_lt _ (by decide))
  rw [Nat.div_add_mod] at h1
  exact h1
theorem popN_ct {f : Nat → Int} (h : ∀ k, f k = 0 ∨ f k = 1) (hz : ∀ k, 16 ≤ k → f k = 0) : ((popN (bN f 16) : Nat) : Int) = ct (fun k => decide (f k = 1)) 16 := by
  have hb : ∀ i, i < 16 → ((bN f 16 / 2 ^ i % 2 : Nat) : Int) = if decide (f i = 1) = true then 1 else 0 := by
    intro i hi
    have h3 := bN_bit f i 16
    rw [Nat.testBit_eq_decide_div_mod_eq] at h3
    rcases h i with q | q
    · rw [q] at h3 ⊢
      have : ¬ bN f 16 / 2 ^ i % 2 = 1 := by simpa using h3
      have hy := Nat.mod_lt (bN f 16 / 2 ^ i) (show 2 > 0 by decide)
      rw [if_neg (by decide), show bN f 16 / 2 ^ i % 2 = 0 by omega]; rfl
    · rw [q] at h3 ⊢
      have : bN f 16 / 2 ^ i % 2 = 1 := by simpa [hi] using h3
      rw [if_pos (by decide), this]; rfl
  have e : popN (bN f 16) = bN f 16 / 2 ^ 0 % 2 + bN f 16 / 2 ^ 1 % 2 + bN f 16 / 2 ^ 2 % 2 + bN f 16 / 2 ^ 3 % 2 + bN f 16 / 2 ^ 4 % 2 + bN f 16 / 2 ^ 5 % 2 + bN f 16 / 2 ^ 6 % 2 + bN f 16 / 2 ^ 7 % 2 + bN f 16 / 2 ^ 8 % 2 + bN f 16 / 2 ^ 9 % 2 + bN f 16 / 2 ^ 10 % 2 + bN f 16 / 2 ^ 11 % 2 + bN f 16 / 2 ^ 12 % 2 + bN f 16 / 2 ^ 13 % 2 + bN f 16 / 2 ^ 14 % 2 + bN f 16 / 2 ^ 15 % 2 := by rw [Nat.pow_zero, Nat.div_one]; rfl
  rw [e]
  simp only [ct, Int.zero_add]
  simp only [Int.natCast_add, hb 0 (by decide), hb 1 (by decide), hb 2 (by decide), hb 3 (by decide), hb 4 (by decide), hb 5 (by decide), hb 6 (by decide), hb 7 (by decide), hb 8 (by decide), hb 9 (by decide), hb 10 (by decide), hb 11 (by decide), hb 12 (by decide), hb 13 (by decide), hb 14 (by decide), hb 15 (by decide)]
end BI
