/-! A ROW AN INSTRUCTION -/
section GRU
variable {M : MT} {scr : Option (Nat × (Nat → Int))} {al alE : Bool} {pc : Nat} {L : List (Option MV)} {S : List MV} {w : List MC} {bc bs : Nat} {Q : (Option MV) ⊕ String → List MC → Prop}
theorem g_top {p : Program} {l : Launch} {e : Env} {R : Room} {s : State} {m : MethodId} {args : Array Value} {below : List Frame} {meth : Method} {c : Code} {H : Heap} {locs : List Loc} {cells slots : Nat} {Z : State → Prop} {pc : Nat} {ls : Array Slot} {v v' : Value} {rest : List Value} (h : v = v') (k : W p l e R s m args below meth c H locs cells slots Z (F0 m pc ls (v' :: rest))) : W p l e R s m args below meth c H locs cells slots Z (F0 m pc ls (v :: rest)) := h ▸ k
theorem g_iload_n {i : Nat} {k : Fin 4} {z : Int} (hd : decode (mC M) pc = .ok (.iload_n k, 1)) (hi : (k : Nat) = i) (hv : L[i]? = some (some (vI z))) (kk : G M scr al alE (pc + 1) L (vI z :: S) w bc bs Q) : G M scr al alE pc L S w bc bs Q :=
  G.st (fun p l e R s m args below meth c H locs cells slots Z ls ad hx hb hown hts hl k => lv_iload_n hx hb hd hi (g_at hl hv) (k ls hl)) kk
theorem g_iload {i : Nat} {z : Int} (hd : decode (mC M) pc = .ok (.iload i, 2)) (hv : L[i]? = some (some (vI z))) (kk : G M scr al alE (pc + 2) L (vI z :: S) w bc bs Q) : G M scr al alE pc L S w bc bs Q :=
  G.st (fun p l e R s m args below meth c H locs cells slots Z ls ad hx hb hown hts hl k => lv_iload hx hb hd (g_at hl hv) (k ls hl)) kk
theorem g_lload_n {i : Nat} {k : Fin 4} {z : Int} (hd : decode (mC M) pc = .ok (.lload_n k, 1)) (hi : (k : Nat) = i) (hv : L[i]? = some (some (vL z))) (kk : G M scr al alE (pc + 1) L (vL z :: S) w bc bs Q) : G M scr al alE pc L S w bc bs Q :=
  G.st (fun p l e R s m args below meth c H locs cells slots Z ls ad hx hb hown hts hl k => lv_lload_n hx hb hd hi (g_at hl hv) (k ls hl)) kk
theorem g_lload {i : Nat} {z : Int} (hd : decode (mC M) pc = .ok (.lload i, 2)) (hv : L[i]? = some (some (vL z))) (kk : G M scr al alE (pc + 2) L (vL z :: S) w bc bs Q) : G M scr al alE pc L S w bc bs Q :=
  G.st (fun p l e R s m args below meth c H locs cells slots Z ls ad hx hb hown hts hl k => lv_lload hx hb hd (g_at hl hv) (k ls hl)) kk
theorem g_aload_n {i : Nat} {k : Fin 4} {a : Nat} (hd : decode (mC M) pc = .ok (.aload_n k, 1)) (hi : (k : Nat) = i) (hv : L[i]? = some (some (vR a))) (kk : G M scr al alE (pc + 1) L (vR a :: S) w bc bs Q) : G M scr al alE pc L S w bc bs Q :=
  G.st (fun p l e R s m args below meth c H locs cells slots Z ls ad hx hb hown hts hl k => lv_aload_n hx hb hd hi (g_at hl hv) (k ls hl)) kk
theorem g_aload {i : Nat} {a : Nat} (hd : decode (mC M) pc = .ok (.aload i, 2)) (hv : L[i]? = some (some (vR a))) (kk : G M scr al alE (pc + 2) L (vR a :: S) w bc bs Q) : G M scr al alE pc L S w bc bs Q :=
  G.st (fun p l e R s m args below meth c H locs cells slots Z ls ad hx hb hown hts hl k => lv_aload hx hb hd (g_at hl hv) (k ls hl)) kk
theorem g_istore_n {i : Nat} {k : Fin 4} {z : Int} (hd : decode (mC M) pc = .ok (.istore_n k, 1)) (hi : (k : Nat) = i) (hn : i < mL M) (hk : g_nl L i = true) (kk : G M scr al alE (pc + 1) (L.set i (some (vI z))) S w bc bs Q) : G M scr al alE pc L (vI z :: S) w bc bs Q :=
  G.st (fun p l e R s m args below meth c H locs cells slots Z ls ad hx hb hown hts hl k => lv_istore_n hx hb hd hi hl hn rfl (fun ls' hl' => k ls' (g_keep hl' (g_set1 (vI z) hk)))) kk
theorem g_istore {i : Nat} {z : Int} (hd : decode (mC M) pc = .ok (.istore i, 2)) (hn : i < mL M) (hk : g_nl L i = true) (kk : G M scr al alE (pc + 2) (L.set i (some (vI z))) S w bc bs Q) : G M scr al alE pc L (vI z :: S) w bc bs Q :=
  G.st (fun p l e R s m args below meth c H locs cells slots Z ls ad hx hb hown hts hl k => lv_istore hx hb hd hl hn rfl (fun ls' hl' => k ls' (g_keep hl' (g_set1 (vI z) hk)))) kk
theorem g_astore_n {i : Nat} {k : Fin 4} {a : Nat} (hd : decode (mC M) pc = .ok (.astore_n k, 1)) (hi : (k : Nat) = i) (hn : i < mL M) (hk : g_nl L i = true) (kk : G M scr al alE (pc + 1) (L.set i (some (vR a))) S w bc bs Q) : G M scr al alE pc L (vR a :: S) w bc bs Q :=
  G.st (fun p l e R s m args below meth c H locs cells slots Z ls ad hx hb hown hts hl k => lv_astore_n hx hb hd hi hl hn rfl (fun ls' hl' => k ls' (g_keep hl' (g_set1 (vR a) hk)))) kk
theorem g_lstore_n {i : Nat} {k : Fin 4} {z : Int} (hd : decode (mC M) pc = .ok (.lstore_n k, 1)) (hi : (k : Nat) = i) (hn : i + 1 < mL M) (hk : g_nl L i = true) (kk : G M scr al alE (pc + 1) ((L.set i (some (vL z))).set (i + 1) none) S w bc bs Q) : G M scr al alE pc L (vL z :: S) w bc bs Q :=
  G.st (fun p l e R s m args below meth c H locs cells slots Z ls ad hx hb hown hts hl k => lv_lstore_n hx hb hd hi hl hn rfl (fun ls' hl' => k ls' (g_keep hl' (g_set2 (vL z) hk)))) kk
theorem g_lstore {i : Nat} {z : Int} (hd : decode (mC M) pc = .ok (.lstore i, 2)) (hn : i + 1 < mL M) (hk : g_nl L i = true) (kk : G M scr al alE (pc + 2) ((L.set i (some (vL z))).set (i + 1) none) S w bc bs Q) : G M scr al alE pc L (vL z :: S) w bc bs Q :=
  G.st (fun p l e R s m args below meth c H locs cells slots Z ls ad hx hb hown hts hl k => lv_lstore hx hb hd hl hn rfl (fun ls' hl' => k ls' (g_keep hl' (g_set2 (vL z) hk)))) kk
theorem g_iinc {i : Nat} {n z : Int} (hd : decode (mC M) pc = .ok (.iinc i n, 3)) (hv : L[i]? = some (some (vI z))) (hn : i < mL M) (hk : g_nl L i = true) (kk : G M scr al alE (pc + 3) (L.set i (some (vI (z + n)))) S w bc bs Q) : G M scr al alE pc L S w bc bs Q :=
  G.st (fun p l e R s m args below meth c H locs cells slots Z ls ad hx hb hown hts hl k => by
    have h1 : ((i, Value.int (Int32.ofInt z)) : Nat × Value) ∈ g_L ad 0 L := g_L_mem.mpr ⟨i, vI z, hv, by rw [Nat.zero_add]; rfl⟩
    obtain ⟨j, hj⟩ := List.getElem?_of_mem h1
    exact lv_iinc hx hb hd hl hj (Int32.ofInt_add z n).symm hn rfl (fun ls' hl' => k ls' (g_keep hl' (g_set1 (vI (z + n)) hk)))) kk
theorem g_iconst {n : Int} (hd : decode (mC M) pc = .ok (.iconst n, 1)) (kk : G M scr al alE (pc + 1) L (vI n :: S) w bc bs Q) : G M scr al alE pc L S w bc bs Q :=
  G.st (fun p l e R s m args below meth c H locs cells slots Z ls ad hx hb hown hts hl k => lv_iconst hx hb hd rfl (k ls hl)) kk
theorem g_bipush {n : Int} (hd : decode (mC M) pc = .ok (.bipush n, 2)) (hn : (Int8.ofInt n).toInt32 = Int32.ofInt n) (kk : G M scr al alE (pc + 2) L (vI n :: S) w bc bs Q) : G M scr al alE pc L S w bc bs Q :=
  G.st (fun p l e R s m args below meth c H locs cells slots Z ls ad hx hb hown hts hl k => lv_bipush hx hb hd hn (k ls hl)) kk
theorem g_sipush {n : Int} (hd : decode (mC M) pc = .ok (.sipush n, 3)) (hn : (Int16.ofInt n).toInt32 = Int32.ofInt n) (kk : G M scr al alE (pc + 3) L (vI n :: S) w bc bs Q) : G M scr al alE pc L S w bc bs Q :=
  G.st (fun p l e R s m args below meth c H locs cells slots Z ls ad hx hb hown hts hl k => lv_sipush hx hb hd hn (k ls hl)) kk
theorem g_ldcw {n : Int} {v : Int32} {idx : Nat} (hc : Cond.constant (mY M).cls idx v ∈ g_WS) (hd : decode (mC M) pc = .ok (.ldc_w idx, 3)) (hn : v = Int32.ofInt n) (kk : G M scr al alE (pc + 3) L (vI n :: S) w bc bs Q) : G M scr al alE pc L S w bc bs Q :=
  G.st (fun p l e R s m args below meth c H locs cells slots Z ls ad hx hb hown hts hl k => lv_ldcw hx hb hown (hts _ hc) hd (g_top (congrArg Value.int hn) (k ls hl))) kk
theorem g_ldc2 {n : Int} {v : Int64} {idx : Nat} (hc : Cond.constantLong (mY M).cls idx v ∈ g_WS) (hd : decode (mC M) pc = .ok (.ldc2_w idx, 3)) (hn : v = Int64.ofInt n) (kk : G M scr al alE (pc + 3) L (vL n :: S) w bc bs Q) : G M scr al alE pc L S w bc bs Q :=
  G.st (fun p l e R s m args below meth c H locs cells slots Z ls ad hx hb hown hts hl k => lv_ldc2 hx hb hown (hts _ hc) hd (g_top (congrArg Value.long hn) (k ls hl))) kk
theorem g_lconst {n : Fin 2} {z : Int} (hd : decode (mC M) pc = .ok (.lconst n, 1)) (hz : Int64.ofNat (n : Nat) = Int64.ofInt z) (kk : G M scr al alE (pc + 1) L (vL z :: S) w bc bs Q) : G M scr al alE pc L S w bc bs Q :=
  G.st (fun p l e R s m args below meth c H locs cells slots Z ls ad hx hb hown hts hl k => lv_lconst hx hb hd hz (k ls hl)) kk
theorem g_iadd {x y : Int} (hd : decode (mC M) pc = .ok (.iadd, 1)) (kk : G M scr al alE (pc + 1) L (vI (x + y) :: S) w bc bs Q) : G M scr al alE pc L (vI y :: vI x :: S) w bc bs Q :=
  G.st (fun p l e R s m args below meth c H locs cells slots Z ls ad hx hb hown hts hl k => lv_iadd hx hb hd (g_top (congrArg Value.int (Int32.ofInt_add x y).symm) (k ls hl))) kk
theorem g_isub {x y : Int} (hd : decode (mC M) pc = .ok (.isub, 1)) (kk : G M scr al alE (pc + 1) L (vI (x - y) :: S) w bc bs Q) : G M scr al alE pc L (vI y :: vI x :: S) w bc bs Q :=
  G.st (fun p l e R s m args below meth c H locs cells slots Z ls ad hx hb hown hts hl k => lv_isub hx hb hd (g_top (congrArg Value.int (Int32.ofInt_sub x y).symm) (k ls hl))) kk
theorem g_imul {x y : Int} (hd : decode (mC M) pc = .ok (.imul, 1)) (kk : G M scr al alE (pc + 1) L (vI (x * y) :: S) w bc bs Q) : G M scr al alE pc L (vI y :: vI x :: S) w bc bs Q :=
  G.st (fun p l e R s m args below meth c H locs cells slots Z ls ad hx hb hown hts hl k => lv_imul hx hb hd (g_top (congrArg Value.int (Int32.ofInt_mul x y).symm) (k ls hl))) kk
theorem g_idiv {x y : Int} (hd : decode (mC M) pc = .ok (.idiv, 1)) (h1 : -2147483648 ≤ x ∧ x < 2147483648) (h2 : 0 < y ∧ y < 2147483648) (kk : G M scr al alE (pc + 1) L (vI (x.tdiv y) :: S) w bc bs Q) : G M scr al alE pc L (vI y :: vI x :: S) w bc bs Q :=
  G.st (fun p l e R s m args below meth c H locs cells slots Z ls ad hx hb hown hts hl k => lv_idiv hx hb hd (g_n0 h2) (g_top (congrArg Value.int (g_dv h1 h2)) (k ls hl))) kk
theorem g_irem {x y : Int} (hd : decode (mC M) pc = .ok (.irem, 1)) (h1 : -2147483648 ≤ x ∧ x < 2147483648) (h2 : 0 < y ∧ y < 2147483648) (kk : G M scr al alE (pc + 1) L (vI (x.tmod y) :: S) w bc bs Q) : G M scr al alE pc L (vI y :: vI x :: S) w bc bs Q :=
  G.st (fun p l e R s m args below meth c H locs cells slots Z ls ad hx hb hown hts hl k => lv_irem hx hb hd (g_n0 h2) (g_top (congrArg Value.int (g_md h1 h2)) (k ls hl))) kk
/-! bits: by the machine's own words -/
def b_and (x y : Int) : Int := (Int32.ofInt x &&& Int32.ofInt y).toInt
def b_or (x y : Int) : Int := (Int32.ofInt x ||| Int32.ofInt y).toInt
def b_xor (x y : Int) : Int := (Int32.ofInt x ^^^ Int32.ofInt y).toInt
def b_shl (x y : Int) : Int := (Int32.ofInt x <<< (Int32.ofInt y &&& 31)).toInt
def b_shr (x y : Int) : Int := (Int32.ofInt x >>> (Int32.ofInt y &&& 31)).toInt
def b_ushr (x y : Int) : Int := ((Int32.ofInt x).toUInt32 >>> ((Int32.ofInt y).toUInt32 &&& Int32.toUInt32 31)).toInt32.toInt
def b_andL (x y : Int) : Int := (Int64.ofInt x &&& Int64.ofInt y).toInt
def b_orL (x y : Int) : Int := (Int64.ofInt x ||| Int64.ofInt y).toInt
def b_shlL (x y : Int) : Int := (Int64.ofInt x <<< ((Int32.ofInt y).toInt64 &&& 63)).toInt
def b_ushrL (x y : Int) : Int := ((Int64.ofInt x).toUInt64 >>> ((Int32.ofInt y).toInt64.toUInt64 &&& Int64.toUInt64 63)).toInt64.toInt
theorem g_iand {x y : Int} (hd : decode (mC M) pc = .ok (.iand, 1)) (kk : G M scr al alE (pc + 1) L (vI (b_and x y) :: S) w bc bs Q) : G M scr al alE pc L (vI y :: vI x :: S) w bc bs Q :=
  G.st (fun p l e R s m args below meth c H locs cells slots Z ls ad hx hb hown hts hl k => lv_iand hx hb hd (g_top (congrArg Value.int (Int32.ofInt_toInt _).symm) (k ls hl))) kk
theorem g_ior {x y : Int} (hd : decode (mC M) pc = .ok (.ior, 1)) (kk : G M scr al alE (pc + 1) L (vI (b_or x y) :: S) w bc bs Q) : G M scr al alE pc L (vI y :: vI x :: S) w bc bs Q :=
  G.st (fun p l e R s m args below meth c H locs cells slots Z ls ad hx hb hown hts hl k => lv_ior hx hb hd (g_top (congrArg Value.int (Int32.ofInt_toInt _).symm) (k ls hl))) kk
theorem g_ixor {x y : Int} (hd : decode (mC M) pc = .ok (.ixor, 1)) (kk : G M scr al alE (pc + 1) L (vI (b_xor x y) :: S) w bc bs Q) : G M scr al alE pc L (vI y :: vI x :: S) w bc bs Q :=
  G.st (fun p l e R s m args below meth c H locs cells slots Z ls ad hx hb hown hts hl k => lv_ixor hx hb hd (g_top (congrArg Value.int (Int32.ofInt_toInt _).symm) (k ls hl))) kk
theorem g_ishl {x y : Int} (hd : decode (mC M) pc = .ok (.ishl, 1)) (kk : G M scr al alE (pc + 1) L (vI (b_shl x y) :: S) w bc bs Q) : G M scr al alE pc L (vI y :: vI x :: S) w bc bs Q :=
  G.st (fun p l e R s m args below meth c H locs cells slots Z ls ad hx hb hown hts hl k => lv_ishl hx hb hd (g_top (congrArg Value.int (Int32.ofInt_toInt _).symm) (k ls hl))) kk
theorem g_ishr {x y : Int} (hd : decode (mC M) pc = .ok (.ishr, 1)) (kk : G M scr al alE (pc + 1) L (vI (b_shr x y) :: S) w bc bs Q) : G M scr al alE pc L (vI y :: vI x :: S) w bc bs Q :=
  G.st (fun p l e R s m args below meth c H locs cells slots Z ls ad hx hb hown hts hl k => lv_ishr hx hb hd (g_top (congrArg Value.int (Int32.ofInt_toInt _).symm) (k ls hl))) kk
theorem g_iushr {x y : Int} (hd : decode (mC M) pc = .ok (.iushr, 1)) (kk : G M scr al alE (pc + 1) L (vI (b_ushr x y) :: S) w bc bs Q) : G M scr al alE pc L (vI y :: vI x :: S) w bc bs Q :=
  G.st (fun p l e R s m args below meth c H locs cells slots Z ls ad hx hb hown hts hl k => lv_iushr hx hb hd rfl (g_top (congrArg Value.int (Int32.ofInt_toInt _).symm) (k ls hl))) kk
theorem g_land {x y : Int} (hd : decode (mC M) pc = .ok (.land, 1)) (kk : G M scr al alE (pc + 1) L (vL (b_andL x y) :: S) w bc bs Q) : G M scr al alE pc L (vL y :: vL x :: S) w bc bs Q :=
  G.st (fun p l e R s m args below meth c H locs cells slots Z ls ad hx hb hown hts hl k => lv_land hx hb hd (g_top (congrArg Value.long (Int64.ofInt_toInt _).symm) (k ls hl))) kk
theorem g_lor {x y : Int} (hd : decode (mC M) pc = .ok (.lor, 1)) (kk : G M scr al alE (pc + 1) L (vL (b_orL x y) :: S) w bc bs Q) : G M scr al alE pc L (vL y :: vL x :: S) w bc bs Q :=
  G.st (fun p l e R s m args below meth c H locs cells slots Z ls ad hx hb hown hts hl k => lv_lor hx hb hd (g_top (congrArg Value.long (Int64.ofInt_toInt _).symm) (k ls hl))) kk
theorem g_lshl {x y : Int} (hd : decode (mC M) pc = .ok (.lshl, 1)) (kk : G M scr al alE (pc + 1) L (vL (b_shlL x y) :: S) w bc bs Q) : G M scr al alE pc L (vI y :: vL x :: S) w bc bs Q :=
  G.st (fun p l e R s m args below meth c H locs cells slots Z ls ad hx hb hown hts hl k => lv_lshl hx hb hd rfl (g_top (congrArg Value.long (Int64.ofInt_toInt _).symm) (k ls hl))) kk
theorem g_lushr {x y : Int} (hd : decode (mC M) pc = .ok (.lushr, 1)) (kk : G M scr al alE (pc + 1) L (vL (b_ushrL x y) :: S) w bc bs Q) : G M scr al alE pc L (vI y :: vL x :: S) w bc bs Q :=
  G.st (fun p l e R s m args below meth c H locs cells slots Z ls ad hx hb hown hts hl k => lv_lushr hx hb hd rfl (g_top (congrArg Value.long (Int64.ofInt_toInt _).symm) (k ls hl))) kk
theorem g_ladd {x y : Int} (hd : decode (mC M) pc = .ok (.ladd, 1)) (kk : G M scr al alE (pc + 1) L (vL (x + y) :: S) w bc bs Q) : G M scr al alE pc L (vL y :: vL x :: S) w bc bs Q :=
  G.st (fun p l e R s m args below meth c H locs cells slots Z ls ad hx hb hown hts hl k => lv_ladd hx hb hd (g_top (congrArg Value.long (Int64.ofInt_add x y).symm) (k ls hl))) kk
theorem g_lmul {x y : Int} (hd : decode (mC M) pc = .ok (.lmul, 1)) (kk : G M scr al alE (pc + 1) L (vL (x * y) :: S) w bc bs Q) : G M scr al alE pc L (vL y :: vL x :: S) w bc bs Q :=
  G.st (fun p l e R s m args below meth c H locs cells slots Z ls ad hx hb hown hts hl k => lv_lmul hx hb hd (g_top (congrArg Value.long (Int64.ofInt_mul x y).symm) (k ls hl))) kk
theorem g_ldiv {x y : Int} (hd : decode (mC M) pc = .ok (.ldiv, 1)) (h1 : -9223372036854775808 ≤ x ∧ x < 9223372036854775808) (h2 : 0 < y ∧ y < 9223372036854775808) (kk : G M scr al alE (pc + 1) L (vL (x.tdiv y) :: S) w bc bs Q) : G M scr al alE pc L (vL y :: vL x :: S) w bc bs Q :=
  G.st (fun p l e R s m args below meth c H locs cells slots Z ls ad hx hb hown hts hl k => lv_ldiv hx hb hd (g_n0L h2) (g_top (congrArg Value.long (g_dvL h1 h2)) (k ls hl))) kk
theorem g_lrem {x y : Int} (hd : decode (mC M) pc = .ok (.lrem, 1)) (h1 : -9223372036854775808 ≤ x ∧ x < 9223372036854775808) (h2 : 0 < y ∧ y < 9223372036854775808) (kk : G M scr al alE (pc + 1) L (vL (x.tmod y) :: S) w bc bs Q) : G M scr al alE pc L (vL y :: vL x :: S) w bc bs Q :=
  G.st (fun p l e R s m args below meth c H locs cells slots Z ls ad hx hb hown hts hl k => lv_lrem hx hb hd (g_n0L h2) (g_top (congrArg Value.long (g_mdL h1 h2)) (k ls hl))) kk
theorem g_i2l {x : Int} (hd : decode (mC M) pc = .ok (.i2l, 1)) (h1 : -2147483648 ≤ x ∧ x < 2147483648) (kk : G M scr al alE (pc + 1) L (vL x :: S) w bc bs Q) : G M scr al alE pc L (vI x :: S) w bc bs Q :=
  G.st (fun p l e R s m args below meth c H locs cells slots Z ls ad hx hb hown hts hl k => lv_i2l hx hb hd (Int32.toInt64_ofInt (by rw [Int32.toInt_minValue]; omega) (by rw [Int32.toInt_maxValue]; omega)) (k ls hl)) kk
theorem g_l2i {x : Int} (hd : decode (mC M) pc = .ok (.l2i, 1)) (kk : G M scr al alE (pc + 1) L (vI x :: S) w bc bs Q) : G M scr al alE pc L (vL x :: S) w bc bs Q :=
  G.st (fun p l e R s m args below meth c H locs cells slots Z ls ad hx hb hown hts hl k => lv_l2i hx hb hd Int64.toInt32_ofInt (k ls hl)) kk
theorem g_i2c {x : Int} (hd : decode (mC M) pc = .ok (.i2c, 1)) (h1 : 0 ≤ x ∧ x < 65536) (kk : G M scr al alE (pc + 1) L (vI x :: S) w bc bs Q) : G M scr al alE pc L (vI x :: S) w bc bs Q :=
  G.st (fun p l e R s m args below meth c H locs cells slots Z ls ad hx hb hown hts hl k => lv_i2c hx hb hd (lg_i2c_word (by rw [g_ti (by omega)]; omega) (by rw [g_ti (by omega)]; omega)) (k ls hl)) kk
/-- the sign of a difference -/
def b_cmp (x y : Int) : Int := if y < x then 1 else if x = y then 0 else -1
theorem g_lcmp {x y : Int} (hd : decode (mC M) pc = .ok (.lcmp, 1)) (h1 : -9223372036854775808 ≤ x ∧ x < 9223372036854775808) (h2 : -9223372036854775808 ≤ y ∧ y < 9223372036854775808) (kk : G M scr al alE (pc + 1) L (vI (b_cmp x y) :: S) w bc bs Q) : G M scr al alE pc L (vL y :: vL x :: S) w bc bs Q :=
  G.st (fun p l e R s m args below meth c H locs cells slots Z ls ad hx hb hown hts hl k => W.lcmp hx hb hd (g_top (congrArg Value.int (by
    unfold lg_cmp b_cmp
    by_cases a : y < x
    · rw [if_pos a, if_pos ((g_ltL h2 h1).mpr a)]; rfl
    · rw [if_neg a, if_neg (fun z => a ((g_ltL h2 h1).mp z))]
      by_cases b : x = y
      · rw [if_pos b, if_pos ((g_eqL h1 h2).mpr b)]; rfl
      · rw [if_neg b, if_neg (fun z => b ((g_eqL h1 h2).mp z))]; rfl)) (k ls hl))) kk
theorem g_dup {v : MV} (hd : decode (mC M) pc = .ok (.dup, 1)) (hv : ∀ z, v ≠ .inr (.inl z)) (kk : G M scr al alE (pc + 1) L (v :: v :: S) w bc bs Q) : G M scr al alE pc L (v :: S) w bc bs Q :=
  G.st (fun p l e R s m args below meth c H locs cells slots Z ls ad hx hb hown hts hl k => lv_dup hx hb hd (g_cat hv) (k ls hl)) kk
theorem g_dup2 {v u : MV} (hd : decode (mC M) pc = .ok (.dup2, 1)) (hv : ∀ z, v ≠ .inr (.inl z)) (hu : ∀ z, u ≠ .inr (.inl z)) (kk : G M scr al alE (pc + 1) L (v :: u :: v :: u :: S) w bc bs Q) : G M scr al alE pc L (v :: u :: S) w bc bs Q :=
  G.st (fun p l e R s m args below meth c H locs cells slots Z ls ad hx hb hown hts hl k => lv_dup2_11 hx hb hd (g_cat hv) (g_cat hu) (k ls hl)) kk
theorem g_pop {v : MV} (hd : decode (mC M) pc = .ok (.pop, 1)) (hv : ∀ z, v ≠ .inr (.inl z)) (kk : G M scr al alE (pc + 1) L S w bc bs Q) : G M scr al alE pc L (v :: S) w bc bs Q :=
  G.st (fun p l e R s m args below meth c H locs cells slots Z ls ad hx hb hown hts hl k => lv_pop hx hb hd (g_cat hv) (k ls hl)) kk
theorem g_goto {off : Int} {tgt : Nat} (hd : decode (mC M) pc = .ok (.goto off, 3)) (ht : (pc : Int) + off = (tgt : Int)) (kk : G M scr al alE tgt L S w bc bs Q) : G M scr al alE pc L S w bc bs Q :=
  G.st (fun p l e R s m args below meth c H locs cells slots Z ls ad hx hb hown hts hl k => lv_goto hx hb hd ht (k ls hl)) kk
theorem g_tsIn {dflt lo hi : Int} {offs : Array Int} {len : Nat} {x off : Int} {tgt : Nat} (hd : decode (mC M) pc = .ok (.tableswitch dflt lo hi offs, len)) (h0 : -2147483648 ≤ x ∧ x < 2147483648) (h1 : lo ≤ x) (h2 : x ≤ hi) (ho : offs[(x - lo).toNat]? = some off) (ht : (pc : Int) + off = (tgt : Int)) (kk : G M scr al alE tgt L S w bc bs Q) : G M scr al alE pc L (vI x :: S) w bc bs Q :=
  G.st (fun p l e R s m args below meth c H locs cells slots Z ls ad hx hb hown hts hl k => lv_tableIn hx hb hd (by rw [g_ti h0]; omega) (by rw [g_ti h0]; omega) (by rw [g_ti h0]; exact ho) ht (k ls hl)) kk
theorem g_tsOut {dflt lo hi : Int} {offs : Array Int} {len : Nat} {x : Int} {tgt : Nat} (hd : decode (mC M) pc = .ok (.tableswitch dflt lo hi offs, len)) (h0 : -2147483648 ≤ x ∧ x < 2147483648) (h1 : x < lo ∨ hi < x) (ht : (pc : Int) + dflt = (tgt : Int)) (kk : G M scr al alE tgt L S w bc bs Q) : G M scr al alE pc L (vI x :: S) w bc bs Q :=
  G.st (fun p l e R s m args below meth c H locs cells slots Z ls ad hx hb hown hts hl k => lv_tableOut hx hb hd (by rw [g_ti h0]; exact h1) ht (k ls hl)) kk
theorem g_ls {dflt : Int} {ps : Array (Int × Int)} {len : Nat} {x off : Int} {tgt : Nat} (hd : decode (mC M) pc = .ok (.lookupswitch dflt ps, len)) (h0 : -2147483648 ≤ x ∧ x < 2147483648) (hp : (ps.toList.zip (ps.toList.drop 1)).all (fun (a, next) => a.1 < next.1) = true) (ho : Op.lookupswitch.offset ps.toList dflt x = off) (ht : (pc : Int) + off = (tgt : Int)) (kk : G M scr al alE tgt L S w bc bs Q) : G M scr al alE pc L (vI x :: S) w bc bs Q :=
  G.st (fun p l e R s m args below meth c H locs cells slots Z ls ad hx hb hown hts hl k => lv_lookup hx hb hd hp (by rw [g_ti h0]; exact ho) ht (k ls hl)) kk
/-! branches -/
theorem g_c_eq {off : Int} {tgt : Nat} {x y : Int} (hd : decode (mC M) pc = .ok (.if_icmp .eq off, 3)) (h : (-2147483648 ≤ x ∧ x < 2147483648) ∧ -2147483648 ≤ y ∧ y < 2147483648) (ht : (pc : Int) + off = (tgt : Int)) (k1 : x = y → G M scr al alE tgt L S w bc bs Q) (k2 : ¬ x = y → G M scr al alE (pc + 3) L S w bc bs Q) : G M scr al alE pc L (vI y :: vI x :: S) w bc bs Q :=
  G.st2 (fun p l e R s m args below meth c H locs cells slots Z ls ad hx hb a b => lv_icmp_eq hx hb hd ht (fun z => a ((g_eq h.1 h.2).mp z)) (fun z => b (fun q => z ((g_eq h.1 h.2).mpr q)))) k1 k2
theorem g_c_ne {off : Int} {tgt : Nat} {x y : Int} (hd : decode (mC M) pc = .ok (.if_icmp .ne off, 3)) (h : (-2147483648 ≤ x ∧ x < 2147483648) ∧ -2147483648 ≤ y ∧ y < 2147483648) (ht : (pc : Int) + off = (tgt : Int)) (k1 : ¬ x = y → G M scr al alE tgt L S w bc bs Q) (k2 : x = y → G M scr al alE (pc + 3) L S w bc bs Q) : G M scr al alE pc L (vI y :: vI x :: S) w bc bs Q :=
  G.st2 (fun p l e R s m args below meth c H locs cells slots Z ls ad hx hb a b => lv_icmp_ne hx hb hd ht (fun z => a (fun q => z ((g_eq h.1 h.2).mpr q))) (fun z => b ((g_eq h.1 h.2).mp z))) k1 k2
theorem g_c_lt {off : Int} {tgt : Nat} {x y : Int} (hd : decode (mC M) pc = .ok (.if_icmp .lt off, 3)) (h : (-2147483648 ≤ x ∧ x < 2147483648) ∧ -2147483648 ≤ y ∧ y < 2147483648) (ht : (pc : Int) + off = (tgt : Int)) (k1 : x < y → G M scr al alE tgt L S w bc bs Q) (k2 : y ≤ x → G M scr al alE (pc + 3) L S w bc bs Q) : G M scr al alE pc L (vI y :: vI x :: S) w bc bs Q :=
  G.st2 (fun p l e R s m args below meth c H locs cells slots Z ls ad hx hb a b => lv_icmp_lt hx hb hd ht (fun z => a ((g_lt h.1 h.2).mp z)) (fun z => b (Int.not_lt.mp fun q => z ((g_lt h.1 h.2).mpr q)))) k1 k2
theorem g_c_ge {off : Int} {tgt : Nat} {x y : Int} (hd : decode (mC M) pc = .ok (.if_icmp .ge off, 3)) (h : (-2147483648 ≤ x ∧ x < 2147483648) ∧ -2147483648 ≤ y ∧ y < 2147483648) (ht : (pc : Int) + off = (tgt : Int)) (k1 : y ≤ x → G M scr al alE tgt L S w bc bs Q) (k2 : x < y → G M scr al alE (pc + 3) L S w bc bs Q) : G M scr al alE pc L (vI y :: vI x :: S) w bc bs Q :=
  G.st2 (fun p l e R s m args below meth c H locs cells slots Z ls ad hx hb a b => lv_icmp_ge hx hb hd ht (fun z => a ((g_le h.2 h.1).mp z)) (fun z => b (Int.not_le.mp fun q => z ((g_le h.2 h.1).mpr q)))) k1 k2
theorem g_c_gt {off : Int} {tgt : Nat} {x y : Int} (hd : decode (mC M) pc = .ok (.if_icmp .gt off, 3)) (h : (-2147483648 ≤ x ∧ x < 2147483648) ∧ -2147483648 ≤ y ∧ y < 2147483648) (ht : (pc : Int) + off = (tgt : Int)) (k1 : y < x → G M scr al alE tgt L S w bc bs Q) (k2 : x ≤ y → G M scr al alE (pc + 3) L S w bc bs Q) : G M scr al alE pc L (vI y :: vI x :: S) w bc bs Q :=
  G.st2 (fun p l e R s m args below meth c H locs cells slots Z ls ad hx hb a b => lv_icmp_gt hx hb hd ht (fun z => a ((g_lt h.2 h.1).mp z)) (fun z => b (Int.not_lt.mp fun q => z ((g_lt h.2 h.1).mpr q)))) k1 k2
theorem g_c_le {off : Int} {tgt : Nat} {x y : Int} (hd : decode (mC M) pc = .ok (.if_icmp .le off, 3)) (h : (-2147483648 ≤ x ∧ x < 2147483648) ∧ -2147483648 ≤ y ∧ y < 2147483648) (ht : (pc : Int) + off = (tgt : Int)) (k1 : x ≤ y → G M scr al alE tgt L S w bc bs Q) (k2 : y < x → G M scr al alE (pc + 3) L S w bc bs Q) : G M scr al alE pc L (vI y :: vI x :: S) w bc bs Q :=
  G.st2 (fun p l e R s m args below meth c H locs cells slots Z ls ad hx hb a b => lv_icmp_le hx hb hd ht (fun z => a ((g_le h.1 h.2).mp z)) (fun z => b (Int.not_le.mp fun q => z ((g_le h.1 h.2).mpr q)))) k1 k2
theorem g_z_eq {off : Int} {tgt : Nat} {x : Int} (hd : decode (mC M) pc = .ok (.ifCond .eq off, 3)) (h : -2147483648 ≤ x ∧ x < 2147483648) (ht : (pc : Int) + off = (tgt : Int)) (k1 : x = 0 → G M scr al alE tgt L S w bc bs Q) (k2 : ¬ x = 0 → G M scr al alE (pc + 3) L S w bc bs Q) : G M scr al alE pc L (vI x :: S) w bc bs Q :=
  G.st2 (fun p l e R s m args below meth c H locs cells slots Z ls ad hx hb a b => lv_if_eq hx hb hd ht (fun z => a ((g_eq h (y := 0) (by omega)).mp z)) (fun z => b (fun q => z ((g_eq h (y := 0) (by omega)).mpr q)))) k1 k2
theorem g_z_ne {off : Int} {tgt : Nat} {x : Int} (hd : decode (mC M) pc = .ok (.ifCond .ne off, 3)) (h : -2147483648 ≤ x ∧ x < 2147483648) (ht : (pc : Int) + off = (tgt : Int)) (k1 : ¬ x = 0 → G M scr al alE tgt L S w bc bs Q) (k2 : x = 0 → G M scr al alE (pc + 3) L S w bc bs Q) : G M scr al alE pc L (vI x :: S) w bc bs Q :=
  G.st2 (fun p l e R s m args below meth c H locs cells slots Z ls ad hx hb a b => lv_if_ne hx hb hd ht (fun z => a (fun q => z ((g_eq h (y := 0) (by omega)).mpr q))) (fun z => b ((g_eq h (y := 0) (by omega)).mp z))) k1 k2
theorem g_z_lt {off : Int} {tgt : Nat} {x : Int} (hd : decode (mC M) pc = .ok (.ifCond .lt off, 3)) (h : -2147483648 ≤ x ∧ x < 2147483648) (ht : (pc : Int) + off = (tgt : Int)) (k1 : x < 0 → G M scr al alE tgt L S w bc bs Q) (k2 : 0 ≤ x → G M scr al alE (pc + 3) L S w bc bs Q) : G M scr al alE pc L (vI x :: S) w bc bs Q :=
  G.st2 (fun p l e R s m args below meth c H locs cells slots Z ls ad hx hb a b => lv_if_lt hx hb hd ht (fun z => a ((g_lt h (y := 0) (by omega)).mp z)) (fun z => b (Int.not_lt.mp fun q => z ((g_lt h (y := 0) (by omega)).mpr q)))) k1 k2
theorem g_z_ge {off : Int} {tgt : Nat} {x : Int} (hd : decode (mC M) pc = .ok (.ifCond .ge off, 3)) (h : -2147483648 ≤ x ∧ x < 2147483648) (ht : (pc : Int) + off = (tgt : Int)) (k1 : 0 ≤ x → G M scr al alE tgt L S w bc bs Q) (k2 : x < 0 → G M scr al alE (pc + 3) L S w bc bs Q) : G M scr al alE pc L (vI x :: S) w bc bs Q :=
  G.st2 (fun p l e R s m args below meth c H locs cells slots Z ls ad hx hb a b => lv_if_ge hx hb hd ht (fun z => a ((g_le (x := 0) (by omega) h).mp z)) (fun z => b (Int.not_le.mp fun q => z ((g_le (x := 0) (by omega) h).mpr q)))) k1 k2
theorem g_z_gt {off : Int} {tgt : Nat} {x : Int} (hd : decode (mC M) pc = .ok (.ifCond .gt off, 3)) (h : -2147483648 ≤ x ∧ x < 2147483648) (ht : (pc : Int) + off = (tgt : Int)) (k1 : 0 < x → G M scr al alE tgt L S w bc bs Q) (k2 : x ≤ 0 → G M scr al alE (pc + 3) L S w bc bs Q) : G M scr al alE pc L (vI x :: S) w bc bs Q :=
  G.st2 (fun p l e R s m args below meth c H locs cells slots Z ls ad hx hb a b => lv_if_gt hx hb hd ht (fun z => a ((g_lt (x := 0) (by omega) h).mp z)) (fun z => b (Int.not_lt.mp fun q => z ((g_lt (x := 0) (by omega) h).mpr q)))) k1 k2
theorem g_z_le {off : Int} {tgt : Nat} {x : Int} (hd : decode (mC M) pc = .ok (.ifCond .le off, 3)) (h : -2147483648 ≤ x ∧ x < 2147483648) (ht : (pc : Int) + off = (tgt : Int)) (k1 : x ≤ 0 → G M scr al alE tgt L S w bc bs Q) (k2 : 0 < x → G M scr al alE (pc + 3) L S w bc bs Q) : G M scr al alE pc L (vI x :: S) w bc bs Q :=
  G.st2 (fun p l e R s m args below meth c H locs cells slots Z ls ad hx hb a b => lv_if_le hx hb hd ht (fun z => a ((g_le h (y := 0) (by omega)).mp z)) (fun z => b (Int.not_le.mp fun q => z ((g_le h (y := 0) (by omega)).mpr q)))) k1 k2
end GRU
