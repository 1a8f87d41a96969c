/-! WHAT A STATE IS: frames of pages, big groups, values of frames, processes; eager; copies, faults, tears, losses -/
section SP
def ct (p : Nat → Bool) : Nat → Int
  | 0 => 0
  | n + 1 => ct p n + (if p n = true then 1 else 0)
theorem ct_rng (p : Nat → Bool) : ∀ n : Nat, 0 ≤ ct p n ∧ ct p n ≤ n
  | 0 => by simp [ct]
  | n + 1 => by
    have h := ct_rng p n
    rw [ct]
    split <;> omega
theorem ct_cong {p q : Nat → Bool} : ∀ {n : Nat}, (∀ k, k < n → p k = q k) → ct p n = ct q n
  | 0, _ => rfl
  | n + 1, h => by rw [ct, ct, ct_cong (fun k hk => h k (by omega)), h n (by omega)]
theorem ct_yes {p : Nat → Bool} {n : Nat} (h : p n = true) : ct p (n + 1) = ct p n + 1 := by rw [ct, if_pos h]
theorem ct_no {p : Nat → Bool} {n : Nat} (h : ¬ p n = true) : ct p (n + 1) = ct p n := by rw [ct, if_neg h]; omega
theorem ct_zero {p : Nat → Bool} : ∀ {n : Nat}, ct p n = 0 ↔ ∀ k, k < n → ¬ p k = true
  | 0 => ⟨fun _ k hk => absurd hk (Nat.not_lt_zero k), fun _ => rfl⟩
  | n + 1 => by
    have h := ct_rng p n
    constructor
    · intro e k hk
      rw [ct] at e
      by_cases hp : p n = true
      · rw [if_pos hp] at e; omega
      · rw [if_neg hp] at e
        rcases Nat.lt_or_ge k n with q | q
        · exact ct_zero.mp (by omega) k q
        · rw [show k = n by omega]; exact hp
    · intro e
      rw [ct_no (e n (by omega))]
      exact ct_zero.mpr fun k hk => e k (by omega)
/-- the count behind a change at one place -/
theorem ct_upd {p q : Nat → Bool} {i : Nat} : ∀ {n : Nat}, i < n → (∀ k, k ≠ i → q k = p k) → ct q n + (if p i = true then 1 else 0) = ct p n + (if q i = true then 1 else 0)
  | 0, h, _ => absurd h (Nat.not_lt_zero i)
  | n + 1, h, e => by
    rw [ct, ct]
    rcases Nat.lt_or_ge i n with z | z
    · have := ct_upd z e
      rw [e n (by omega)]
      omega
    · have hi : i = n := by omega
      subst hi
      rw [ct_cong (p := q) (q := p) (fun k hk => e k (by omega))]
      omega
/-- the first place with p, -1 without one -/
def ff (p : Nat → Bool) : Nat → Int
  | 0 => -1
  | n + 1 => if ff p n = -1 then (if p n = true then (n : Int) else -1) else ff p n
theorem ff_none {p : Nat → Bool} : ∀ {n : Nat}, (∀ j, j < n → ¬ p j = true) → ff p n = -1
  | 0, _ => rfl
  | n + 1, h => by rw [ff, ff_none (fun j hj => h j (by omega)), if_pos rfl, if_neg (h n (by omega))]
theorem ff_some {p : Nat → Bool} {k : Nat} (hp : p k = true) (hk : ∀ j, j < k → ¬ p j = true) : ∀ {n : Nat}, k < n → ff p n = k
  | 0, h => absurd h (Nat.not_lt_zero k)
  | n + 1, h => by
    rw [ff]
    rcases Nat.lt_or_ge k n with z | z
    · rw [ff_some hp hk z, if_neg (by omega)]
    · have hi : k = n := by omega
      subst hi
      rw [ff_none hk, if_pos rfl, if_pos hp]
theorem ff_cases (p : Nat → Bool) : ∀ n : Nat, (ff p n = -1 ∧ ∀ j, j < n → ¬ p j = true) ∨ ∃ k : Nat, ff p n = k ∧ k < n ∧ p k = true ∧ ∀ j, j < k → ¬ p j = true
  | 0 => Or.inl ⟨rfl, fun j h => absurd h (Nat.not_lt_zero j)⟩
  | n + 1 => by
    rcases ff_cases p n with ⟨h1, h2⟩ | ⟨k, h1, h2, h3, h4⟩
    · by_cases hp : p n = true
      · exact Or.inr ⟨n, by rw [ff, if_pos h1, if_pos hp], by omega, hp, h2⟩
      · refine Or.inl ⟨by rw [ff, if_pos h1, if_neg hp], fun j hj => ?_⟩
        rcases Nat.lt_or_ge j n with z | z
        · exact h2 j z
        · rw [show j = n by omega]; exact hp
    · exact Or.inr ⟨k, ff_some h3 h4 (by omega), by omega, h3, h4⟩
theorem ff_rng (p : Nat → Bool) (n : Nat) : -1 ≤ ff p n ∧ ff p n < n := by
  rcases ff_cases p n with ⟨h1, -⟩ | ⟨k, h1, h2, -⟩ <;> omega
theorem ff_cong {p q : Nat → Bool} : ∀ {n : Nat}, (∀ k, k < n → p k = q k) → ff p n = ff q n
  | 0, _ => rfl
  | n + 1, h => by rw [ff, ff, ff_cong (fun k hk => h k (by omega)), h n (by omega)]
/-- loops -/
theorem lp_up {P : Nat → Prop} (n : Nat) (hx : P n) (hs : ∀ k, k < n → P (k + 1) → P k) : ∀ k, k ≤ n → P k := by
  intro k
  generalize hd : n - k = d
  induction d generalizing k with
  | zero => intro h; rw [show k = n by omega]; exact hx
  | succ d ih => intro h; exact hs k (by omega) (ih (k + 1) (by omega) (by omega))
/-- bits -/
def bsum (f : Nat → Int) : Nat → Int
  | 0 => 0
  | n + 1 => bsum f n + f n * 2 ^ n
abbrev SG : Type := (Nat → Int) × (Nat → Int) × (Nat → Int) × (Nat → Int) × Int × Int × Int × Int × Int
abbrev s_fr (σ : SG) : Nat → Int := σ.1
abbrev s_bg (σ : SG) : Nat → Int := σ.2.1
abbrev s_va (σ : SG) : Nat → Int := σ.2.2.1
abbrev s_ex (σ : SG) : Nat → Int := σ.2.2.2.1
abbrev s_ea (σ : SG) : Int := σ.2.2.2.2.1
abbrev s_co (σ : SG) : Int := σ.2.2.2.2.2.1
abbrev s_fa (σ : SG) : Int := σ.2.2.2.2.2.2.1
abbrev s_te (σ : SG) : Int := σ.2.2.2.2.2.2.2.1
abbrev s_lo (σ : SG) : Int := σ.2.2.2.2.2.2.2.2
def uses (fr : Nat → Int) (f : Int) : Int := ct (fun k => decide (fr k = f)) 64
theorem uses_rng (fr : Nat → Int) (f : Int) : 0 ≤ uses fr f ∧ uses fr f ≤ 64 := ct_rng _ 64
/-- what holds of every state -/
def Inv (σ : SG) : Prop :=
  (∀ k, -1 ≤ s_fr σ k ∧ s_fr σ k < 32) ∧ (∀ k, 64 ≤ k → s_fr σ k = 0) ∧ (∀ k, s_bg σ k = 0 ∨ s_bg σ k = 1) ∧ (∀ k, 16 ≤ k → s_bg σ k = 0) ∧
  (∀ k, 0 ≤ s_va σ k ∧ s_va σ k < 100) ∧ (∀ k, 32 ≤ k → s_va σ k = 0) ∧ (∀ k, s_ex σ k = 0 ∨ s_ex σ k = 1) ∧ (∀ k, 4 ≤ k → s_ex σ k = 0) ∧ (s_ea σ = 0 ∨ s_ea σ = 1) ∧
  (∀ p v : Nat, p < 4 → v < 16 → s_ex σ p = 0 → s_fr σ (16 * p + v) = -1) ∧ (∀ p g : Nat, p < 4 → g < 4 → s_ex σ p = 0 → s_bg σ (4 * p + g) = 0)
/-! the class's object of a state -/
abbrev MSm : Type := (Nat → Int) × (Nat → Int) × (Nat → Int) × Int × Int × Int × Int × Int × Int × Int
def mem (σ : SG) : MSm := (s_fr σ, fun f => uses (s_fr σ) f, s_va σ, bsum (s_ex σ) 4, bsum (s_bg σ) 16, s_ea σ, s_co σ, s_fa σ, s_te σ, s_lo σ)
abbrev memL (a : Nat) (m : MSm) : List MV := [vR (a + 1), vR (a + 2), vR (a + 3), vI m.2.2.2.1, vI m.2.2.2.2.1, vI m.2.2.2.2.2.1, vI m.2.2.2.2.2.2.1, vI m.2.2.2.2.2.2.2.1, vI m.2.2.2.2.2.2.2.2.1, vI m.2.2.2.2.2.2.2.2.2]
def setM (w : List MC) (a : Nat) (m : MSm) : List MC := (((w.set a (cObj 1 (memL a m))).set (a + 1) (cArr 0 64 m.1)).set (a + 2) (cArr 0 32 m.2.1)).set (a + 3) (cArr 0 32 m.2.2.1)
def okM (w : List MC) (a : Nat) : Prop := a + 3 < w.length
theorem m_len {w : List MC} {a : Nat} {m : MSm} : (setM w a m).length = w.length := by simp [setM]
theorem m_at0 {w : List MC} {a : Nat} {m : MSm} (h : okM w a) : (setM w a m)[a]? = some (cObj 1 (memL a m)) := by
  unfold okM at h; unfold setM
  rw [List.getElem?_set_ne (by omega), List.getElem?_set_ne (by omega), List.getElem?_set_ne (by omega), List.getElem?_set_self (by omega)]
theorem m_at1 {w : List MC} {a : Nat} {m : MSm} (h : okM w a) : (setM w a m)[a + 1]? = some (cArr 0 64 m.1) := by
  unfold okM at h; unfold setM
  rw [List.getElem?_set_ne (by omega), List.getElem?_set_ne (by omega), List.getElem?_set_self (by simp; omega)]
theorem m_at2 {w : List MC} {a : Nat} {m : MSm} (h : okM w a) : (setM w a m)[a + 2]? = some (cArr 0 32 m.2.1) := by
  unfold okM at h; unfold setM
  rw [List.getElem?_set_ne (by omega), List.getElem?_set_self (by simp; omega)]
theorem m_at3 {w : List MC} {a : Nat} {m : MSm} (h : okM w a) : (setM w a m)[a + 3]? = some (cArr 0 32 m.2.2.1) := by
  unfold okM at h; unfold setM
  rw [List.getElem?_set_self (by simp; omega)]
theorem m_out {w : List MC} {a j : Nat} {m : MSm} (h : j < a ∨ a + 3 < j) : (setM w a m)[j]? = w[j]? := by
  unfold setM
  rw [List.getElem?_set_ne (by omega), List.getElem?_set_ne (by omega), List.getElem?_set_ne (by omega), List.getElem?_set_ne (by omega)]
theorem m_ext {w w' : List MC} {a : Nat} {m : MSm} (h : okM w a) (h0 : w'[a]? = some (cObj 1 (memL a m))) (h1 : w'[a + 1]? = some (cArr 0 64 m.1)) (h2 : w'[a + 2]? = some (cArr 0 32 m.2.1)) (h3 : w'[a + 3]? = some (cArr 0 32 m.2.2.1)) (ho : ∀ j, j < a ∨ a + 3 < j → w'[j]? = w[j]?) : w' = setM w a m := by
  apply List.ext_getElem?
  intro j
  by_cases q : j < a ∨ a + 3 < j
  · rw [ho j q, m_out q]
  · rcases (by omega : j = a ∨ j = a + 1 ∨ j = a + 2 ∨ j = a + 3) with rfl | rfl | rfl | rfl
    · rw [h0, m_at0 h]
    · rw [h1, m_at1 h]
    · rw [h2, m_at2 h]
    · rw [h3, m_at3 h]
theorem m_set0 {w : List MC} {a : Nat} {m m' : MSm} (h : okM w a) (e1 : m'.1 = m.1) (e2 : m'.2.1 = m.2.1) (e3 : m'.2.2.1 = m.2.2.1) : (setM w a m).set a (cObj 1 (memL a m')) = setM w a m' := by
  have hl : a < (setM w a m).length := by rw [m_len]; unfold okM at h; omega
  refine m_ext h (List.getElem?_set_self hl) ?_ ?_ ?_ (fun j hj => ?_)
  · rw [List.getElem?_set_ne (by omega), m_at1 h, e1]
  · rw [List.getElem?_set_ne (by omega), m_at2 h, e2]
  · rw [List.getElem?_set_ne (by omega), m_at3 h, e3]
  · rw [List.getElem?_set_ne (by omega), m_out hj]
theorem m_set1 {w : List MC} {a : Nat} {m : MSm} {f : Nat → Int} (h : okM w a) : (setM w a m).set (a + 1) (cArr 0 64 f) = setM w a (f, m.2) := by
  have hl : a + 1 < (setM w a m).length := by rw [m_len]; unfold okM at h; omega
  refine m_ext h ?_ (List.getElem?_set_self hl) ?_ ?_ (fun j hj => ?_)
  · rw [List.getElem?_set_ne (by omega), m_at0 h]
  · rw [List.getElem?_set_ne (by omega), m_at2 h]
  · rw [List.getElem?_set_ne (by omega), m_at3 h]
  · rw [List.getElem?_set_ne (by omega), m_out hj]
theorem m_set2 {w : List MC} {a : Nat} {m : MSm} {f : Nat → Int} (h : okM w a) : (setM w a m).set (a + 2) (cArr 0 32 f) = setM w a (m.1, f, m.2.2) := by
  have hl : a + 2 < (setM w a m).length := by rw [m_len]; unfold okM at h; omega
  refine m_ext h ?_ ?_ (List.getElem?_set_self hl) ?_ (fun j hj => ?_)
  · rw [List.getElem?_set_ne (by omega), m_at0 h]
  · rw [List.getElem?_set_ne (by omega), m_at1 h]
  · rw [List.getElem?_set_ne (by omega), m_at3 h]
  · rw [List.getElem?_set_ne (by omega), m_out hj]
theorem m_set3 {w : List MC} {a : Nat} {m : MSm} {f : Nat → Int} (h : okM w a) : (setM w a m).set (a + 3) (cArr 0 32 f) = setM w a (m.1, m.2.1, f, m.2.2.2) := by
  have hl : a + 3 < (setM w a m).length := by rw [m_len]; unfold okM at h; omega
  refine m_ext h ?_ ?_ ?_ (List.getElem?_set_self hl) (fun j hj => ?_)
  · rw [List.getElem?_set_ne (by omega), m_at0 h]
  · rw [List.getElem?_set_ne (by omega), m_at1 h]
  · rw [List.getElem?_set_ne (by omega), m_at2 h]
  · rw [List.getElem?_set_ne (by omega), m_out hj]
theorem m_m {w : List MC} {a : Nat} {m m' : MSm} (h : okM w a) : setM (setM w a m) a m' = setM w a m' := by
  have h' : okM (setM w a m) a := by unfold okM at h ⊢; rw [m_len]; exact h
  exact m_ext h (m_at0 h') (m_at1 h') (m_at2 h') (m_at3 h') (fun j hj => by rw [m_out hj, m_out hj])
/-- a method that ends in one way -/
def dt (r0 : Option MV) (w1 : List MC) : (Option MV) ⊕ String → List MC → Prop := fun r w' => r = .inl r0 ∧ w' = w1
section
variable {M : MT} {scr : Option (Nat × (Nat → Int))} {al alE : Bool} {pc : Nat} {L : List (Option MV)} {S : List MV} {w w1 : List MC} {bc bs : Nat} {Q : (Option MV) ⊕ String → List MC → Prop}
theorem G.eqw {w' : List MC} (h : w = w') (k : G M scr al alE pc L S w' bc bs Q) : G M scr al alE pc L S w bc bs Q := h ▸ k
theorem G.eqL {L' : List (Option MV)} (h : L = L') (k : G M scr al alE pc L' S w bc bs Q) : G M scr al alE pc L S w bc bs Q := h ▸ k
theorem G.eqS {v v' : MV} (h : v = v') (k : G M scr al alE pc L (v' :: S) w bc bs Q) : G M scr al alE pc L (v :: S) w bc bs Q := h ▸ k
/-- calls of methods that end in one way, on an object b, by the number of their arguments -/
theorem g_vv {Mj : MT} {idx b n ci : Nat} {fs as : List MV} {r0 : Option MV} (hok : g_okV Mj n) (hh : mH Mj = []) (hlink : Cond.methodLink (mY M).cls idx (mY Mj) ∈ g_WS) (hd : decode (mC M) pc = .ok (.invokevirtual idx, 3)) (hw : w[b]? = some (cObj ci fs)) (hc : ∃ (T : u_T) (N : Nat), vwCl[ci]? = some ((mY Mj).cls, T, N)) (hn : as.length = n)
    (hent : (g_ent (vR b :: as)).length ≤ mL Mj) (hroom : mF Mj + 1 ≤ mF M ∧ 8 + (mL Mj + 11) + mO Mj ≤ mO M) (hsz : g_sz S ≤ 8) (hj : GM Mj al (vR b :: as) w 0 0 (dt r0 w1)) (hlen : w1.length = w.length) (kk : G M scr al alE (pc + 3) L (r0.toList ++ S) w1 bc bs Q) : G M scr al alE pc L (as.reverse ++ vR b :: S) w bc bs Q :=
  g_callV hok hh hlink hd hw hc hn hent hroom hsz ⟨Nat.zero_le _, Nat.zero_le _⟩ hj (fun _ r w' h => by rw [h.2, hlen]; rfl) (fun r w' h => by cases h.1; rw [h.2]; exact kk) (fun E w' h => nomatch h.1)
theorem g_v0 {Mj : MT} {idx b ci : Nat} {fs : List MV} {r0 : Option MV} (hok : g_okV Mj 0) (hh : mH Mj = []) (hlink : Cond.methodLink (mY M).cls idx (mY Mj) ∈ g_WS) (hd : decode (mC M) pc = .ok (.invokevirtual idx, 3)) (hw : w[b]? = some (cObj ci fs)) (hc : ∃ (T : u_T) (N : Nat), vwCl[ci]? = some ((mY Mj).cls, T, N))
    (hent : 1 ≤ mL Mj) (hroom : mF Mj + 1 ≤ mF M ∧ 8 + (mL Mj + 11) + mO Mj ≤ mO M) (hsz : g_sz S ≤ 8) (hj : GM Mj al [vR b] w 0 0 (dt r0 w1)) (hlen : w1.length = w.length) (kk : G M scr al alE (pc + 3) L (r0.toList ++ S) w1 bc bs Q) : G M scr al alE pc L (vR b :: S) w bc bs Q :=
  g_vv (as := []) hok hh hlink hd hw hc rfl hent hroom hsz hj hlen kk
theorem g_v1 {Mj : MT} {idx b ci : Nat} {fs : List MV} {r0 : Option MV} {x : Int} (hok : g_okV Mj 1) (hh : mH Mj = []) (hlink : Cond.methodLink (mY M).cls idx (mY Mj) ∈ g_WS) (hd : decode (mC M) pc = .ok (.invokevirtual idx, 3)) (hw : w[b]? = some (cObj ci fs)) (hc : ∃ (T : u_T) (N : Nat), vwCl[ci]? = some ((mY Mj).cls, T, N))
    (hent : 2 ≤ mL Mj) (hroom : mF Mj + 1 ≤ mF M ∧ 8 + (mL Mj + 11) + mO Mj ≤ mO M) (hsz : g_sz S ≤ 8) (hj : GM Mj al [vR b, vI x] w 0 0 (dt r0 w1)) (hlen : w1.length = w.length) (kk : G M scr al alE (pc + 3) L (r0.toList ++ S) w1 bc bs Q) : G M scr al alE pc L (vI x :: vR b :: S) w bc bs Q :=
  g_vv (as := [vI x]) hok hh hlink hd hw hc rfl hent hroom hsz hj hlen kk
theorem g_v2 {Mj : MT} {idx b ci : Nat} {fs : List MV} {r0 : Option MV} {x y : Int} (hok : g_okV Mj 2) (hh : mH Mj = []) (hlink : Cond.methodLink (mY M).cls idx (mY Mj) ∈ g_WS) (hd : decode (mC M) pc = .ok (.invokevirtual idx, 3)) (hw : w[b]? = some (cObj ci fs)) (hc : ∃ (T : u_T) (N : Nat), vwCl[ci]? = some ((mY Mj).cls, T, N))
    (hent : 3 ≤ mL Mj) (hroom : mF Mj + 1 ≤ mF M ∧ 8 + (mL Mj + 11) + mO Mj ≤ mO M) (hsz : g_sz S ≤ 8) (hj : GM Mj al [vR b, vI x, vI y] w 0 0 (dt r0 w1)) (hlen : w1.length = w.length) (kk : G M scr al alE (pc + 3) L (r0.toList ++ S) w1 bc bs Q) : G M scr al alE pc L (vI y :: vI x :: vR b :: S) w bc bs Q :=
  g_vv (as := [vI x, vI y]) hok hh hlink hd hw hc rfl hent hroom hsz hj hlen kk
theorem g_v3 {Mj : MT} {idx b ci : Nat} {fs : List MV} {r0 : Option MV} {x y z : Int} (hok : g_okV Mj 3) (hh : mH Mj = []) (hlink : Cond.methodLink (mY M).cls idx (mY Mj) ∈ g_WS) (hd : decode (mC M) pc = .ok (.invokevirtual idx, 3)) (hw : w[b]? = some (cObj ci fs)) (hc : ∃ (T : u_T) (N : Nat), vwCl[ci]? = some ((mY Mj).cls, T, N))
    (hent : 4 ≤ mL Mj) (hroom : mF Mj + 1 ≤ mF M ∧ 8 + (mL Mj + 11) + mO Mj ≤ mO M) (hsz : g_sz S ≤ 8) (hj : GM Mj al [vR b, vI x, vI y, vI z] w 0 0 (dt r0 w1)) (hlen : w1.length = w.length) (kk : G M scr al alE (pc + 3) L (r0.toList ++ S) w1 bc bs Q) : G M scr al alE pc L (vI z :: vI y :: vI x :: vR b :: S) w bc bs Q :=
  g_vv (as := [vI x, vI y, vI z]) hok hh hlink hd hw hc rfl hent hroom hsz hj hlen kk
end
theorem hc_0 : ∃ (T : u_T) (N : Nat), vwCl[0]? = some (RX0, T, N) := ⟨_, _, rfl⟩
theorem hc_1 : ∃ (T : u_T) (N : Nat), vwCl[1]? = some (RX1, T, N) := ⟨_, _, rfl⟩
theorem hc_2 : ∃ (T : u_T) (N : Nat), vwCl[2]? = some (RX2, T, N) := ⟨_, _, rfl⟩
theorem hc_3 : ∃ (T : u_T) (N : Nat), vwCl[3]? = some (RX3, T, N) := ⟨_, _, rfl⟩
end SP
