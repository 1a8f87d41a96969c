/-! WHAT THE LAW NEEDS OF EVERY STATE: the pages of a big group have frames; how forks and ends change bits -/
section BB9
def BI (σ : SG) : Prop := ∀ k : Nat, k < 64 → s_bg σ (k / 4) = 1 → s_fr σ k ≠ -1
theorem bi_fr {σ : SG} (h : BI σ) {k : Nat} {x : Int} (hx : x ≠ -1) : BI (s_setfr σ k x) := by
  intro j hj hb
  show va_up (s_fr σ) k x j ≠ -1
  by_cases q : j = k
  · rw [q, up_s]; exact hx
  · rw [up_n q]; exact h j hj hb
theorem bi_fr0 {σ : SG} (h : BI σ) {k : Nat} {x : Int} (h0 : ¬ s_bg σ (k / 4) = 1) : BI (s_setfr σ k x) := by
  intro j hj hb
  show va_up (s_fr σ) k x j ≠ -1
  by_cases q : j = k
  · subst q; exact absurd hb h0
  · rw [up_n q]; exact h j hj hb
theorem bi_bg0 {σ : SG} (h : BI σ) {k : Nat} : BI (s_setbg σ k 0) := by
  intro j hj hb
  have hb1 : va_up (s_bg σ) k 0 (j / 4) = 1 := hb
  by_cases q : j / 4 = k
  · rw [q, up_s] at hb1; exact absurd hb1 (by decide)
  · rw [up_n q] at hb1; exact h j hj hb1
theorem bi_bg1 {σ : SG} (h : BI σ) {k : Nat} (hf : ∀ i : Nat, i < 4 → s_fr σ (4 * k + i) ≠ -1) : BI (s_setbg σ k 1) := by
  intro j hj hb
  have hb1 : va_up (s_bg σ) k 1 (j / 4) = 1 := hb
  by_cases q : j / 4 = k
  · have := hf (j % 4) (by omega)
    rw [show 4 * k + j % 4 = j by omega] at this
    exact this
  · rw [up_n q] at hb1; exact h j hj hb1
theorem bi_torn {σ : SG} (h : BI σ) (p g : Int) : BI (s_torn σ p g) := bi_bg0 h
theorem bi_tsf {σ : SG} (h : BI σ) (p v : Int) : BI (s_tsf σ p v) := by
  unfold s_tsf
  split
  · exact h
  · rename_i q; exact bi_fr h q
theorem bi_co {σ : SG} (h : BI σ) (n : Int) : BI (s_addco σ n) := h
theorem bi_cop {σ : SG} (h : BI σ) (p v : Int) : BI (s_cop σ p v) := by
  unfold s_cop
  refine bi_co (bi_tsf ?_ p v) 1
  split
  · exact bi_torn h _ _
  · exact h
theorem bi_wh {σ : SG} (h : BI σ) (p g : Int) {r : Int} (hr : 0 ≤ r) : ∀ j : Nat, BI (s_wh σ p g r j)
  | 0 => h
  | j + 1 => bi_fr (bi_wh h p g hr j) (by omega)
theorem bi_who {σ : SG} (h : BI σ) {p g r : Int} (hp : 0 ≤ p ∧ p < 4) (hg : 0 ≤ g ∧ g < 4) (hr : 0 ≤ r) : BI (s_who σ p g r) := by
  refine bi_bg1 (bi_wh h p g hr 4) (fun i hi => ?_)
  have e := wh_in σ (p := p) (g := g) r hp hg (j := 4) (i := i) (by omega) hi
  rw [show 4 * (4 * p + g).toNat + i = (16 * p + (4 * g + (i : Int))).toNat by omega, e]
  omega
theorem bi_bri {σ : SG} (h : BI σ) {p v : Int} (hp : 0 ≤ p ∧ p < 4) (hv : 0 ≤ v ∧ v < 16) : BI (s_bri σ p v) := by
  have d9 := Int.tdiv_eq_ediv_of_nonneg (a := v) (b := 4) (by omega)
  have h1 := lfr_rng σ
  show BI (if s_ea σ = 1 ∧ lfr σ ≠ -1 ∧ pf σ p (v.tdiv 4) = 0 then s_who σ p (v.tdiv 4) (lfr σ) else s_tsf σ p v)
  split
  · exact bi_who h hp (by omega) (by omega)
  · exact bi_tsf h p v
theorem bi_wri {σ : SG} (h : BI σ) {p v : Int} (hp : 0 ≤ p ∧ p < 4) (hv : 0 ≤ v ∧ v < 16) (x : Int) : BI (s_wri σ p v x) := by
  have h1 : BI (s_wri1 σ p v) := by
    unfold s_wri1
    split
    · exact bi_bri h hp hv
    · split
      · exact h
      · exact bi_cop h p v
  unfold s_wri
  split
  · exact h1
  · exact h1
theorem bi_mv {σ : SG} (h : BI σ) (p g : Int) {r : Int} (hr : 0 ≤ r) : ∀ j : Nat, BI (s_mv σ p g r j)
  | 0 => h
  | j + 1 => bi_fr (σ := s_setva (s_mv σ p g r j) (4 * r + j).toNat (vo (s_mv σ p g r j) p (4 * g + j))) (bi_mv h p g hr j) (by omega)
theorem mv_in (σ : SG) {p g : Int} (r : Int) (hp : 0 ≤ p ∧ p < 4) (hg : 0 ≤ g ∧ g < 4) : ∀ {j i : Nat}, j ≤ 4 → i < j → s_fr (s_mv σ p g r j) (16 * p + (4 * g + i)).toNat = 4 * r + i
  | 0, i, _, h => absurd h (Nat.not_lt_zero i)
  | j + 1, i, h1, h2 => by
    show va_up (s_fr (s_mv σ p g r j)) (16 * p + (4 * g + (j : Int))).toNat (4 * r + j) _ = _
    by_cases q : i = j
    · subst q; rw [up_s]
    · rw [up_n (by omega)]
      exact mv_in σ r hp hg (by omega) (by omega)
theorem bi_mar {σ : SG} (h : BI σ) {p g : Int} (hp : 0 ≤ p ∧ p < 4) (hg : 0 ≤ g ∧ g < 4) (hw : wn σ p g = 0) : BI (s_mar σ p g) := by
  obtain ⟨a, b, c, d⟩ := wn_0 hw
  have h1 := lfr_rng σ
  unfold s_mar
  split
  · refine bi_bg1 h (fun i hi => ?_)
    have e := pf_all b (j := i) hi
    rw [fo_in hp (by omega)] at e
    rw [show 4 * (4 * p + g).toNat + i = (16 * p + (4 * g + (i : Int))).toNat by omega]
    exact e
  · rename_i q
    have d1 : lfr σ ≠ -1 := d.resolve_left q
    refine bi_bg1 (bi_mv h p g (r := lfr σ) (by omega) 4) (fun i hi => ?_)
    have e := mv_in σ (p := p) (g := g) (lfr σ) hp hg (j := 4) (i := i) (by omega) hi
    rw [show 4 * (4 * p + g).toNat + i = (16 * p + (4 * g + (i : Int))).toNat by omega, e]
    omega
theorem li_small {σ : SG} (h : li σ ≠ -1) : ¬ s_bg σ ((li σ).toNat / 4) = 1 := by
  rcases ff_cases (fun k => !(big σ ((k / 16 : Nat) : Int) ((k % 16 / 4 : Nat) : Int)) && decide (uo σ ((k / 16 : Nat) : Int) ((k % 16 : Nat) : Int) = 1) && decide (vo σ ((k / 16 : Nat) : Int) ((k % 16 : Nat) : Int) = 0)) 64 with ⟨h1, -⟩ | ⟨k, h1, h2, h3, -⟩
  · exact absurd h1 h
  · have e : li σ = k := h1
    rw [e, Int.toNat_natCast]
    rw [Bool.and_eq_true, Bool.and_eq_true, Bool.not_eq_true'] at h3
    intro q
    have hb : big σ ((k / 16 : Nat) : Int) ((k % 16 / 4 : Nat) : Int) = true := by
      unfold big
      refine decide_eq_true ⟨by omega, by omega, by omega, by omega, ?_⟩
      rw [show (4 * ((k / 16 : Nat) : Int) + ((k % 16 / 4 : Nat) : Int)).toNat = k / 4 by omega]
      exact q
    rw [hb] at h3
    exact absurd h3.1.1 (by decide)
theorem bi_pst {σ : SG} (h : BI σ) (n : Int) : BI (pst σ n) := by
  unfold pst
  split
  · exact h
  · split
    · rename_i q; exact bi_fr0 h (li_small q)
    · split
      · exact bi_torn h _ _
      · exact h
theorem bi_itp {σ : SG} (h : BI σ) (n : Int) : ∀ j : Nat, BI (itp σ n j)
  | 0 => h
  | j + 1 => bi_pst (bi_itp h n j) n
theorem bi_pre {σ : SG} (h : BI σ) (n : Int) : BI (s_pre σ n) := bi_itp h n 80
theorem bi_dn {σ : SG} (h : BI σ) : BI (dn σ) := by
  unfold dn
  split
  · rename_i q
    obtain ⟨h1, h2, h3⟩ := nxt_ok q
    exact bi_mar h ⟨h1.1, h1.2.1⟩ h2 h3
  · exact h
theorem bi_itm {σ : SG} (h : BI σ) : ∀ j : Nat, BI (itm σ j)
  | 0 => h
  | j + 1 => bi_dn (bi_itm h j)
theorem bi_new : BI s_new := by
  intro k hk hb
  have : s_bg s_new (k / 4) = 0 := rfl
  omega
/-! forks and ends, page by page -/
theorem fk_in (σ : SG) {p c : Int} (hp : 0 ≤ p ∧ p < 4) (hc : 0 ≤ c ∧ c < 4) (hn : p ≠ c) : ∀ {j i : Nat}, j ≤ 16 → i < j → s_fr (s_fk σ p c j) (16 * c + i).toNat = s_fr σ (16 * p + i).toNat
  | 0, i, _, h => absurd h (Nat.not_lt_zero i)
  | j + 1, i, h1, h2 => by
    show va_up (s_fr (s_fk σ p c j)) (16 * c + (j : Int)).toNat (fo (s_fk σ p c j) p j) _ = _
    by_cases q : i = j
    · subst q
      rw [up_s, fo_in hp (by omega), fk_fr σ p c (fun i' h' => by omega)]
    · rw [up_n (by omega)]
      exact fk_in σ hp hc hn (by omega) (by omega)
theorem fb_in (σ : SG) {p c : Int} (hb : ∀ k, s_bg σ k = 0 ∨ s_bg σ k = 1) (hp : 0 ≤ p ∧ p < 4) (hc : 0 ≤ c ∧ c < 4) (hn : p ≠ c) : ∀ {j i : Nat}, j ≤ 4 → i < j → s_bg (s_fb σ p c j) (4 * c + i).toNat = s_bg σ (4 * p + i).toNat
  | 0, i, _, h => absurd h (Nat.not_lt_zero i)
  | j + 1, i, h1, h2 => by
    show va_up (s_bg (s_fb σ p c j)) (4 * c + (j : Int)).toNat (b2 (big (s_fb σ p c j) p j)) _ = _
    by_cases q : i = j
    · subst q
      rw [up_s]
      have e : s_bg (s_fb σ p c i) (4 * p + (i : Int)).toNat = s_bg σ (4 * p + (i : Int)).toNat := fb_bg σ p c (fun i' h' => by omega)
      rcases hb (4 * p + (i : Int)).toNat with z | z
      · rw [z]
        refine b2_f fun y => ?_
        have := (of_decide_eq_true y).2.2.2.2
        rw [e, z] at this
        exact absurd this (by decide)
      · rw [z]
        exact b2_t (decide_eq_true ⟨hp.1, hp.2, by omega, by omega, by rw [e]; exact z⟩)
    · rw [up_n (by omega)]
      exact fb_in σ hb hp hc hn (by omega) (by omega)
theorem fb_fr (σ : SG) (p c : Int) : ∀ j, s_fr (s_fb σ p c j) = s_fr σ
  | 0 => rfl
  | j + 1 => fb_fr σ p c j
theorem for_fr {σ : SG} {p : Int} (hp : 0 ≤ p ∧ p < 4) (hc : lup σ ≠ -1) (hn : p ≠ lup σ) {k : Nat} : s_fr (s_for σ p) k = if k / 16 = (lup σ).toNat then s_fr σ (16 * p.toNat + k % 16) else s_fr σ k := by
  have h1 := lup_rng σ
  unfold s_for
  rw [fb_fr]
  by_cases q : k / 16 = (lup σ).toNat
  · rw [if_pos q]
    have e := fk_in (s_setex σ (lup σ).toNat 1) hp (c := lup σ) (by omega) hn (j := 16) (i := k % 16) (by omega) (by omega)
    rw [show (16 * lup σ + ((k % 16 : Nat) : Int)).toNat = k by omega, show (16 * p + ((k % 16 : Nat) : Int)).toNat = 16 * p.toNat + k % 16 by omega] at e
    exact e
  · rw [if_neg q]
    exact fk_fr (s_setex σ (lup σ).toNat 1) p (lup σ) (fun i hi => by omega)
theorem for_bg {σ : SG} (hi : Inv σ) {p : Int} (hp : 0 ≤ p ∧ p < 4) (hc : lup σ ≠ -1) (hn : p ≠ lup σ) {k : Nat} : s_bg (s_for σ p) k = if k / 4 = (lup σ).toNat then s_bg σ (4 * p.toNat + k % 4) else s_bg σ k := by
  have h1 := lup_rng σ
  unfold s_for
  have e0 : s_bg (s_fk (s_setex σ (lup σ).toNat 1) p (lup σ) 16) = s_bg σ := fk_bg (s_setex σ (lup σ).toNat 1) p (lup σ) 16
  by_cases q : k / 4 = (lup σ).toNat
  · rw [if_pos q]
    have e := fb_in (s_fk (s_setex σ (lup σ).toNat 1) p (lup σ) 16) (by rw [e0]; exact hi.2.2.1) hp (c := lup σ) (by omega) hn (j := 4) (i := k % 4) (by omega) (by omega)
    rw [e0, show (4 * lup σ + ((k % 4 : Nat) : Int)).toNat = k by omega, show (4 * p + ((k % 4 : Nat) : Int)).toNat = 4 * p.toNat + k % 4 by omega] at e
    exact e
  · rw [if_neg q]
    rw [fb_bg (s_fk (s_setex σ (lup σ).toNat 1) p (lup σ) 16) p (lup σ) (fun i hi => by omega), e0]
theorem for_ex {σ : SG} {p : Int} : s_ex (s_for σ p) = va_up (s_ex σ) (lup σ).toNat 1 := by
  unfold s_for
  rw [fb_ex, fk_ex]
  rfl
theorem lup_ne {σ : SG} (hi : Inv σ) {p : Int} (hP : hasP σ p = true) (hc : lup σ ≠ -1) : p ≠ lup σ := by
  intro q
  have h1 := lup_ex hi hc
  have h2 := (ex_of hP).2.2
  rw [q, h1] at h2
  exact absurd h2 (by decide)
theorem bi_for {σ : SG} (hi : Inv σ) (h : BI σ) {p : Int} (hP : hasP σ p = true) (hc : lup σ ≠ -1) : BI (s_for σ p) := by
  have hp := ex_of hP
  have hn := lup_ne hi hP hc
  have h1 := lup_rng σ
  intro k hk hb
  rw [for_bg hi ⟨hp.1, hp.2.1⟩ hc hn] at hb
  rw [for_fr ⟨hp.1, hp.2.1⟩ hc hn]
  by_cases q : k / 16 = (lup σ).toNat
  · rw [if_pos q]
    rw [if_pos (by omega)] at hb
    refine h (16 * p.toNat + k % 16) (by omega) ?_
    rw [show (16 * p.toNat + k % 16) / 4 = 4 * p.toNat + k / 4 % 4 by omega]
    exact hb
  · rw [if_neg q]
    rw [if_neg (by omega)] at hb
    exact h k hk hb
theorem le_out (σ : SG) {p : Int} (hp : 0 ≤ p ∧ p < 4) {k : Nat} (h : k / 16 ≠ p.toNat) : ∀ {j : Nat}, j ≤ 16 → s_fr (s_le σ p j) k = s_fr σ k
  | 0, _ => rfl
  | j + 1, h1 => by
    show va_up (s_fr (s_le σ p j)) (16 * p + (j : Int)).toNat (-1) k = _
    rw [up_n (by omega)]
    exact le_out σ hp h (by omega)
theorem ls_out (σ : SG) {p : Int} (hp : 0 ≤ p ∧ p < 4) {k : Nat} (h : k / 4 ≠ p.toNat) : ∀ {j : Nat}, j ≤ 4 → s_bg (s_ls σ p j) k = s_bg σ k
  | 0, _ => rfl
  | j + 1, h1 => by
    show va_up (s_bg (s_ls σ p j)) (4 * p + (j : Int)).toNat 0 k = _
    rw [up_n (by omega)]
    exact ls_out σ hp h (by omega)
theorem le_bg (σ : SG) (p : Int) : ∀ j, s_bg (s_le σ p j) = s_bg σ
  | 0 => rfl
  | j + 1 => le_bg σ p j
theorem le_ex (σ : SG) (p : Int) : ∀ j, s_ex (s_le σ p j) = s_ex σ
  | 0 => rfl
  | j + 1 => le_ex σ p j
theorem ls_ex (σ : SG) (p : Int) : ∀ j, s_ex (s_ls σ p j) = s_ex σ
  | 0 => rfl
  | j + 1 => ls_ex σ p j
theorem end_fr {σ : SG} {p : Int} (hp : 0 ≤ p ∧ p < 4) {k : Nat} : s_fr (s_end σ p) k = if k / 16 = p.toNat then -1 else s_fr σ k := by
  show s_fr (s_ls (s_le σ p 16) p 4) k = _
  rw [ls_fr]
  by_cases q : k / 16 = p.toNat
  · rw [if_pos q]
    have e := le_fr σ hp (j := 16) (k % 16) (by omega)
    rw [show 16 * p.toNat + k % 16 = k by omega] at e
    exact e
  · rw [if_neg q]; exact le_out σ hp q (by omega)
theorem end_bg {σ : SG} {p : Int} (hp : 0 ≤ p ∧ p < 4) {k : Nat} : s_bg (s_end σ p) k = if k / 4 = p.toNat then 0 else s_bg σ k := by
  show s_bg (s_ls (s_le σ p 16) p 4) k = _
  by_cases q : k / 4 = p.toNat
  · rw [if_pos q]
    have e := ls_bg (s_le σ p 16) hp (j := 4) (k % 4) (by omega)
    rw [show 4 * p.toNat + k % 4 = k by omega] at e
    exact e
  · rw [if_neg q, ls_out _ hp q (by omega), le_bg]
theorem end_ex {σ : SG} {p : Int} : s_ex (s_end σ p) = va_up (s_ex σ) p.toNat 0 := by
  show va_up (s_ex (s_ls (s_le σ p 16) p 4)) p.toNat 0 = _
  rw [ls_ex, le_ex]
theorem bi_end {σ : SG} (h : BI σ) {p : Int} (hp : 0 ≤ p ∧ p < 4) : BI (s_end σ p) := by
  intro k hk hb
  rw [end_bg hp] at hb
  rw [end_fr hp]
  by_cases q : k / 4 / 4 = p.toNat
  · rw [if_pos q] at hb; exact absurd hb (by decide)
  · rw [if_neg q] at hb
    rw [if_neg (by omega)]
    exact h k hk hb
/-! forks and ends in the law's words -/
theorem um_for {σ : SG} (hi : Inv σ) {p : Int} (hP : hasP σ p = true) (hc : lup σ ≠ -1) (f : Nat) : b_orL (um (s_fr σ) f) (b_shlL (b_andL (b_shrL (um (s_fr σ) f) (16 * p)) 65535) (16 * lup σ)) = um (s_fr (s_for σ p)) f := by
  have hp := ex_of hP
  have hn := lup_ne hi hP hc
  have h1 := lup_rng σ
  have he := lup_ex hi hc
  obtain ⟨a, ha⟩ := Int.eq_ofNat_of_zero_le hp.1
  obtain ⟨b, hb⟩ := Int.eq_ofNat_of_zero_le (show 0 ≤ lup σ by omega)
  rw [show 16 * p = ((16 * a : Nat) : Int) by omega, show 16 * lup σ = ((16 * b : Nat) : Int) by omega, ← m_16]
  unfold um
  rw [m_shr _ (by omega), m_and, m_shl _ (by omega), m_or]
  refine pL_cong fun i hi9 => ?_
  rw [for_fr ⟨hp.1, hp.2.1⟩ hc hn]
  by_cases q : i / 16 = (lup σ).toNat
  · rw [if_pos q]
    have e1 : s_fr σ i = -1 := by
      have := hi.2.2.2.2.2.2.2.2.2.1 (lup σ).toNat (i % 16) (by omega) (by omega) he
      rw [show 16 * (lup σ).toNat + i % 16 = i by omega] at this
      exact this
    rw [e1, if_pos (by omega), show 16 * a + (i - 16 * b) = 16 * p.toNat + i % 16 by omega]
    have e2 : decide ((-1 : Int) = (f : Int)) = false := decide_eq_false (by omega)
    have e3 : decide (16 * b ≤ i) = true := by simp; omega
    have e4 : decide (i - 16 * b < 16) = true := by simp; omega
    rw [e2, e3, e4]
    simp
  · rw [if_neg q]
    have e : (decide (16 * b ≤ i) && decide (i - 16 * b < 16)) = false := by simp; omega
    cases h7 : decide (16 * b ≤ i) with
    | false => simp
    | true =>
      rw [h7] at e
      have e4 : decide (i - 16 * b < 16) = false := by simpa using e
      rw [e4]; simp
theorem um_end {σ : SG} {p : Int} (hp : 0 ≤ p ∧ p < 4) (f : Nat) : b_andL (um (s_fr σ) f) (b_xorL (b_shlL 65535 (16 * p)) (-1)) = um (s_fr (s_end σ p)) f := by
  obtain ⟨a, ha⟩ := Int.eq_ofNat_of_zero_le hp.1
  rw [show 16 * p = ((16 * a : Nat) : Int) by omega, ← m_16]
  unfold um
  rw [m_shl _ (by omega), m_not, m_and]
  refine pL_cong fun i hi9 => ?_
  rw [end_fr hp]
  by_cases q : i / 16 = p.toNat
  · rw [if_pos q]
    have e2 : decide ((-1 : Int) = (f : Int)) = false := decide_eq_false (by omega)
    have e3 : decide (16 * a ≤ i) = true := by simp; omega
    have e4 : decide (i - 16 * a < 16) = true := by simp; omega
    rw [e2, e3, e4]
    simp
  · rw [if_neg q]
    have e : (decide (16 * a ≤ i) && decide (i - 16 * a < 16)) = false := by simp; omega
    rw [e]; simp
theorem b_for {σ : SG} (hi : Inv σ) {p : Int} (hP : hasP σ p = true) (hc : lup σ ≠ -1) : b_or (bsum (s_bg σ) 16) (b_shl (b_and (b_shr (bsum (s_bg σ) 16) (4 * p)) 15) (4 * lup σ)) = bsum (s_bg (s_for σ p)) 16 := by
  have hp := ex_of hP
  have hn := lup_ne hi hP hc
  have h1 := lup_rng σ
  have he := lup_ex hi hc
  obtain ⟨a, ha⟩ := Int.eq_ofNat_of_zero_le hp.1
  obtain ⟨b, hb⟩ := Int.eq_ofNat_of_zero_le (show 0 ≤ lup σ by omega)
  have hB := bN_lt (s_bg σ) 16
  have hB2 := bN_lt (s_bg (s_for σ p)) 16
  rw [show 4 * p = ((4 * a : Nat) : Int) by omega, show 4 * lup σ = ((4 * b : Nat) : Int) by omega, bN_eq hi.2.2.1, bN_eq (inv_for hi (p := p) hc).2.2.1]
  rw [z_shr (by omega) (by omega), show (15 : Int) = ((15 : Nat) : Int) from rfl, z_andN (Nat.lt_of_le_of_lt (Nat.div_le_self _ _) (by omega))]
  unfold b_or b_shl
  rw [Int32.ofInt_toInt, z_of, z_of, z_of, ← nI_toInt (show bN (s_bg (s_for σ p)) 16 < 2 ^ 31 by omega)]
  refine congrArg Int32.toInt (z_ext fun i hi9 => ?_)
  rw [z_or, z_nI _ hi9, z_nI _ hi9, z_shl (4 * b) (by omega) _ hi9, z_nI _ (by omega), bN_bit, bN_bit, Nat.testBit_and, ← Nat.shiftRight_eq_div_pow, Nat.testBit_shiftRight, bN_bit, for_bg hi ⟨hp.1, hp.2.1⟩ hc hn]
  have t15 : ∀ m : Nat, Nat.testBit 15 m = decide (m < 4) := by
    intro m
    rw [show (15 : Nat) = 2 ^ 4 - 1 from rfl, Nat.testBit_two_pow_sub_one]
  rw [t15]
  by_cases q : i / 4 = (lup σ).toNat
  · rw [if_pos q]
    have e1 : s_bg σ i = 0 := by
      have := hi.2.2.2.2.2.2.2.2.2.2 (lup σ).toNat (i % 4) (by omega) (by omega) he
      rw [show 4 * (lup σ).toNat + i % 4 = i by omega] at this
      exact this
    rw [e1, show 4 * a + (i - 4 * b) = 4 * p.toNat + i % 4 by omega]
    have e2 : decide (4 * b ≤ i) = true := by simp; omega
    have e3 : decide (i - 4 * b < 4) = true := by simp; omega
    have e4 : decide (i < 16) = true := by simp; omega
    have e5 : decide (4 * p.toNat + i % 4 < 16) = true := by simp; omega
    rw [e2, e3, e4, e5]
    simp
  · rw [if_neg q]
    have e : (decide (4 * b ≤ i) && decide (i - 4 * b < 4)) = false := by simp; omega
    cases h7 : decide (4 * b ≤ i) with
    | false => simp
    | true =>
      rw [h7] at e
      have e4 : decide (i - 4 * b < 4) = false := by simpa using e
      rw [e4]; simp
theorem b_end {σ : SG} (hi : Inv σ) {p : Int} (hp : 0 ≤ p ∧ p < 4) : b_and (bsum (s_bg σ) 16) (b_xor (b_shl 15 (4 * p)) (-1)) = bsum (s_bg (s_end σ p)) 16 := by
  obtain ⟨a, ha⟩ := Int.eq_ofNat_of_zero_le hp.1
  have hB := bN_lt (s_bg σ) 16
  have hB2 := bN_lt (s_bg (s_end σ p)) 16
  rw [show 4 * p = ((4 * a : Nat) : Int) by omega, bN_eq hi.2.2.1, bN_eq (inv_end hi hp).2.2.1]
  unfold b_and b_xor b_shl
  rw [Int32.ofInt_toInt, Int32.ofInt_toInt, z_of, z_of, show (15 : Int) = ((15 : Nat) : Int) from rfl, z_of, ← nI_toInt (show bN (s_bg (s_end σ p)) 16 < 2 ^ 31 by omega)]
  refine congrArg Int32.toInt (z_ext fun i hi9 => ?_)
  have t15 : ∀ m : Nat, Nat.testBit 15 m = decide (m < 4) := by
    intro m
    rw [show (15 : Nat) = 2 ^ 4 - 1 from rfl, Nat.testBit_two_pow_sub_one]
  rw [z_and, z_xor, z_nI _ hi9, z_nI _ hi9, z_shl (4 * a) (by omega) _ hi9, z_nI _ (by omega), bN_bit, bN_bit, show Int32.ofInt (-1) = -1 from rfl, z_m1 i hi9, t15, end_bg hp]
  by_cases q : i / 4 = p.toNat
  · rw [if_pos q]
    have e2 : decide (4 * a ≤ i) = true := by simp; omega
    have e3 : decide (i - 4 * a < 4) = true := by simp; omega
    rw [e2, e3]
    simp
  · rw [if_neg q]
    have e : (decide (4 * a ≤ i) && decide (i - 4 * a < 4)) = false := by simp; omega
    rw [e]; simp
/-- is it the only one -/
theorem only_iff {σ : SG} (hi : Inv σ) {p : Int} (hP : hasP σ p = true) : bsum (s_ex σ) 4 = b_shl 1 p ↔ ¬ canE σ p = true := by
  have hp := ex_of hP
  have hx := hi.2.2.2.2.2.2.1
  have x0 := hx 0
  have x1 := hx 1
  have x2 := hx 2
  have x3 := hx 3
  have e1 : bsum (s_ex σ) 4 = s_ex σ 0 + s_ex σ 1 * 2 + s_ex σ 2 * 4 + s_ex σ 3 * 8 := by
    show ((((0 : Int) + s_ex σ 0 * 2 ^ 0) + s_ex σ 1 * 2 ^ 1) + s_ex σ 2 * 2 ^ 2) + s_ex σ 3 * 2 ^ 3 = _
    rw [show (2 : Int) ^ 0 = 1 from rfl, show (2 : Int) ^ 1 = 2 from rfl, show (2 : Int) ^ 2 = 4 from rfl, show (2 : Int) ^ 3 = 8 from rfl]
    omega
  have hb : ∀ k : Nat, (if decide (s_ex σ k = 1) = true then (1 : Int) else 0) = s_ex σ k := by
    intro k
    rcases hx k with q | q <;> rw [q] <;> decide
  have e2 : nex σ = s_ex σ 0 + s_ex σ 1 + s_ex σ 2 + s_ex σ 3 := by
    show (((0 : Int) + (if decide (s_ex σ 0 = 1) = true then 1 else 0)) + (if decide (s_ex σ 1 = 1) = true then 1 else 0)) + (if decide (s_ex σ 2 = 1) = true then 1 else 0) + (if decide (s_ex σ 3 = 1) = true then 1 else 0) = _
    rw [hb, hb, hb, hb]
    omega
  have hE : canE σ p = true ↔ 1 < nex σ := by
    unfold canE
    rw [hP, Bool.true_and, decide_eq_true_eq]
  rw [hE, e1, e2]
  have h3 := hp.2.2
  rcases (by omega : p = 0 ∨ p = 1 ∨ p = 2 ∨ p = 3) with rfl | rfl | rfl | rfl
  · rw [show b_shl 1 0 = 1 by decide]
    have h4 : s_ex σ 0 = 1 := h3
    omega
  · rw [show b_shl 1 1 = 2 by decide]
    have h4 : s_ex σ 1 = 1 := h3
    omega
  · rw [show b_shl 1 2 = 4 by decide]
    have h4 : s_ex σ 2 = 1 := h3
    omega
  · rw [show b_shl 1 3 = 8 by decide]
    have h4 : s_ex σ 3 = 1 := h3
    omega
/-! there is always a process -/
theorem nex_for {σ : SG} (hi : Inv σ) {p : Int} (hc : lup σ ≠ -1) : nex (s_for σ p) = nex σ + 1 := by
  have h1 := lup_rng σ
  have he := lup_ex hi hc
  have h := ct_upd (p := fun j => decide (s_ex σ j = 1)) (q := fun j => decide (va_up (s_ex σ) (lup σ).toNat 1 j = 1)) (i := (lup σ).toNat) (n := 4) (by omega) (fun j hj => by simp only [up_n hj])
  simp only [up_s, decide_eq_true_eq, he] at h
  unfold nex
  rw [for_ex]
  rw [if_neg (by decide), if_pos trivial] at h
  omega
theorem nex_end {σ : SG} {p : Int} (hE : canE σ p = true) : 0 < nex (s_end σ p) := by
  rw [canE, Bool.and_eq_true, decide_eq_true_eq] at hE
  have hp := ex_of hE.1
  have h := ct_upd (p := fun j => decide (s_ex σ j = 1)) (q := fun j => decide (va_up (s_ex σ) p.toNat 0 j = 1)) (i := p.toNat) (n := 4) (by omega) (fun j hj => by simp only [up_n hj])
  simp only [up_s, decide_eq_true_eq, hp.2.2] at h
  rw [if_pos trivial, if_neg (by decide)] at h
  have h2 : 1 < ct (fun j => decide (s_ex σ j = 1)) 4 := hE.2
  unfold nex
  rw [end_ex]
  omega
theorem pst_ex (σ : SG) (n : Int) : s_ex (pst σ n) = s_ex σ := by
  unfold pst
  (repeat' split) <;> rfl
theorem itp_ex (σ : SG) (n : Int) : ∀ j, s_ex (itp σ n j) = s_ex σ
  | 0 => rfl
  | j + 1 => by
    have e : itp σ n (j + 1) = pst (itp σ n j) n := by rw [itp]
    rw [e, pst_ex, itp_ex σ n j]
theorem mar_ex (σ : SG) (p g : Int) : s_ex (s_mar σ p g) = s_ex σ := by
  unfold s_mar
  split
  · rfl
  · exact mv_ex σ p g (lfr σ) 4
theorem nex_of {σ τ : SG} (h : s_ex τ = s_ex σ) : nex τ = nex σ := by unfold nex; rw [h]
/-! the frames that a group comes into, or leaves -/
theorem wh_us {σ : SG} {p g r : Int} (hp : 0 ≤ p ∧ p < 4) (hg : 0 ≤ g ∧ g < 4) (hr : 0 ≤ r) (h0 : ∀ i : Nat, i < 4 → s_fr σ (16 * p + (4 * g + i)).toNat = -1) (hf : rf σ r = true) : ∀ {j i : Nat}, j ≤ i → i < 4 → uses (s_fr (s_wh σ p g r j)) (4 * r + i) = 0
  | 0, i, _, h2 => by
    have h3 := (rf_iff hr).mp hf
    rcases (by omega : i = 0 ∨ i = 1 ∨ i = 2 ∨ i = 3) with rfl | rfl | rfl | rfl
    · rw [show (4 * r + ((0 : Nat) : Int)) = 4 * r by omega]; exact h3.1
    · exact h3.2.1
    · exact h3.2.2.1
    · exact h3.2.2.2
  | j + 1, i, h1, h2 => by
    have ih := wh_us hp hg hr h0 hf (j := j) (i := i) (by omega) h2
    have e0 : s_fr (s_wh σ p g r j) (16 * p + (4 * g + (j : Int))).toNat = -1 := by
      rw [wh_fr σ p g r (fun i' h' => by omega)]
      exact h0 j (by omega)
    have h4 := uses_up (s_fr (s_wh σ p g r j)) (k := (16 * p + (4 * g + (j : Int))).toNat) (4 * r + j) (4 * r + i) (by omega)
    rw [e0, if_neg (by omega), if_neg (by omega)] at h4
    show uses (va_up (s_fr (s_wh σ p g r j)) (16 * p + (4 * g + (j : Int))).toNat (4 * r + j)) (4 * r + i) = 0
    omega
theorem rf_us {σ : SG} {r : Int} (hr : 0 ≤ r) (hf : rf σ r = true) {i : Nat} (h2 : i < 4) : uses (s_fr σ) (4 * r + i) = 0 := by
  have h3 := (rf_iff hr).mp hf
  rcases (by omega : i = 0 ∨ i = 1 ∨ i = 2 ∨ i = 3) with rfl | rfl | rfl | rfl
  · rw [show (4 * r + ((0 : Nat) : Int)) = 4 * r by omega]; exact h3.1
  · exact h3.2.1
  · exact h3.2.2.1
  · exact h3.2.2.2
theorem mv_us {σ : SG} {p g r : Int} (hp : 0 ≤ p ∧ p < 4) (hg : 0 ≤ g ∧ g < 4) (hr : 0 ≤ r) (h0 : ∀ i : Nat, i < 4 → fo σ p (4 * g + i) ≠ -1 ∧ uses (s_fr σ) (fo σ p (4 * g + i)) = 1) (hf : rf σ r = true) : ∀ {j : Nat}, j ≤ 4 → (∀ i : Nat, j ≤ i → i < 4 → uses (s_fr (s_mv σ p g r j)) (4 * r + i) = 0 ∧ uses (s_fr (s_mv σ p g r j)) (fo σ p (4 * g + i)) = 1)
  | 0, _ => fun i _ h2 => ⟨rf_us hr hf h2, (h0 i h2).2⟩
  | j + 1, hj => fun i h1 h2 => by
    have ih := mv_us hp hg hr h0 hf (j := j) (by omega)
    have e0 : s_fr (s_mv σ p g r j) (16 * p + (4 * g + (j : Int))).toNat = fo σ p (4 * g + j) := by
      rw [mv_fr σ p g r (fun i' h' => by omega), fo_in hp (by omega)]
    have ei : s_fr (s_mv σ p g r j) (16 * p + (4 * g + (i : Int))).toNat = fo σ p (4 * g + i) := by
      rw [mv_fr σ p g r (fun i' h' => by omega), fo_in hp (by omega)]
    have f1 : ∀ (a b : Nat), a < 4 → b < 4 → fo σ p (4 * g + (a : Int)) ≠ 4 * r + (b : Int) := by
      intro a b ha hb q
      have z1 := rf_us hr hf hb
      have z2 := (h0 a ha).2
      rw [q] at z2
      omega
    have h4 := uses_up (s_fr (s_mv σ p g r j)) (k := (16 * p + (4 * g + (j : Int))).toNat) (4 * r + j) (4 * r + i) (by omega)
    have h5 := uses_up (s_fr (s_mv σ p g r j)) (k := (16 * p + (4 * g + (j : Int))).toNat) (4 * r + j) (fo σ p (4 * g + i)) (by omega)
    rw [e0] at h4 h5
    rw [if_neg (f1 j i (by omega) h2), if_neg (by omega)] at h4
    rw [if_neg (show ¬ 4 * r + (j : Int) = fo σ p (4 * g + (i : Int)) from fun q => f1 i j h2 (by omega) q.symm)] at h5
    have i1 := ih i (by omega) h2
    have hpos : 0 < uses (va_up (s_fr (s_mv σ p g r j)) (16 * p + (4 * g + (j : Int))).toNat (4 * r + j)) (fo σ p (4 * g + (i : Int))) := uses_pos (k := (16 * p + (4 * g + (i : Int))).toNat) (by omega) (by rw [up_n (by omega), ei])
    constructor
    · show uses (va_up (s_fr (s_mv σ p g r j)) (16 * p + (4 * g + (j : Int))).toNat (4 * r + j)) (4 * r + i) = 0
      omega
    · show uses (va_up (s_fr (s_mv σ p g r j)) (16 * p + (4 * g + (j : Int))).toNat (4 * r + j)) (fo σ p (4 * g + i)) = 1
      split at h5 <;> omega
end BB9
