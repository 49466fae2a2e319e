/-! Formats as numbers; what both sides say of them -/
def vf (e f kd : Nat) : Prop := 2 ≤ e ∧ e ≤ 8 ∧ 1 ≤ f ∧ f ≤ 23 ∧ kd ≤ 2
def q_lim (e f kd : Nat) : Nat := if kd = 0 then (2 ^ e - 1) * 2 ^ f else 2 ^ (e + f) - 1
def q_nan (e f kd : Nat) : Nat := if kd = 0 then q_lim e f kd + 2 ^ (f - 1) else q_lim e f kd
/-- the place, counted from 2 to the power -352, of the least top -/
def q_L (e : Nat) : Nat := 354 - 2 ^ (e - 1)
def FM (e f kd : Nat) : hx_Fm := (nI e, nI f, nI kd, nI (e + f), nI (q_lim e f kd), nI (q_nan e f kd), iI ((q_L e : Int) - 352), iI ((q_L e : Int) - 352 - f))
def q_sort (e f kd u : Nat) : Nat := if u % 2 ^ (e + f) = 0 then 0 else if u % 2 ^ (e + f) < q_lim e f kd then (if u % 2 ^ (e + f) / 2 ^ f = 0 then 1 else 2) else if kd = 0 ∧ u % 2 ^ (e + f) = q_lim e f kd then 3 else 4
def q_m (e f kd u : Nat) : Nat := if q_sort e f kd u = 1 then u % 2 ^ f else if q_sort e f kd u = 2 then u % 2 ^ f + 2 ^ f else 0
/-- the place of the last bit -/
def q_p (e f kd u : Nat) : Nat := if q_sort e f kd u = 1 then q_L e - f else q_L e - f + (u % 2 ^ (e + f) / 2 ^ f - 1)
theorem l_shr {a k : Nat} (h : a < 2 ^ 62) (hk : k < 64) : lN a >>> ((nI k).toInt64 &&& 63) = lN (a / 2 ^ k) := by
  refine pf_shr ?_ h
  rw [wb_c k hk, wb_tb, wb_sm k hk, BitVec.toNat_ofNat]
  exact Nat.mod_eq_of_lt (by omega)
theorem q_w {e f kd : Nat} (h : vf e f kd) : 2 ^ (e + f) ≤ 2147483648 := by
  obtain ⟨h1, h2, h3, h4, h5⟩ := h
  have : 2 ^ (e + f) ≤ 2 ^ 31 := Nat.pow_le_pow_right (by decide) (by omega)
  simpa using this
theorem q_tab1 : ∀ e, e < 9 → ∀ f, f < 24 → ∀ kd, kd < 3 → 2 ≤ e → 1 ≤ f → q_lim e f kd < 2 ^ (e + f) := by decide +kernel
theorem q_tab2 : ∀ e, e < 9 → ∀ f, f < 24 → ∀ kd, kd < 3 → 2 ≤ e → 1 ≤ f → q_nan e f kd < 2 ^ (e + f) := by decide +kernel
theorem q_tab3 : ∀ e, e < 9 → ∀ f, f < 24 → ∀ kd, kd < 3 → 2 ≤ e → 1 ≤ f → q_lim e f kd ≤ q_nan e f kd := by decide +kernel
theorem q_tab4 : ∀ e, e < 9 → ∀ f, f < 24 → ∀ kd, kd < 3 → 2 ≤ e → 1 ≤ f → 2 ^ f < q_lim e f kd := by decide +kernel
theorem q_limlt {e f kd : Nat} (h : vf e f kd) : q_lim e f kd < 2 ^ (e + f) ∧ 0 < q_lim e f kd ∧ q_nan e f kd < 2 ^ (e + f) ∧ q_lim e f kd ≤ q_nan e f kd ∧ 2 ^ f < q_lim e f kd := by
  obtain ⟨h1, h2, h3, h4, h5⟩ := h
  have a4 := q_tab4 e (by omega) f (by omega) kd (by omega) h1 h3
  exact ⟨q_tab1 e (by omega) f (by omega) kd (by omega) h1 h3, Nat.lt_of_le_of_lt (Nat.zero_le _) a4, q_tab2 e (by omega) f (by omega) kd (by omega) h1 h3, q_tab3 e (by omega) f (by omega) kd (by omega) h1 h3, a4⟩
theorem q_Lb : ∀ e, e < 9 → 2 ≤ e → 226 ≤ q_L e ∧ q_L e ≤ 352 := by decide +kernel
def mF (τ : hm_S) (k e f kd : Nat) : Prop := k < 4 ∧ vf e f kd ∧ hm_fE τ k = nI e ∧ hm_fF τ k = nI f ∧ hm_fK τ k = nI kd
theorem hg4 {k : Nat} (hk : k < 4) : (nI k < 0 ∨ 4 ≤ k) = False := eq_false (by
  have := nI_pos (n := k) (by omega)
  rintro (h | h)
  · exact this h
  · omega)
theorem hc4 {k : Nat} (hk : k < 4) : (nI k).toNatClampNeg = k := nI_clamp (by omega)
theorem t_sb : ∀ e, e < 9 → ∀ f, f < 24 → (1 : Int64) <<< ((nI e + nI f).toInt64 &&& 63) = lN (2 ^ (e + f)) := by decide +kernel
theorem m_signBit {τ : hm_S} {k e f kd : Nat} (h : mF τ k e f kd) : f_M_signBit τ (nI k) = some (lN (2 ^ (e + f))) := by
  obtain ⟨hk, ⟨h1, h2, h3, h4, h5⟩, hE, hF, hK⟩ := h
  simp only [f_M_signBit, hc4 hk, hg4 hk, if_false, hE, hF]
  rw [t_sb e (by omega) f (by omega)]
theorem t_bias : ∀ e, e < 9 → 2 ≤ e → ((1 : Int32) <<< ((nI e - (1 : Int32)) &&& 31)) - (1 : Int32) = iI (353 - q_L e) := by decide +kernel
theorem m_bias {τ : hm_S} {k e f kd : Nat} (h : mF τ k e f kd) : f_M_bias τ (nI k) = some (iI (353 - q_L e)) := by
  obtain ⟨hk, ⟨h1, h2, h3, h4, h5⟩, hE, hF, hK⟩ := h
  simp only [f_M_bias, hc4 hk, hg4 hk, if_false, hE]
  rw [t_bias e (by omega) h1]
theorem t_lim0 : ∀ e, e < 9 → ∀ f, f < 24 → ((((1 : Int64) <<< ((nI e).toInt64 &&& 63)) - (1 : Int64)) <<< ((nI f).toInt64 &&& 63)) = lN ((2 ^ e - 1) * 2 ^ f) := by decide +kernel
theorem kd0 {kd : Nat} (h : kd ≤ 2) : (nI kd = 0) = (kd = 0) := by
  rw [show (0 : Int32) = nI 0 from rfl, nI_eq (by omega) (by omega)]
theorem m_limit {τ : hm_S} {k e f kd : Nat} (h : mF τ k e f kd) : f_M_limit τ (nI k) = some (lN (q_lim e f kd)) := by
  have hs := m_signBit h
  obtain ⟨hk, ⟨h1, h2, h3, h4, h5⟩, hE, hF, hK⟩ := h
  simp only [f_M_limit, hc4 hk, hg4 hk, if_false, hE, hF, hK, hs, hx_b1_some, kd0 h5, q_lim]
  by_cases hd : kd = 0
  · rw [if_pos hd, if_pos hd, t_lim0 e (by omega) f (by omega)]
  · rw [if_neg hd, if_neg hd]
    show some (lN (2 ^ (e + f)) - lN 1) = _
    rw [lN_sub (Nat.one_le_two_pow)]
theorem t_nan0 : ∀ e, e < 9 → ∀ f, f < 24 → 1 ≤ f → 2 ≤ e → lN (q_lim e f 0) ||| ((1 : Int64) <<< ((nI f - (1 : Int32)).toInt64 &&& 63)) = lN (q_lim e f 0 + 2 ^ (f - 1)) := by decide +kernel
theorem m_nan {τ : hm_S} {k e f kd : Nat} (h : mF τ k e f kd) : f_M_nan τ (nI k) = some (lN (q_nan e f kd)) := by
  have hs := m_limit h
  obtain ⟨hk, ⟨h1, h2, h3, h4, h5⟩, hE, hF, hK⟩ := h
  simp only [f_M_nan, hc4 hk, hg4 hk, if_false, hF, hK, hs, hx_b1_some, kd0 h5, q_nan]
  by_cases hd : kd = 0
  · subst hd
    rw [if_pos rfl, if_pos rfl, t_nan0 e (by omega) f (by omega) h3 h1]
  · rw [if_neg hd, if_neg hd]
theorem lN_m1 {n : Nat} (h : 1 ≤ n) : lN n - (1 : Int64) = lN (n - 1) := lN_sub h
theorem c_lt {a b : Nat} (ha : a < 2 ^ 63) (hb : b < 2 ^ 63) : (lg_cmp (lN a) (lN b) < 0) = (a < b) := by rw [lg_cmp_lt, pk_lLT ha hb]
theorem c_eq {a b : Nat} (ha : a < 2 ^ 63) (hb : b < 2 ^ 63) : (lg_cmp (lN a) (lN b) = 0) = (a = b) := by rw [lg_cmp_eq, pk_lEQ ha hb]
theorem c_ge {a b : Nat} (ha : a < 2 ^ 63) (hb : b < 2 ^ 63) : (0 ≤ lg_cmp (lN a) (lN b)) = (b ≤ a) := by rw [lg_cmp_ge, pk_lLE hb ha]
theorem c_eq0 {a : Nat} (ha : a < 2 ^ 63) : (lg_cmp (lN a) (0 : Int64) = 0) = (a = 0) := c_eq (b := 0) ha (by decide)
theorem q_rest {e f kd : Nat} (h : vf e f kd) (u : Nat) : u % 2 ^ (e + f) < 2147483648 := Nat.lt_of_lt_of_le (Nat.mod_lt _ (Nat.two_pow_pos _)) (q_w h)
theorem m_rest {e f kd : Nat} (h : vf e f kd) {u : Nat} (hu : u < 4294967296) : lN u &&& (lN (2 ^ (e + f)) - (1 : Int64)) = lN (u % 2 ^ (e + f)) := by
  obtain ⟨h1, h2, h3, h4, h5⟩ := h
  rw [lN_m1 Nat.one_le_two_pow, wb_mask (by omega) (by omega)]
theorem m_sortOf {τ : hm_S} {k e f kd : Nat} (h : mF τ k e f kd) {u : Nat} (hu : u < 4294967296) : f_M_sortOf τ (nI k) (lN u) = some (nI (q_sort e f kd u)) := by
  have hs := m_signBit h
  have hl := m_limit h
  have hv := h.2.1
  have hr := q_rest hv u
  have hw := q_w hv
  have hlt := (q_limlt hv).1
  obtain ⟨hk, ⟨h1, h2, h3, h4, h5⟩, hE, hF, hK⟩ := h
  simp only [f_M_sortOf, hs, hl, hx_b1_some, hx_n_eq, m_rest hv hu, hc4 hk, hg4 hk, if_false, hF, hK, kd0 h5, l_shr (a := u % 2 ^ (e + f)) (by omega) (show f < 64 by omega), c_eq0 (a := u % 2 ^ (e + f)) (by omega),
    c_lt (a := u % 2 ^ (e + f)) (b := q_lim e f kd) (by omega) (by omega), c_eq (a := u % 2 ^ (e + f)) (b := q_lim e f kd) (by omega) (by omega), c_eq0 (a := u % 2 ^ (e + f) / 2 ^ f) (Nat.lt_of_le_of_lt (Nat.div_le_self _ _) (by omega)), q_sort]
  by_cases c1 : u % 2 ^ (e + f) = 0
  · simp only [c1, if_true]; rfl
  · by_cases c2 : u % 2 ^ (e + f) < q_lim e f kd
    · by_cases c3 : u % 2 ^ (e + f) / 2 ^ f = 0 <;> simp only [c1, c2, c3, if_true, if_false] <;> rfl
    · by_cases c4 : kd = 0
      · by_cases c5 : u % 2 ^ (e + f) = q_lim e f kd
        · rw [if_neg c1, if_neg c2, if_pos c4, if_pos c5, if_neg c1, if_neg c2, if_pos ⟨c4, c5⟩]; rfl
        · rw [if_neg c1, if_neg c2, if_pos c4, if_neg c5, if_neg c1, if_neg c2, if_neg (fun z => c5 z.2)]; rfl
      · rw [if_neg c1, if_neg c2, if_neg c4, if_neg c1, if_neg c2, if_neg (fun z => c4 z.1)]; rfl
