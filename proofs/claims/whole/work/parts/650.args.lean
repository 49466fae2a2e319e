/-! What an argument is, told by both sides alike -/
theorem iI_nn {z : Int} (h : 0 ≤ z) : iI z = nI z.toNat := by rw [nI_i, Int.toNat_of_nonneg h]
theorem hg4n {k : Nat} (hk : k < 4) : ¬ (nI k < 0 ∨ 4 ≤ k) := fun h => by rw [hg4 hk] at h; exact h
theorem one_ne : ¬ (1 : Int32) = 0 := by decide
theorem one_ne' : ((1 : Int32) = 0) = False := by decide
theorem bI_t {p : Prop} [Decidable p] (h : p) : bI (decide p) = 1 := by rw [decide_eq_true h]; rfl
theorem bI_f {p : Prop} [Decidable p] (h : ¬ p) : bI (decide p) = 0 := by rw [decide_eq_false h]; rfl
theorem a_form (x : Int32) : (∃ k, k < 4 ∧ x = nI k ∧ f_X_isFormat x = some 1 ∧ f_M_isFormat x = some 1) ∨ (f_X_isFormat x = some 0 ∧ f_M_isFormat x = some 0) := by
  obtain ⟨z, z1, z2, rfl⟩ := iI_of x
  rw [x_isFormat z1 z2, m_isFormat z1 z2]
  by_cases c : 0 ≤ z ∧ z ≤ 3
  · rw [bI_t c]; exact Or.inl ⟨z.toNat, by omega, iI_nn c.1, rfl, rfl⟩
  · rw [bI_f c]; exact Or.inr ⟨rfl, rfl⟩
theorem a_way (x : Int32) : (∃ w, w ≤ 5 ∧ x = nI w ∧ f_X_isWay x = some 1 ∧ f_M_isWay x = some 1) ∨ (f_X_isWay x = some 0 ∧ f_M_isWay x = some 0) := by
  obtain ⟨z, z1, z2, rfl⟩ := iI_of x
  rw [x_isWay z1 z2, m_isWay z1 z2]
  by_cases c : 0 ≤ z ∧ z ≤ 5
  · rw [bI_t c]; exact Or.inl ⟨z.toNat, by omega, iI_nn c.1, rfl, rfl⟩
  · rw [bI_f c]; exact Or.inr ⟨rfl, rfl⟩
theorem x_isRow {z : Int} (z1 : -2147483648 ≤ z) (z2 : z < 2147483648) : f_X_isRow (iI z) = some (bI (decide (0 ≤ z ∧ z ≤ 1))) := by
  have e1 : (iI z < 0) = (z < 0) := by rw [show (0 : Int32) = iI 0 from rfl, iI_lt z1 z2 (by omega) (by omega)]
  have e2 : ((2 : Int32) ≤ iI z) = (2 ≤ z) := by rw [show (2 : Int32) = iI 2 from rfl, iI_le (by omega) (by omega) z1 z2]
  simp only [f_X_isRow, e1, e2]
  by_cases c1 : z < 0
  · rw [if_pos c1, decide_eq_false (by omega)]; rfl
  · rw [if_neg c1]
    by_cases c2 : 2 ≤ z
    · rw [if_pos c2, decide_eq_false (by omega)]; rfl
    · rw [if_neg c2, decide_eq_true (by omega)]; rfl
theorem a_row (x : Int32) : (∃ r, r < 2 ∧ x = nI r ∧ f_X_isRow x = some 1 ∧ f_M_isIn x.toInt64 0 1 = some 1) ∨ (f_X_isRow x = some 0 ∧ f_M_isIn x.toInt64 0 1 = some 0) := by
  obtain ⟨z, z1, z2, rfl⟩ := iI_of x
  have r := m_isIn (lo := 0) (hi := 1) z1 z2 (by omega) (by omega) (by omega) (by omega)
  rw [show lI 0 = 0 from rfl, show lI 1 = 1 from rfl] at r
  rw [x_isRow z1 z2, r]
  by_cases c : 0 ≤ z ∧ z ≤ 1
  · rw [bI_t c]; exact Or.inl ⟨z.toNat, by omega, iI_nn c.1, rfl, rfl⟩
  · rw [bI_f c]; exact Or.inr ⟨rfl, rfl⟩
theorem a_in (x : Int32) (lo hi : Int) (l1 : -2147483648 ≤ lo) (l2 : lo < 2147483648) (h1 : -2147483648 ≤ hi) (h2 : hi < 2147483648) : ∃ z : Int, -2147483648 ≤ z ∧ z < 2147483648 ∧ x = iI z ∧ ((lo ≤ z ∧ z ≤ hi ∧ f_M_isIn x.toInt64 (lI lo) (lI hi) = some 1) ∨ ((z < lo ∨ hi < z) ∧ f_M_isIn x.toInt64 (lI lo) (lI hi) = some 0)) := by
  obtain ⟨z, z1, z2, rfl⟩ := iI_of x
  refine ⟨z, z1, z2, rfl, ?_⟩
  rw [m_isIn z1 z2 l1 l2 h1 h2]
  by_cases c : lo ≤ z ∧ z ≤ hi
  · rw [bI_t c]; exact Or.inl ⟨c.1, c.2, rfl⟩
  · rw [bI_f c]; exact Or.inr ⟨by omega, rfl⟩
theorem x_isPat0 {σ : hx_S} {x a : Int32} (h : f_X_isFormat x = some 0) : f_X_isPattern σ x a = some 0 := by rw [f_X_isPattern, h, hx_b1_some, if_pos rfl]
theorem a_pat {σ : hx_S} {τ : hm_S} {E F K : Nat → Nat} (h : hr_F σ τ E F K) {k : Nat} (hk : k < 4) (a : Int32) : (∃ u, u < 2 ^ (E k + F k + 1) ∧ a = nI u ∧ f_X_isPattern σ (nI k) a = some 1 ∧ f_M_isPattern τ (nI k) a = some 1 ∧ ∀ τ1, mF τ1 k (E k) (F k) (K k) → f_M_pattern τ1 (nI k) a = some (lN u)) ∨ (f_X_isPattern σ (nI k) a = some 0 ∧ f_M_isPattern τ (nI k) a = some 0) := by
  have hf : f_X_isFormat (nI k) = some 1 := by
    rw [nI_i, x_isFormat (by omega) (by omega), bI_t (by omega)]
  have hx : f_X_isPattern σ (nI k) a = some (bI (decide (uI a < 2 ^ (E k + F k + 1)))) := by
    rw [f_X_isPattern, hf, hx_b1_some, if_neg one_ne, hx_gn (nI_clampT hk), hc4 hk, (h k hk).2.1, x_holds (h k hk).1, hx_b1_some]
    by_cases c : uI a < 2 ^ (E k + F k + 1)
    · rw [bI_t c, if_neg one_ne]
    · rw [bI_f c, if_pos rfl]
  rw [hx, m_isPattern (mF_of h hk)]
  by_cases c : uI a < 2 ^ (E k + F k + 1)
  · refine Or.inl ⟨uI a, c, (uI_n a).symm, by rw [bI_t c], by rw [bI_t c], fun τ1 h1 => ?_⟩
    rw [m_pattern h1, if_pos c]
  · exact Or.inr ⟨by rw [bI_f c], by rw [bI_f c]⟩
theorem pw_p {e f kd u : Nat} (h : vf e f kd) (hu : u < 2 ^ (e + f + 1)) : u < 4294967296 := by
  have := q_w h
  rw [Nat.pow_succ] at hu
  omega
theorem x_bits {p : Nat} (h : p < 4294967296) : f_X_bits (nI p) = some (lN p) := by
  rw [f_X_bits, m_mask32]
  show some (lN (uI (nI p))) = _
  rw [uI_nI h]
