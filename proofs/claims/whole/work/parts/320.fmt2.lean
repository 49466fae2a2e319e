theorem m_isBelow {τ : hm_S} {k e f kd : Nat} (h : mF τ k e f kd) {u : Nat} (hu : u < 4294967296) : f_M_isBelow τ (nI k) (lN u) = some (bI (decide (2 ^ (e + f) ≤ u))) := by
  have hw := q_w h.2.1
  simp only [f_M_isBelow, m_signBit h, hx_b1_some, c_lt (a := u) (b := 2 ^ (e + f)) (by omega) (by omega)]
  by_cases c : u < 2 ^ (e + f)
  · rw [if_pos c, decide_eq_false (by omega)]; rfl
  · rw [if_neg c, decide_eq_true (by omega)]; rfl
theorem sort_1 {e f kd u : Nat} : (nI (q_sort e f kd u) = (1 : Int32)) = (q_sort e f kd u = 1) := by
  have : q_sort e f kd u ≤ 4 := by unfold q_sort; split <;> (try split) <;> (try split) <;> omega
  rw [show (1 : Int32) = nI 1 from rfl, nI_eq (by omega) (by omega)]
theorem sort_2 {e f kd u : Nat} : (nI (q_sort e f kd u) = (2 : Int32)) = (q_sort e f kd u = 2) := by
  have : q_sort e f kd u ≤ 4 := by unfold q_sort; split <;> (try split) <;> (try split) <;> omega
  rw [show (2 : Int32) = nI 2 from rfl, nI_eq (by omega) (by omega)]
theorem sort_3 {e f kd u : Nat} : (nI (q_sort e f kd u) = (3 : Int32)) = (q_sort e f kd u = 3) := by
  have : q_sort e f kd u ≤ 4 := by unfold q_sort; split <;> (try split) <;> (try split) <;> omega
  rw [show (3 : Int32) = nI 3 from rfl, nI_eq (by omega) (by omega)]
theorem sort_4 {e f kd u : Nat} : (nI (q_sort e f kd u) = (4 : Int32)) = (q_sort e f kd u = 4) := by
  have : q_sort e f kd u ≤ 4 := by unfold q_sort; split <;> (try split) <;> (try split) <;> omega
  rw [show (4 : Int32) = nI 4 from rfl, nI_eq (by omega) (by omega)]
theorem sort_0 {e f kd u : Nat} : (nI (q_sort e f kd u) = (0 : Int32)) = (q_sort e f kd u = 0) := by
  have : q_sort e f kd u ≤ 4 := by unfold q_sort; split <;> (try split) <;> (try split) <;> omega
  rw [show (0 : Int32) = nI 0 from rfl, nI_eq (by omega) (by omega)]
theorem sort_le (e f kd u : Nat) : q_sort e f kd u ≤ 4 := by unfold q_sort; split <;> (try split) <;> (try split) <;> omega
theorem sort2_pos {e f kd u : Nat} (h : q_sort e f kd u = 2) : 0 < u % 2 ^ (e + f) / 2 ^ f := by
  refine Nat.pos_of_ne_zero (fun c => ?_)
  unfold q_sort at h
  simp only [c, if_true] at h
  split at h
  · exact absurd h (by decide)
  · split at h
    · exact absurd h (by decide)
    · split at h <;> exact absurd h (by decide)
theorem t_f1 : ∀ f, f < 24 → (1 : Int64) <<< ((nI f).toInt64 &&& 63) = lN (2 ^ f) := by decide +kernel
theorem pw_f {f : Nat} (h : f ≤ 23) : 2 ^ f ≤ 8388608 := by
  have : 2 ^ f ≤ 2 ^ 23 := Nat.pow_le_pow_right (by decide) h
  simpa using this
theorem lor_hi {a f : Nat} (hf : f ≤ 23) (ha : a < 2 ^ f) : lN a ||| lN (2 ^ f) = lN (a + 2 ^ f) := by
  have h := g_or' (k := f) (p := 2 ^ f) (a := a) (b := 1) rfl ha (by have := pw_f hf; omega)
  rw [Nat.one_mul] at h; exact h
theorem m_wholeOf {τ : hm_S} {k e f kd : Nat} (h : mF τ k e f kd) {u : Nat} (hu : u < 4294967296) : f_M_wholeOf τ (nI k) (lN u) = some (lN (q_m e f kd u)) := by
  have hs := m_sortOf h hu
  obtain ⟨hk, ⟨h1, h2, h3, h4, h5⟩, hE, hF, hK⟩ := h
  have hmod : u % 2 ^ f < 2 ^ f := Nat.mod_lt _ (Nat.two_pow_pos _)
  simp only [f_M_wholeOf, hs, hx_b1_some, hc4 hk, hg4 hk, if_false, hF, hx_n_eq, t_f1 f (by omega), lN_m1 (n := 2 ^ f) Nat.one_le_two_pow, wb_mask (n := u) (k := f) (by omega) (by omega), sort_1, sort_2, lor_hi h4 hmod, q_m]
  by_cases c1 : q_sort e f kd u = 1
  · simp only [c1, if_true]
  · by_cases c2 : q_sort e f kd u = 2
    · rw [if_neg c1, if_pos c2, if_neg c1, if_pos c2]
    · rw [if_neg c1, if_neg c2, if_neg c1, if_neg c2]; rfl
/-- the power as an int -/
def q_pw (e f kd u : Nat) : Int := if q_sort e f kd u = 1 ∨ q_sort e f kd u = 2 then (q_p e f kd u : Int) - 352 else 0
theorem q_pb {e f kd : Nat} (h : vf e f kd) (u : Nat) : 203 ≤ q_p e f kd u ∧ q_p e f kd u ≤ 479 := by
  have hL := q_Lb e (by have := h.2.1; omega) h.1
  obtain ⟨h1, h2, h3, h4, h5⟩ := h
  have hd : u % 2 ^ (e + f) / 2 ^ f < 2 ^ e := by
    rw [Nat.div_lt_iff_lt_mul (Nat.two_pow_pos _), ← Nat.pow_add]
    exact Nat.mod_lt _ (Nat.two_pow_pos _)
  have he : ∀ e, e < 9 → 2 ≤ e → q_L e + 2 ^ e ≤ 482 := by decide +kernel
  have := he e (by omega) h1
  unfold q_p
  split <;> omega
theorem q_pb2 : ∀ e, e < 9 → 2 ≤ e → q_L e + 2 ^ e ≤ 482 := by decide +kernel
theorem m_powerOf {τ : hm_S} {k e f kd : Nat} (h : mF τ k e f kd) {u : Nat} (hu : u < 4294967296) : f_M_powerOf τ (nI k) (lN u) = some (iI (q_pw e f kd u)) := by
  have hs := m_sortOf h hu
  have hb := m_bias h
  have hsb := m_signBit h
  have hv := h.2.1
  have hr := q_rest hv u
  have hL := q_Lb e (by have := hv.2.1; omega) hv.1
  obtain ⟨hk, ⟨h1, h2, h3, h4, h5⟩, hE, hF, hK⟩ := h
  have hq : u % 2 ^ (e + f) / 2 ^ f < 2147483648 := Nat.lt_of_le_of_lt (Nat.div_le_self _ _) hr
  simp only [f_M_powerOf, hs, hb, hsb, hx_b1_some, m_rest hv hu, hc4 hk, hg4 hk, if_false, hF, hx_n_eq, l_shr (a := u % 2 ^ (e + f)) (by omega) (show f < 64 by omega), sort_1, sort_2, lN_i, q_pw, q_p]
  by_cases c1 : q_sort e f kd u = 1
  · simp only [c1, if_true, true_or]
    rw [show (1 : Int32) = iI 1 from rfl, nI_i, iI_sub, iI_sub]
    congr 2
    omega
  · by_cases c2 : q_sort e f kd u = 2
    · rw [if_neg c1, if_pos c2, if_pos (Or.inr c2), if_neg c1, nI_i, nI_i, iI_sub, iI_sub]
      have hpos := sort2_pos c2
      generalize u % 2 ^ (e + f) / 2 ^ f = z at hpos ⊢
      congr 2
      omega
    · rw [if_neg c1, if_neg c2, if_neg (by omega)]; rfl
theorem m_mask32 (a : Int32) : a.toInt64 &&& (4294967295 : Int64) = lN a.toBitVec.toNat := by
  apply Int64.toBitVec_inj.mp
  apply BitVec.eq_of_toNat_eq
  show (a.toBitVec.signExtend 64 &&& 4294967295#64).toNat = (BitVec.ofNat 64 a.toBitVec.toNat).toNat
  rw [BitVec.toNat_and, show (4294967295#64).toNat = 2 ^ 32 - 1 from by decide, Nat.and_two_pow_sub_one_eq_mod, BitVec.toNat_ofNat, BitVec.toNat_signExtend]
  have := a.toBitVec.isLt
  split <;> simp <;> omega
def uI (a : Int32) : Nat := a.toBitVec.toNat
theorem uI_lt (a : Int32) : uI a < 4294967296 := a.toBitVec.isLt
theorem uI_n (a : Int32) : nI (uI a) = a := Int32.toBitVec_inj.mp (by show BitVec.ofNat 32 _ = _; simp [uI])
theorem uI_nI {n : Nat} (h : n < 4294967296) : uI (nI n) = n := pk_tn h
theorem m_pattern {τ : hm_S} {k e f kd : Nat} (h : mF τ k e f kd) (a : Int32) : f_M_pattern τ (nI k) a = some (if uI a < 2 ^ (e + f + 1) then lN (uI a) else -1) := by
  have hw := q_w h.2.1
  have hu := uI_lt a
  simp only [f_M_pattern, hx_n_eq, m_mask32, m_signBit h, hx_b1_some]
  show (if 0 ≤ lg_cmp (lN (uI a)) (lN 2 * lN (2 ^ (e + f))) then some (-1 : Int64) else some (lN (uI a))) = _
  simp only [lN_mul, c_ge (a := uI a) (b := 2 * 2 ^ (e + f)) (by omega) (by omega), Nat.pow_succ, Nat.mul_comm (2 ^ (e + f)) 2]
  by_cases c : 2 * 2 ^ (e + f) ≤ uI a
  · rw [if_pos c, if_neg (by omega)]
  · rw [if_neg c, if_pos (by omega)]
theorem m_isPattern {τ : hm_S} {k e f kd : Nat} (h : mF τ k e f kd) (a : Int32) : f_M_isPattern τ (nI k) a = some (bI (decide (uI a < 2 ^ (e + f + 1)))) := by
  have hu := uI_lt a
  simp only [f_M_isPattern, m_pattern h, hx_b1_some]
  by_cases c : uI a < 2 ^ (e + f + 1)
  · have hne : ¬ lN (uI a) = -1 := by
      intro z
      have := congrArg Int64.toInt z
      rw [pk_lT (by omega)] at this
      have h2 : (-1 : Int64).toInt = -1 := by decide
      omega
    simp only [if_pos c, decide_eq_true c, lg_cmp_eq, hne, if_false]; rfl
  · simp only [if_neg c, decide_eq_false c, lg_cmp_eq, if_true]; rfl
