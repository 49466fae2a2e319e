theorem m_isIn {z lo hi : Int} (z1 : -2147483648 ≤ z) (z2 : z < 2147483648) (l1 : -2147483648 ≤ lo) (l2 : lo < 2147483648) (h1 : -2147483648 ≤ hi) (h2 : hi < 2147483648) : f_M_isIn (iI z).toInt64 (lI lo) (lI hi) = some (bI (decide (lo ≤ z ∧ z ≤ hi))) := by
  have e1 : (lg_cmp (lI z) (lI lo) < 0) ↔ z < lo := lgc_lt (by omega) (by omega) (by omega) (by omega)
  have e2 : (0 < lg_cmp (lI z) (lI hi)) ↔ hi < z := lgc_gt (by omega) (by omega) (by omega) (by omega)
  rw [f_M_isIn, iI_l z1 z2]
  by_cases c1 : z < lo
  · rw [if_pos (e1.mpr c1), decide_eq_false (by omega)]; rfl
  · rw [if_neg (fun q => c1 (e1.mp q))]
    by_cases c2 : hi < z
    · rw [if_pos (e2.mpr c2), decide_eq_false (by omega)]; rfl
    · rw [if_neg (fun q => c2 (e2.mp q)), decide_eq_true (by omega)]; rfl
theorem m_isFormat {z : Int} (z1 : -2147483648 ≤ z) (z2 : z < 2147483648) : f_M_isFormat (iI z) = some (bI (decide (0 ≤ z ∧ z ≤ 3))) := by
  have r := m_isIn (lo := 0) (hi := 3) z1 z2 (by omega) (by omega) (by omega) (by omega)
  rw [show lI 0 = 0 from rfl, show lI 3 = 3 from rfl] at r
  rw [f_M_isFormat, r, hx_b1_some, if_pos (bI_or _)]
theorem m_isWay {z : Int} (z1 : -2147483648 ≤ z) (z2 : z < 2147483648) : f_M_isWay (iI z) = some (bI (decide (0 ≤ z ∧ z ≤ 5))) := by
  have r := m_isIn (lo := 0) (hi := 5) z1 z2 (by omega) (by omega) (by omega) (by omega)
  rw [show lI 0 = 0 from rfl, show lI 5 = 5 from rfl] at r
  rw [f_M_isWay, r, hx_b1_some, if_pos (bI_or _)]
theorem x_isFormat {z : Int} (z1 : -2147483648 ≤ z) (z2 : z < 2147483648) : f_X_isFormat (iI z) = some (bI (decide (0 ≤ z ∧ z ≤ 3))) := by
  have e1 : (iI z < 0) = (z < 0) := by rw [show (0 : Int32) = iI 0 from rfl, iI_lt z1 z2 (by omega) (by omega)]
  have e2 : ((4 : Int32) ≤ iI z) = (4 ≤ z) := by rw [show (4 : Int32) = iI 4 from rfl, iI_le (by omega) (by omega) z1 z2]
  simp only [f_X_isFormat, e1, e2]
  by_cases c1 : z < 0
  · rw [if_pos c1, decide_eq_false (by omega)]; rfl
  · rw [if_neg c1]
    by_cases c2 : 4 ≤ z
    · rw [if_pos c2, decide_eq_false (by omega)]; rfl
    · rw [if_neg c2, decide_eq_true (by omega)]; rfl
theorem x_isWay {z : Int} (z1 : -2147483648 ≤ z) (z2 : z < 2147483648) : f_X_isWay (iI z) = some (bI (decide (0 ≤ z ∧ z ≤ 5))) := by
  have e1 : (iI z < 0) = (z < 0) := by rw [show (0 : Int32) = iI 0 from rfl, iI_lt z1 z2 (by omega) (by omega)]
  have e2 : ((5 : Int32) < iI z) = (5 < z) := by rw [show (5 : Int32) = iI 5 from rfl, iI_lt (by omega) (by omega) z1 z2]
  simp only [f_X_isWay, e1, e2]
  by_cases c1 : z < 0
  · rw [if_pos c1, decide_eq_false (by omega)]; rfl
  · rw [if_neg c1]
    by_cases c2 : 5 < z
    · rw [if_pos c2, decide_eq_false (by omega)]; rfl
    · rw [if_neg c2, decide_eq_true (by omega)]; rfl
