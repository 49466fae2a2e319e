theorem m_r148 {τ : hm_S} {k e f kd way q ex : Nat} (h : mF τ k e f kd) (neg : Bool) (hw : way ≤ 5) (hL : q_L e ≤ ex) (hx : ex < 768) (hq : q < 33554432) (st : Nat) (hst : hm_state τ = lN st) : f_M_round_148 τ (nI k) (nI way) (bI neg) (iI ((ex : Int) - 352)) (lN q) = some (lN (sp_pack e f kd neg way (hm_flags τ) st ((ex - q_L e) * 2 ^ f + q)).1, hm_fs τ (sp_pack e f kd neg way (hm_flags τ) st ((ex - q_L e) * 2 ^ f + q)).2.1 (lN (sp_pack e f kd neg way (hm_flags τ) st ((ex - q_L e) * 2 ^ f + q)).2.2)) := by
  have hb := m_bias h
  have hs := m_signBit h
  have hf := h.2.1.2.2.2.1
  have hp := pw_f hf
  have hk := h.1
  have hF := h.2.2.2.1
  have hm : (ex - q_L e) * 2 ^ f ≤ 768 * 8388608 := Nat.mul_le_mul (by omega) hp
  have e1 : iI ((ex : Int) - 352) + iI (353 - (q_L e : Int)) = nI (ex - q_L e + 1) := by
    rw [iI_add, nI_i]; congr 1; omega
  have e2 : (ex - q_L e + 1) * 2 ^ f = (ex - q_L e) * 2 ^ f + 2 ^ f := by rw [Nat.add_mul, Nat.one_mul]
  have e3 : (lN ((ex - q_L e + 1) * 2 ^ f) + lN q) - lN (2 ^ f) = lN ((ex - q_L e) * 2 ^ f + q) := by
    rw [lN_add, lN_sub (by omega)]; congr 1; omega
  simp only [f_M_round_148, hb, hx_b1_some, hc4 hk, hg4 hk, if_false, hF, hx_n_eq, e1, nI_l (n := ex - q_L e + 1) (by omega), wb_shl (ex - q_L e + 1) (show f < 64 by omega), t_f1 f (by omega), e3, hs]
  have r := m_r191 h neg hw (v := (ex - q_L e) * 2 ^ f + q) (by omega) st hst
  cases neg
  · rw [if_pos (show bI false = 0 from rfl)]; exact r
  · rw [if_neg (show ¬ bI true = 0 by decide)]; exact r
theorem m_drawn {τ : hm_S} {st : Nat} (hst : hm_state τ = lN st) (h : st < 2147483647) : f_M_drawn τ = some (nI (st * 48271 % 2147483647 / 16 % 65536), hm_fs τ (hm_flags τ) (lN (st * 48271 % 2147483647))) := by
  have e1 : lN st * (48271 : Int64) = lN (st * 48271) := lN_mul st 48271
  have e2 : lN (st * 48271) - lN (st * 48271) / (2147483647 : Int64) * (2147483647 : Int64) = lN (st * 48271 % 2147483647) := pk_lRem (b := 2147483647) (by omega) (by decide) (by decide)
  have hb : st * 48271 % 2147483647 < 2147483647 := Nat.mod_lt _ (by decide)
  have e3 : lN (st * 48271 % 2147483647) / (16 : Int64) = lN (st * 48271 % 2147483647 / 16) := pk_lDiv (b := 16) (by omega) (by decide) (by decide)
  have e4 : lN (st * 48271 % 2147483647 / 16) - lN (st * 48271 % 2147483647 / 16) / (65536 : Int64) * (65536 : Int64) = lN (st * 48271 % 2147483647 / 16 % 65536) := pk_lRem (b := 65536) (by omega) (by decide) (by decide)
  simp only [f_M_drawn, hst, e1, e2, hx_n_eq, hm_state_s_eq, hm_fs_state, e3, e4, lN_i]
theorem rem_bit {N p U : Nat} (hp : p < U) : (N % 2 ^ U).testBit p = N.testBit p := by rw [Nat.testBit_mod_two_pow, decide_eq_true hp, Bool.true_and]
theorem m_far116 {τ : hm_S} {N U st : Nat} (hN : mN (hm_limb τ) N) (hU : U ≤ 768) (hU2 : 17 ≤ U) (hst : hm_state τ = lN st) (h : st < 2147483647) : ∀ (d n p : Nat), p + 17 = U + d → d ≤ 16 → d < n → f_M_isFarther_116 n τ (nI U) (nI (N % 2 ^ U / 2 ^ (p + 1))) (nI p) = some (bI (decide (st * 48271 % 2147483647 / 16 % 65536 < N % 2 ^ U * 65536 / 2 ^ U)), hm_fs τ (hm_flags τ) (lN (st * 48271 % 2147483647))) := by
  have hlt : N % 2 ^ U < 2 ^ U := Nat.mod_lt _ (Nat.two_pow_pos _)
  have hsub : nI U - (17 : Int32) = nI (U - 17) := pk_sub (b := 17) hU2
  intro d
  induction d with
  | zero =>
    intro n p hp _ hn
    obtain ⟨n, rfl⟩ : ∃ z, n = z + 1 := ⟨n - 1, by omega⟩
    rw [f_M_isFarther_116, hsub, if_pos (nI_le (by omega) (by omega)), m_drawn hst h, hx_b2_some]
    have e1 : N % 2 ^ U * 65536 / 2 ^ U = N % 2 ^ U / 2 ^ (p + 1) := by
      rw [show (2 : Nat) ^ U = 2 ^ (p + 1) * 65536 from by rw [show (65536 : Nat) = 2 ^ 16 from rfl, ← Nat.pow_add]; congr 1; omega]
      exact Nat.mul_div_mul_right _ _ (by decide)
    have hs : N % 2 ^ U / 2 ^ (p + 1) < 65536 := by
      rw [Nat.div_lt_iff_lt_mul (Nat.two_pow_pos _), show (65536 : Nat) = 2 ^ 16 from rfl, ← Nat.pow_add, show 16 + (p + 1) = U by omega]
      exact hlt
    rw [e1]
    generalize N % 2 ^ U / 2 ^ (p + 1) = z at hs ⊢
    have hd : st * 48271 % 2147483647 / 16 % 65536 < 65536 := Nat.mod_lt _ (by decide)
    generalize st * 48271 % 2147483647 / 16 % 65536 = y at hd ⊢
    by_cases c : z ≤ y
    · rw [if_pos (nI_le c (by omega)), decide_eq_false (by omega)]; rfl
    · rw [if_neg (nI_ge (by omega) (by omega)), decide_eq_true (by omega)]; rfl
  | succ d ih =>
    intro n p hp hd hn
    obtain ⟨n, rfl⟩ : ∃ z, n = z + 1 := ⟨n - 1, by omega⟩
    obtain ⟨p, rfl⟩ : ∃ z, p = z + 1 := ⟨p - 1, by omega⟩
    rw [f_M_isFarther_116, hsub, if_neg (nI_ge (by omega) (by omega)), m_bitAt hN (by omega), hx_b1_some, hx_n_eq, hx_n_eq, pk_m1]
    have e1 : (2 : Int32) * nI (N % 2 ^ U / 2 ^ (p + 1 + 1)) + bI (N.testBit (p + 1)) = nI (N % 2 ^ U / 2 ^ (p + 1)) := by
      rw [div_step (N % 2 ^ U) (p + 1), rem_bit (by omega)]
      generalize N % 2 ^ U / 2 ^ (p + 1 + 1) = z
      have : (2 : Int32) * nI z = nI (2 * z) := pk_mul 2 z
      rw [this]
      cases N.testBit (p + 1)
      · exact nI_add (2 * z) 0
      · exact nI_add (2 * z) 1
    rw [e1]
    exact ih n p (by omega) (by omega) (by omega)
theorem half_is {N U : Nat} (hU : 1 ≤ U) : N.testBit (U - 1) = decide (2 ^ U ≤ 2 * (N % 2 ^ U)) := by
  obtain ⟨V, rfl⟩ : ∃ z, U = z + 1 := ⟨U - 1, by omega⟩
  rw [show V + 1 - 1 = V by omega, Nat.testBit_eq_decide_div_mod_eq]
  have e1 : N % 2 ^ (V + 1) / 2 ^ V = N / 2 ^ V % 2 := by rw [Nat.pow_succ, Nat.mod_mul_right_div_self]
  have hlt : N % 2 ^ (V + 1) < 2 ^ (V + 1) := Nat.mod_lt _ (Nat.two_pow_pos _)
  rw [← e1]
  rw [Nat.pow_succ] at hlt ⊢
  generalize N % (2 ^ V * 2) = r at hlt ⊢
  have hp : 0 < 2 ^ V := Nat.two_pow_pos V
  by_cases c : 2 ^ V * 2 ≤ 2 * r
  · rw [decide_eq_true c, decide_eq_true]
    rw [Nat.div_eq_iff hp]; omega
  · rw [decide_eq_false c, decide_eq_false]
    rw [Nat.div_eq_of_lt (by omega)]; omega
theorem more_is {N U : Nat} (hU : 1 ≤ U) (h : 2 ^ U ≤ 2 * (N % 2 ^ U)) : (N % 2 ^ (U - 1) ≠ 0) = (2 ^ U < 2 * (N % 2 ^ U)) := by
  obtain ⟨V, rfl⟩ : ∃ z, U = z + 1 := ⟨U - 1, by omega⟩
  rw [show V + 1 - 1 = V by omega]
  have e1 : N % 2 ^ V = N % 2 ^ (V + 1) % 2 ^ V := by rw [Nat.mod_mod_of_dvd]; exact Nat.pow_dvd_pow 2 (by omega)
  have hlt : N % 2 ^ (V + 1) < 2 ^ (V + 1) := Nat.mod_lt _ (Nat.two_pow_pos _)
  rw [e1]
  rw [Nat.pow_succ] at hlt h ⊢
  generalize N % (2 ^ V * 2) = r at hlt h ⊢
  have e2 : r % 2 ^ V = r - 2 ^ V := by rw [Nat.mod_eq_sub_mod (by omega), Nat.mod_eq_of_lt (by omega)]
  rw [e2]
  exact propext ⟨fun z => by omega, fun z => by omega⟩
theorem wy0 {w : Nat} (h : w ≤ 5) : (nI w = 0) = (w = 0) := wy 0 h (by decide)
theorem wy1 {w : Nat} (h : w ≤ 5) : (nI w = 1) = (w = 1) := wy 1 h (by decide)
theorem wy2 {w : Nat} (h : w ≤ 5) : (nI w = 2) = (w = 2) := wy 2 h (by decide)
theorem wy3 {w : Nat} (h : w ≤ 5) : (nI w = 3) = (w = 3) := wy 3 h (by decide)
theorem wy4 {w : Nat} (h : w ≤ 5) : (nI w = 4) = (w = 4) := wy 4 h (by decide)
theorem m_isFarther {τ : hm_S} {N U q way st : Nat} (hN : mN (hm_limb τ) N) (hU : U ≤ 768) (hU2 : 17 ≤ U) (hq : q < 33554432) (hw : way ≤ 5) (neg : Bool) (hst : hm_state τ = lN st) (h : st < 2147483647) :
    f_M_isFarther τ (nI way) (bI neg) (nI U) (lN q) = some (bI (sp_far way neg q (N % 2 ^ U) (2 ^ U) st).1, hm_fs τ (hm_flags τ) (lN (sp_far way neg q (N % 2 ^ U) (2 ^ U) st).2)) := by
  have e0 : nI U - (1 : Int32) = nI (U - 1) := pk_sub (b := 1) (by omega)
  have hh := half_is (N := N) (U := U) (by omega)
  have e1 : f_M_isFarther τ (nI way) (bI neg) (nI U) (lN q) = f_M_isFarther_16 τ (nI way) (bI neg) (nI U) (lN q) (bI (decide (2 ^ U ≤ 2 * (N % 2 ^ U)))) := by
    rw [f_M_isFarther, e0, m_bitAt hN (by omega), hx_b1_some, hh]
    cases decide (2 ^ U ≤ 2 * (N % 2 ^ U)) <;> rfl
  have e2 : lN q - lN q / (2 : Int64) * (2 : Int64) = lN (q % 2) := pk_lRem (b := 2) (by omega) (by decide) (by decide)
  have e3 : (lg_cmp (lN (q % 2)) (1 : Int64) = 0) = (q % 2 = 1) := c_eq (b := 1) (by omega) (by decide)
  have hs : hm_fs τ (hm_flags τ) (lN st) = τ := by rw [← hst]; rfl
  have e5 := m_far116 hN hU hU2 hst h 16 hx_fuel (U - 1) (by omega) (by omega) (by have : hx_fuel = 5000 := rfl; omega)
  rw [show U - 1 + 1 = U by omega, Nat.div_eq_of_lt (Nat.mod_lt N (Nat.two_pow_pos U))] at e5
  rw [e1, f_M_isFarther_16, e0, m_hasLower hN (by omega), hx_b1_some]
  simp only [e2, e3, hx_n_eq, wy0 hw, wy1 hw, wy2 hw, wy3 hw, wy4 hw]
  unfold sp_far
  by_cases w0 : way = 0
  · rw [if_pos w0, if_pos w0]
    by_cases c : 2 ^ U ≤ 2 * (N % 2 ^ U)
    · rw [decide_eq_true c, if_neg (show ¬ bI true = 0 by decide)]
      have hm := more_is (N := N) (U := U) (by omega) c
      by_cases d : 2 ^ U < 2 * (N % 2 ^ U)
      · rw [decide_eq_true (show N % 2 ^ (U - 1) ≠ 0 by rw [hm]; exact d), if_neg (show ¬ bI true = 0 by decide), decide_eq_true d, hs]; rfl
      · rw [decide_eq_false (show ¬ (N % 2 ^ (U - 1) ≠ 0) by rw [hm]; exact d), if_pos (show bI false = 0 from rfl), decide_eq_false d, decide_eq_true (show 2 ^ U = 2 * (N % 2 ^ U) by omega), hs]
        by_cases g : q % 2 = 1
        · rw [if_pos g, decide_eq_true g]; rfl
        · rw [if_neg g, decide_eq_false g]; rfl
    · rw [decide_eq_false c, if_pos (show bI false = 0 from rfl), decide_eq_false (show ¬ 2 ^ U < 2 * (N % 2 ^ U) by omega), decide_eq_false (show ¬ 2 ^ U = 2 * (N % 2 ^ U) by omega), hs]; rfl
  · rw [if_neg w0, if_neg w0]
    by_cases w1 : way = 1
    · rw [if_pos w1, if_pos w1, hs]
      have := bI_or (decide (2 ^ U ≤ 2 * (N % 2 ^ U)))
      rw [if_pos this]
    · rw [if_neg w1, if_neg w1]
      by_cases w2 : way = 2
      · rw [if_pos w2, if_pos w2, hs]; rfl
      · rw [if_neg w2, if_neg w2]
        by_cases w3 : way = 3
        · rw [if_pos w3, if_pos w3, hs]
          cases neg <;> rfl
        · rw [if_neg w3, if_neg w3]
          by_cases w4 : way = 4
          · rw [if_pos w4, if_pos w4, hs]
            have := bI_or neg
            rw [if_pos this]
          · rw [if_neg w4, if_neg w4]
            exact e5
