theorem m_r120 {τ : hm_S} {k e f kd way q ex N U st : Nat} (h : mF τ k e f kd) (hN : mN (hm_limb τ) N) (neg : Bool) (hw : way ≤ 5) (hL : q_L e ≤ ex) (hx : ex < 768) (hq : q < 33554431) (hU : U ≤ 768) (hU2 : 17 ≤ U) (hst : hm_state τ = lN st) (hs : st < 2147483647) (x fl1 : Int32) (hfl : hm_flags τ ||| (8 ||| x) = fl1) :
    f_M_round_120 τ (nI k) (nI way) (bI neg) (iI ((ex : Int) - 352)) (nI U) (lN q) (hm_flags τ) 8 x =
      some (lN (sp_pack e f kd neg way fl1 (sp_far way neg q (N % 2 ^ U) (2 ^ U) st).2 ((ex - q_L e) * 2 ^ f + q + if (sp_far way neg q (N % 2 ^ U) (2 ^ U) st).1 then 1 else 0)).1,
        hm_fs τ (sp_pack e f kd neg way fl1 (sp_far way neg q (N % 2 ^ U) (2 ^ U) st).2 ((ex - q_L e) * 2 ^ f + q + if (sp_far way neg q (N % 2 ^ U) (2 ^ U) st).1 then 1 else 0)).2.1 (lN (sp_pack e f kd neg way fl1 (sp_far way neg q (N % 2 ^ U) (2 ^ U) st).2 ((ex - q_L e) * 2 ^ f + q + if (sp_far way neg q (N % 2 ^ U) (2 ^ U) st).1 then 1 else 0)).2.2)) := by
  have i1 := m_isFarther (τ := hm_fs τ fl1 (hm_state τ)) (N := N) (U := U) (q := q) (way := way) (st := st) hN hU hU2 (by omega) hw neg hst hs
  rw [hm_fs_flags, hm_fs_fs] at i1
  rw [f_M_round_120, hfl, hx_n_eq, hx_n_eq, hm_flags_s_eq, i1, hx_b2_some]
  generalize hfar : sp_far way neg q (N % 2 ^ U) (2 ^ U) st = far
  obtain ⟨fb, st1⟩ := far
  dsimp only
  cases fb
  · have r := m_r148 (τ := hm_fs τ fl1 (lN st1)) (q := q) (ex := ex) (h.fs fl1 (lN st1)) neg hw hL hx (by omega) st1 rfl
    rw [hm_fs_flags, hm_fs_fs] at r
    rw [if_pos (show bI false = 0 from rfl), f_M_round_145, hx_n_eq, show lN q + (0 : Int64) = lN q from lN_add q 0, r, if_neg Bool.false_ne_true, Nat.add_zero]
  · have r := m_r148 (τ := hm_fs τ fl1 (lN st1)) (q := q + 1) (ex := ex) (h.fs fl1 (lN st1)) neg hw hL hx (by omega) st1 rfl
    rw [hm_fs_flags, hm_fs_fs] at r
    rw [if_neg (show ¬ bI true = 0 by decide), f_M_round_145, hx_n_eq, show lN q + (1 : Int64) = lN (q + 1) from lN_1 q, r, if_pos rfl, Nat.add_assoc]
theorem log2_le {N n : Nat} (h : N < 2 ^ n) (h0 : N ≠ 0) : N.log2 < n := (Nat.log2_lt h0).mpr h
theorem q_bound {N ex f : Nat} (h : N.log2 ≤ ex) (h0 : N ≠ 0) (hf : f ≤ ex) : N / 2 ^ (ex - f) < 2 ^ (f + 1) := by
  rw [Nat.div_lt_iff_lt_mul (Nat.two_pow_pos _), ← Nat.pow_add, show f + 1 + (ex - f) = ex + 1 by omega]
  exact (Nat.log2_lt h0).mp (by omega)
theorem m_r55 {τ : hm_S} {k e f kd way N U ex st : Nat} (h : mF τ k e f kd) (hN : mN (hm_limb τ) N) (h0 : N ≠ 0) (neg : Bool) (hw : way ≤ 5) (hex : ex = sp_ex e N) (hU : U = ex - f) (hst : hm_state τ = lN st) (hs : st < 2147483647) :
    ∀ (d n p : Nat), p + 1 = U + d → p < 768 → d < n → f_M_round_55 n τ (nI k) (nI way) (bI neg) (nI N.log2) (iI ((q_L e : Int) - 352)) (iI ((ex : Int) - 352)) (nI U) (lN (N / 2 ^ (p + 1))) (nI p) = some (lN (sp_fin e f kd neg N way (hm_flags τ) st).1, hm_fs τ (sp_fin e f kd neg N way (hm_flags τ) st).2.1 (lN (sp_fin e f kd neg N way (hm_flags τ) st).2.2)) := by
  have hL := q_Lb e (by have := h.2.1.2.1; omega) h.2.1.1
  have hf := h.2.1.2.2.2.1
  have hlog : N.log2 < 768 := log2_le (mN_lt hN) h0
  have hex1 : q_L e ≤ ex ∧ N.log2 ≤ ex ∧ ex < 768 := by rw [hex]; unfold sp_ex; split <;> omega
  have hq : N / 2 ^ U < 16777216 := by
    rw [hU]
    have := q_bound (N := N) (ex := ex) (f := f) hex1.2.1 h0 (by omega)
    have h2 : 2 ^ (f + 1) ≤ 2 ^ 24 := Nat.pow_le_pow_right (by decide) (by omega)
    omega
  intro d
  induction d with
  | zero =>
    intro n p hp hp2 hn
    obtain ⟨n, rfl⟩ : ∃ z, n = z + 1 := ⟨n - 1, by omega⟩
    rw [f_M_round_55, if_pos (nI_lt (by omega) (by omega)), m_hasLower hN (by omega), hx_b1_some, hp, Nat.add_zero]
    unfold sp_fin
    rw [← hex, ← hU]
    by_cases c : N % 2 ^ U = 0
    · rw [if_pos c, decide_eq_false (show ¬ N % 2 ^ U ≠ 0 by omega), if_pos (show bI false = 0 from rfl)]
      exact m_r148 h neg hw hex1.1 hex1.2.2 (by omega) st hst
    · rw [if_neg c, decide_eq_true (show N % 2 ^ U ≠ 0 from c), if_neg (show ¬ bI true = 0 by decide)]
      have e1 : nI N.log2 + (-352 : Int32) = iI ((N.log2 : Int) - 352) := by
        rw [show (-352 : Int32) = iI (-352) from rfl, nI_i, iI_add]; rfl
      rw [e1]
      have e2 : (iI ((q_L e : Int) - 352) ≤ iI ((N.log2 : Int) - 352)) = (q_L e ≤ N.log2) := by rw [iI_le (by omega) (by omega) (by omega) (by omega)]; exact propext ⟨fun z => by omega, fun z => by omega⟩
      simp only [e2]
      by_cases c2 : N.log2 < q_L e
      · rw [if_neg (by omega), if_pos c2]
        exact m_r120 h hN neg hw hex1.1 hex1.2.2 (by omega) (by omega) (by omega) hst hs 4 _ (by rw [show (8 : Int32) ||| 4 = 12 by decide])
      · rw [if_pos (by omega), if_neg c2]
        exact m_r120 h hN neg hw hex1.1 hex1.2.2 (by omega) (by omega) (by omega) hst hs 0 _ (by rw [show (8 : Int32) ||| 0 = 8 by decide])
  | succ d ih =>
    intro n p hp hp2 hn
    obtain ⟨n, rfl⟩ : ∃ z, n = z + 1 := ⟨n - 1, by omega⟩
    obtain ⟨p, rfl⟩ : ∃ z, p = z + 1 := ⟨p - 1, by omega⟩
    rw [f_M_round_55, if_neg (nI_nlt (by omega) (by omega)), m_bitAt hN hp2, hx_b1_some, hx_n_eq, hx_n_eq, pk_m1]
    have e1 : (2 : Int64) * lN (N / 2 ^ (p + 1 + 1)) + (bI (N.testBit (p + 1))).toInt64 = lN (N / 2 ^ (p + 1)) := by
      rw [div_step N (p + 1)]
      generalize N / 2 ^ (p + 1 + 1) = z
      have : (2 : Int64) * lN z = lN (2 * z) := lN_mul 2 z
      rw [this]
      cases N.testBit (p + 1)
      · exact lN_add (2 * z) 0
      · exact lN_add (2 * z) 1
    rw [e1]
    exact ih n p (by omega) (by omega) (by omega)
theorem m_round {τ : hm_S} {k e f kd way N st : Nat} (h : mF τ k e f kd) (hN : mN (hm_limb τ) N) (h0 : N ≠ 0) (neg : Bool) (hw : way ≤ 5) (hst : hm_state τ = lN st) (hs : st < 2147483647) :
    f_M_round τ (nI k) (nI way) (bI neg) (nI N.log2) = some (lN (sp_fin e f kd neg N way (hm_flags τ) st).1, hm_fs τ (sp_fin e f kd neg N way (hm_flags τ) st).2.1 (lN (sp_fin e f kd neg N way (hm_flags τ) st).2.2)) := by
  have hL := q_Lb e (by have := h.2.1.2.1; omega) h.2.1.1
  have hf := h.2.1.2.2.2.1
  have hlog : N.log2 < 768 := log2_le (mN_lt hN) h0
  have hb := m_bias h
  have hk := h.1
  have hF := h.2.2.2.1
  have e0 : (1 : Int32) - iI (353 - (q_L e : Int)) = iI ((q_L e : Int) - 352) := by rw [show (1 : Int32) = iI 1 from rfl, iI_sub]; congr 1; omega
  have e1 : nI N.log2 + (-352 : Int32) = iI ((N.log2 : Int) - 352) := by rw [show (-352 : Int32) = iI (-352) from rfl, nI_i, iI_add]; rfl
  have e2 : (iI ((q_L e : Int) - 352) ≤ iI ((N.log2 : Int) - 352)) = (q_L e ≤ N.log2) := by rw [iI_le (by omega) (by omega) (by omega) (by omega)]; exact propext ⟨fun z => by omega, fun z => by omega⟩
  have key : ∀ ex, ex = sp_ex e N → f_M_round_31 τ (nI k) (nI way) (bI neg) (nI N.log2) (iI ((q_L e : Int) - 352)) (iI ((ex : Int) - 352)) = some (lN (sp_fin e f kd neg N way (hm_flags τ) st).1, hm_fs τ (sp_fin e f kd neg N way (hm_flags τ) st).2.1 (lN (sp_fin e f kd neg N way (hm_flags τ) st).2.2)) := by
    intro ex hex
    have hex1 : q_L e ≤ ex ∧ N.log2 ≤ ex ∧ ex < 768 := by rw [hex]; unfold sp_ex; split <;> omega
    have e3 : iI ((ex : Int) - 352) - nI f - (-352 : Int32) = nI (ex - f) := by
      rw [show (-352 : Int32) = iI (-352) from rfl, nI_i, nI_i, iI_sub, iI_sub]; congr 1; omega
    simp only [f_M_round_31, hc4 hk, hg4 hk, if_false, hF, hx_n_eq, e3]
    by_cases c : ex - f ≤ N.log2
    · have r := m_r55 h hN h0 neg hw hex rfl hst hs (N.log2 + 1 - (ex - f)) hx_fuel N.log2 (by omega) hlog (by have : hx_fuel = 5000 := rfl; omega)
      rw [Nat.div_eq_of_lt ((Nat.log2_lt h0).mp (Nat.lt_succ_self _))] at r
      exact r
    · have hx : hx_fuel = 4999 + 1 := rfl
      have r := m_r55 h hN h0 neg hw hex rfl hst hs 0 hx_fuel (ex - f - 1) (by omega) (by omega) (by omega)
      rw [show ex - f - 1 + 1 = ex - f by omega, Nat.div_eq_of_lt (Nat.lt_of_lt_of_le ((Nat.log2_lt h0).mp (Nat.lt_succ_self _)) (Nat.pow_le_pow_right (by decide) (by omega)))] at r
      rw [hx, f_M_round_55, if_pos (nI_lt (by omega) (by omega))] at r
      rw [hx, f_M_round_55, if_pos (nI_lt (by omega) (by omega))]
      exact r
  rw [f_M_round, hb, hx_b1_some, hx_n_eq, e0, e1]
  simp only [e2]
  by_cases c : q_L e ≤ N.log2
  · rw [if_pos c]; exact key N.log2 (by unfold sp_ex; rw [if_neg (by omega)])
  · rw [if_neg c]; exact key (q_L e) (by unfold sp_ex; rw [if_pos (by omega)])
