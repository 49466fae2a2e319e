/-! the end of a sum -/
def sp_end (e f kd : Nat) (ts : List hT) (way : Nat) (fl : Int32) (st : Nat) : Nat × Int32 × Nat :=
  if ht_nan ts = true then (q_nan e f kd, fl, st)
  else if (ht_wr ts || (ht_ab ts && ht_be ts)) = true then (q_nan e f kd, fl ||| 1, st)
  else if (ht_ab ts || ht_be ts) = true then ((if kd = 0 then q_lim e f kd + sp_sg e f (ht_be ts) else if kd = 1 then q_lim e f kd - 1 + sp_sg e f (ht_be ts) else q_nan e f kd), fl, st)
  else if tV ts = 0 then (sp_sg e f (if ht_az ts && (ht_pl ts != ht_mi ts) then ht_mi ts else decide (0 < ts.length) && decide (way = 4)), fl, st)
  else sp_fin e f kd (decide (tV ts < 0)) (tV ts).natAbs way fl st
theorem m_e158z {σ : hm_S} (hN : mN (hm_limb σ) 0) (a b c : Int32) : ∀ (p n : Nat), p < 768 → p + 1 < n → f_M_end_158 n σ a b c (nI p) = f_M_end_178 σ a b c (-1) := by
  intro p
  induction p with
  | zero =>
    intro n hp hn
    obtain ⟨n, rfl⟩ : ∃ z, n = z + 1 := ⟨n - 1, by omega⟩
    obtain ⟨n, rfl⟩ : ∃ z, n = z + 1 := ⟨n - 1, by omega⟩
    rw [f_M_end_158, if_neg (nI_pos (by omega)), m_bitAt hN hp, hx_b1_some, Nat.zero_testBit, if_pos (show bI false = 0 from rfl), hx_n_eq, show nI 0 + (-1) = (-1 : Int32) from by decide, f_M_end_158, if_pos (by decide)]
  | succ p ih =>
    intro n hp hn
    obtain ⟨n, rfl⟩ : ∃ z, n = z + 1 := ⟨n - 1, by omega⟩
    rw [f_M_end_158, if_neg (nI_pos (by omega)), m_bitAt hN hp, hx_b1_some, Nat.zero_testBit, if_pos (show bI false = 0 from rfl), hx_n_eq, pk_m1]
    exact ih n (by omega) (by omega)
theorem log2_top {N p : Nat} (h : N < 2 ^ (p + 1)) (hb : N.testBit p = true) : N.log2 = p := by
  have h1 : 2 ^ p ≤ N := Nat.ge_two_pow_of_testBit hb
  have h0 : N ≠ 0 := by have := Nat.two_pow_pos p; omega
  have h2 := (Nat.log2_lt h0).mpr h
  have h3 := (Nat.le_log2 h0).mpr h1
  omega
theorem m_e158 {σ : hm_S} {N : Nat} (hN : mN (hm_limb σ) N) (h0 : N ≠ 0) (a b c : Int32) : ∀ (p n : Nat), p < 768 → p + 1 < n → N < 2 ^ (p + 1) → f_M_end_158 n σ a b c (nI p) = f_M_end_178 σ a b c (nI N.log2) := by
  intro p
  induction p with
  | zero =>
    intro n hp hn hlt
    obtain ⟨n, rfl⟩ : ∃ z, n = z + 1 := ⟨n - 1, by omega⟩
    have h1 : N = 1 := by omega
    subst h1
    rw [f_M_end_158, if_neg (nI_pos (by omega)), m_bitAt hN hp, hx_b1_some, if_neg (by decide)]
    rfl
  | succ p ih =>
    intro n hp hn hlt
    obtain ⟨n, rfl⟩ : ∃ z, n = z + 1 := ⟨n - 1, by omega⟩
    rw [f_M_end_158, if_neg (nI_pos (by omega)), m_bitAt hN hp, hx_b1_some]
    by_cases c : N.testBit (p + 1) = true
    · rw [c, if_neg (show ¬ bI true = 0 by decide), log2_top hlt c]
    · have c : N.testBit (p + 1) = false := by simpa using c
      rw [c, if_pos (show bI false = 0 from rfl), hx_n_eq, pk_m1]
      refine ih n (by omega) (by omega) ?_
      refine Nat.lt_of_not_le (fun hle => ?_)
      have h3 := (Nat.le_log2 h0).mpr hle
      have h4 := (Nat.log2_lt h0).mpr hlt
      have h5 : N.log2 = p + 1 := by omega
      have h6 := Nat.testBit_log2 h0
      rw [h5, c] at h6
      cases h6
/-- the part of `end` that rounds, or answers a zero -/
theorem m_e153 {σ : hm_S} {k e f kd way N st : Nat} {ts : List hT} (h : mF σ k e f kd) (hN : mN (hm_limb σ) N) (neg : Bool) (hw : way ≤ 5) (hst : hm_state σ = lN st) (hs : st < 2147483647) (hz : hm_allZero σ = bI (ht_az ts)) (hp : hm_hasPlus σ = bI (ht_pl ts)) (hm : hm_hasMinus σ = bI (ht_mi ts)) (ht : hm_terms σ = nI ts.length) (hlen : ts.length < 2147483648) :
    f_M_end_153 σ (nI k) (nI way) (bI neg) = some (lN (if N = 0 then (sp_sg e f (if ht_az ts && (ht_pl ts != ht_mi ts) then ht_mi ts else decide (0 < ts.length) && decide (way = 4)), hm_flags σ, st) else sp_fin e f kd neg N way (hm_flags σ) st).1, hm_fs σ (if N = 0 then (sp_sg e f (if ht_az ts && (ht_pl ts != ht_mi ts) then ht_mi ts else decide (0 < ts.length) && decide (way = 4)), hm_flags σ, st) else sp_fin e f kd neg N way (hm_flags σ) st).2.1 (lN (if N = 0 then (sp_sg e f (if ht_az ts && (ht_pl ts != ht_mi ts) then ht_mi ts else decide (0 < ts.length) && decide (way = 4)), hm_flags σ, st) else sp_fin e f kd neg N way (hm_flags σ) st).2.2)) := by
  have hfu : hx_fuel = 5000 := rfl
  rw [f_M_end_153, show (767 : Int32) = nI 767 from rfl]
  by_cases c : N = 0
  · subst c
    have hself : hm_fs σ (hm_flags σ) (lN st) = σ := by rw [← hst]; rfl
    have e237 : ∀ b : Bool, f_M_end_237 σ (nI k) (bI b) = some (lN (sp_sg e f b), σ) := by
      intro b
      rw [f_M_end_237, m_signBit h, hx_b1_some]
      cases b <;> rfl
    rw [m_e158z hN _ _ _ 767 hx_fuel (by omega) (by omega), f_M_end_178, if_neg (show ¬ (0 : Int32) ≤ -1 by decide), if_pos rfl, hself]
    have ht0 : (hm_terms σ ≤ 0) = (ts.length = 0) := by
      rw [ht, show (0 : Int32) = nI 0 from rfl, nI_leI hlen (by omega)]; exact propext ⟨fun z => by omega, fun z => by omega⟩
    have e205 : f_M_end_205 σ (nI k) (nI way) = some (lN (sp_sg e f (decide (0 < ts.length) && decide (way = 4))), σ) := by
      rw [f_M_end_205, f_M_end_206, if_pos rfl]
      have z0 : f_M_end_237 σ (nI k) 0 = some (lN (sp_sg e f false), σ) := e237 false
      have z1 : f_M_end_237 σ (nI k) 1 = some (lN (sp_sg e f true), σ) := e237 true
      simp only [ht0, wy4 hw, f_M_end_236, z0, z1]
      by_cases d : ts.length = 0
      · rw [if_pos d, decide_eq_false (show ¬ 0 < ts.length by omega), Bool.false_and]
      · rw [if_neg d, decide_eq_true (show 0 < ts.length by omega), Bool.true_and]
        by_cases g : way = 4
        · rw [if_pos g, decide_eq_true g]
        · rw [if_neg g, decide_eq_false g]
    rw [hz, hp, hm, e205]
    have e206 : f_M_end_206 σ (nI k) (nI way) 1 = some (lN (sp_sg e f (ht_mi ts)), σ) := by
      rw [f_M_end_206, if_neg (by decide), hm, e237]
    rw [e206]
    dsimp only
    simp only [bI_inj]
    cases ht_az ts
    · rw [if_pos (show bI false = 0 from rfl)]; rfl
    · rw [if_neg (show ¬ bI true = 0 by decide)]
      cases ht_pl ts <;> cases ht_mi ts <;> rfl
  · rw [if_neg c, m_e158 hN c _ _ _ 767 hx_fuel (by omega) (by omega) (mN_lt hN), f_M_end_178, if_pos (nI_pos' (by have := log2_le (mN_lt hN) c; omega)), m_round h hN c neg hw hst hs, hx_b2_some]
theorem kQ_half : kQ = 2 * 2 ^ 767 := by unfold kQ; rw [show (768 : Nat) = 767 + 1 from rfl, Int.pow_succ, Int.mul_comm]
theorem m_end {τ : hm_S} {k e f kd way st : Nat} {ts : List hT} (h : mF τ k e f kd) (hA : mA τ ts) (hw : way ≤ 5) (hst : hm_state τ = lN st) (hs : st < 2147483647) (hlen : ts.length < 2147483648) (hV1 : -(2 ^ 767) < tV ts) (hV2 : tV ts < 2 ^ 767) :
    ∃ F, f_M_end τ (nI k) (nI way) = some (lN (sp_end e f kd ts way (hm_flags τ) st).1, hm_fs (hm_lset τ F) (sp_end e f kd ts way (hm_flags τ) st).2.1 (lN (sp_end e f kd ts way (hm_flags τ) st).2.2)) := by
  obtain ⟨h1, h2, h3, h4, h5, h6, h7, h8, x, hx, cc, hxc⟩ := hA
  have hl := m_limit h
  have hn := m_nan h
  have hsb := m_signBit h
  have hv := h.2.1
  have hlt := q_limlt hv
  have hself : hm_fs (hm_lset τ (hm_limb τ)) (hm_flags τ) (lN st) = τ := by rw [← hst]; rfl
  have e34 : f_M_end_34 τ (nI k) = some (lN (q_nan e f kd), hm_fs (hm_lset τ (hm_limb τ)) (hm_flags τ ||| 1) (lN st)) := by
    have hn2 := m_nan (h.fs (hm_flags τ ||| 1) (hm_state τ))
    rw [f_M_end_34, hx_n_eq, hx_n_eq, hm_flags_s_eq, hn2, hx_b1_some, hst]
    rfl
  have e80 : ∀ b : Bool, f_M_end_80 τ (nI k) (lN (sp_sg e f b)) = some (lN (if kd = 0 then q_lim e f kd + sp_sg e f b else if kd = 1 then q_lim e f kd - 1 + sp_sg e f b else q_nan e f kd), τ) := by
    intro b
    have hk := h.1
    have hK := h.2.2.2.2
    have h5' := hv.2.2.2.2
    simp only [f_M_end_80, hc4 hk, hg4 hk, if_false, hK, kd0 h5', kd1 h5', hl, hn, hx_b1_some, lN_m1 hlt.2.1, lor_sg hv b (show q_lim e f kd < 2 ^ (e + f) from hlt.1), lor_sg hv b (show q_lim e f kd - 1 < 2 ^ (e + f) by omega)]
    by_cases c : kd = 0
    · rw [if_pos c, if_pos c]
    · rw [if_neg c, if_neg c]
      by_cases d : kd = 1
      · rw [if_pos d, if_pos d]
      · rw [if_neg d, if_neg d]
  have e64 : f_M_end_64 τ (nI k) = some (lN (if kd = 0 then q_lim e f kd + sp_sg e f (ht_be ts) else if kd = 1 then q_lim e f kd - 1 + sp_sg e f (ht_be ts) else q_nan e f kd), τ) := by
    rw [f_M_end_64, h4, hsb, hx_b1_some]
    have := e80 (ht_be ts)
    cases hb : ht_be ts
    · rw [hb] at this; rw [if_pos (show bI false = 0 from rfl)]; exact this
    · rw [hb] at this; rw [if_neg (show ¬ bI true = 0 by decide)]; exact this
  unfold sp_end
  rw [f_M_end, h1, h2, h3, h4]
  cases c1 : ht_nan ts
  · rw [if_pos (show bI false = 0 from rfl), if_neg Bool.false_ne_true]
    cases c2 : ht_wr ts
    · rw [if_pos (show bI false = 0 from rfl), Bool.false_or]
      cases c3 : ht_ab ts
      · rw [if_pos (show bI false = 0 from rfl), Bool.false_and, if_neg Bool.false_ne_true, Bool.false_or, f_M_end_50, h3, c3, if_pos (show bI false = 0 from rfl), h4]
        cases c4 : ht_be ts
        · rw [if_pos (show bI false = 0 from rfl), if_neg Bool.false_ne_true]
          have hb := sI_bd (n := 24) (fun j hj => ⟨(hx j hj).1, (hx j hj).2.1⟩)
          rw [kQ_eq] at hb
          have hkh := kQ_half
          have hpos : (0 : Int) < 2 ^ 767 := Int.pow_pos (by decide)
          have hn0 := mN_of hx
          rw [show (767 : Int32) = nI 767 from rfl, m_bitAt hn0 (by omega), hx_b1_some]
          by_cases cv : tV ts < 0
          · have hc : cc = 1 := by
              have h9 : cc * kQ = sI x 24 - tV ts := by omega
              generalize kQ = Q at h9 hb hkh
              generalize (2 : Int) ^ 767 = P at hkh hpos hV1 hV2
              rcases (show cc ≤ 0 ∨ cc = 1 ∨ 2 ≤ cc by omega) with z | z | z
              · have : cc * Q ≤ 0 := Int.mul_nonpos_of_nonpos_of_nonneg z (by omega)
                omega
              · exact z
              · have : 2 * Q ≤ cc * Q := Int.mul_le_mul_of_nonneg_right z (by omega)
                omega
            rw [hc, Int.one_mul] at hxc
            have hbit : (sI x 24).toNat.testBit 767 = true := by
              have h10 : 2 ^ 767 ≤ (sI x 24).toNat := by
                have : ((2 ^ 767 : Nat) : Int) = (2 : Int) ^ 767 := by rw [Int.natCast_pow]; rfl
                generalize (2 : Nat) ^ 767 = p at this ⊢
                generalize (2 : Int) ^ 767 = P at this hkh hV1 hV2 hpos
                omega
              have h11 := mN_lt hn0
              refine Classical.byContradiction (fun hq => ?_)
              have hq : (sI x 24).toNat.testBit 767 = false := by simpa using hq
              have h12 := Nat.testBit_log2 (n := (sI x 24).toNat) (by have := Nat.two_pow_pos 767; omega)
              have h13 : (sI x 24).toNat.log2 = 767 := by
                have a1 := (Nat.le_log2 (n := (sI x 24).toNat) (by have := Nat.two_pow_pos 767; omega)).mpr h10
                have a2 := log2_le h11 (by have := Nat.two_pow_pos 767; omega)
                omega
              rw [h13, hq] at h12
              cases h12
            rw [hbit, if_pos (show bI true = 1 from rfl), f_M_end_144, if_neg (by decide)]
            have hpx : 0 < sI x 24 := by
              generalize kQ = Q at hxc hb hkh
              generalize (2 : Int) ^ 767 = P at hkh hV1 hV2 hpos
              omega
            obtain ⟨F, g1, g2⟩ := m_negate hx hpx
            have hN : (kQ - sI x 24).toNat = (tV ts).natAbs := by
              generalize kQ = Q at hxc ⊢
              omega
            rw [hN] at g2
            have r := m_e153 (σ := hm_lset τ F) (ts := ts) h g2 true hw hst hs h7 h5 h6 h8 hlen
            have hnz : (tV ts).natAbs ≠ 0 := by omega
            simp only [if_neg hnz] at r
            refine ⟨F, ?_⟩
            rw [g1, hx_b1_some, show (1 : Int32) = bI true from rfl, r, if_neg (show ¬ tV ts = 0 by omega), decide_eq_true cv]
            rfl
          · have hc : cc = 0 := by
              have h9 : cc * kQ = sI x 24 - tV ts := by omega
              generalize kQ = Q at h9 hb hkh
              generalize (2 : Int) ^ 767 = P at hkh hpos hV1 hV2
              rcases (show cc ≤ -1 ∨ cc = 0 ∨ 1 ≤ cc by omega) with z | z | z
              · have : cc * Q ≤ -1 * Q := Int.mul_le_mul_of_nonneg_right z (by omega)
                omega
              · exact z
              · have : 1 * Q ≤ cc * Q := Int.mul_le_mul_of_nonneg_right z (by omega)
                omega
            rw [hc, Int.zero_mul, Int.add_zero] at hxc
            have hbit : (sI x 24).toNat.testBit 767 = false := by
              apply Nat.testBit_lt_two_pow
              have : ((2 ^ 767 : Nat) : Int) = (2 : Int) ^ 767 := by rw [Int.natCast_pow]; rfl
              generalize (2 : Nat) ^ 767 = p at this ⊢
              generalize (2 : Int) ^ 767 = P at this hkh hV1 hV2 hpos
              omega
            rw [hbit, if_neg (show ¬ bI false = 1 by decide), f_M_end_144, if_pos rfl]
            have hN : (sI x 24).toNat = (tV ts).natAbs := by omega
            rw [hN] at hn0
            have r := m_e153 (σ := τ) (ts := ts) h hn0 false hw hst hs h7 h5 h6 h8 hlen
            refine ⟨hm_limb τ, ?_⟩
            rw [show (0 : Int32) = bI false from rfl, r, decide_eq_false cv]
            by_cases cz : tV ts = 0
            · rw [if_pos cz]
              simp only [show (tV ts).natAbs = 0 by omega, if_true]
              rfl
            · rw [if_neg cz]
              simp only [show ¬ (tV ts).natAbs = 0 by omega, if_false]
              rfl
        · rw [if_neg (show ¬ bI true = 0 by decide), if_pos rfl]
          refine ⟨hm_limb τ, ?_⟩
          rw [e64, c4, hself]
      · rw [if_neg (show ¬ bI true = 0 by decide), Bool.true_and, Bool.true_or]
        cases c4 : ht_be ts
        · rw [if_pos (show bI false = 0 from rfl), if_neg Bool.false_ne_true, if_pos rfl, f_M_end_50, h3, c3, if_neg (show ¬ bI true = 0 by decide)]
          refine ⟨hm_limb τ, ?_⟩
          rw [e64, c4, hself]
        · rw [if_neg (show ¬ bI true = 0 by decide), if_pos rfl]
          exact ⟨hm_limb τ, e34⟩
    · rw [if_neg (show ¬ bI true = 0 by decide), Bool.true_or, if_pos rfl]
      exact ⟨hm_limb τ, e34⟩
  · rw [if_neg (show ¬ bI true = 0 by decide), if_pos rfl]
    refine ⟨hm_limb τ, ?_⟩
    rw [hn, hx_b1_some, hself]
