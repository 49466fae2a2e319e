/-! The class's turned is sp_end of one term -/
theorem q_s4 (e f kd u : Nat) : q_sort e f kd u = 0 ∨ q_sort e f kd u = 1 ∨ q_sort e f kd u = 2 ∨ q_sort e f kd u = 3 ∨ q_sort e f kd u = 4 := by
  unfold q_sort
  split
  · exact Or.inl rfl
  · split
    · split
      · exact Or.inr (Or.inl rfl)
      · exact Or.inr (Or.inr (Or.inl rfl))
    · split
      · exact Or.inr (Or.inr (Or.inr (Or.inl rfl)))
      · exact Or.inr (Or.inr (Or.inr (Or.inr rfl)))
theorem q_mpos {e f kd u : Nat} (h : q_sort e f kd u = 1 ∨ q_sort e f kd u = 2) : 0 < q_m e f kd u := by
  unfold q_m
  rcases h with h | h
  · rw [if_pos h]
    unfold q_sort at h
    by_cases c : u % 2 ^ (e + f) = 0
    · rw [if_pos c] at h; omega
    · rw [if_neg c] at h
      by_cases c2 : u % 2 ^ (e + f) < q_lim e f kd
      · rw [if_pos c2] at h
        by_cases c3 : u % 2 ^ (e + f) / 2 ^ f = 0
        · have h5 := Nat.lt_of_div_eq_zero (Nat.two_pow_pos f) c3
          have h6 : u % 2 ^ (e + f) % 2 ^ f = u % 2 ^ f := mod_mod ..
          rw [Nat.mod_eq_of_lt h5] at h6
          omega
        · rw [if_neg c3] at h; omega
      · rw [if_neg c2] at h
        split at h <;> omega
  · rw [if_neg (by omega), if_pos h]
    have := Nat.two_pow_pos f
    omega
theorem x_turned {σ : hx_S} {k e f kd k2 e2 f2 kd2 way u st : Nat} (h : cF σ k e f kd) (g : cF σ k2 e2 f2 kd2) (hw : way ≤ 5) (hu : u < 2 ^ (e + f + 1)) (by_ : Int) (pl : Nat) (hpl : (pl : Int) = q_pw e f kd u + 352 + by_) (hb : pl < 676) (hst : hx_rd_state σ = lN st) (hs : st < 2147483647) :
    f_D_turned σ k (nI u) (iI by_) k2 (nI way) = some (nI (sp_end e2 f2 kd2 [vT e f kd u false pl] way (hx_rd_raised σ) st).1, hx_rs σ (sp_end e2 f2 kd2 [vT e f kd u false pl] way (hx_rd_raised σ) st).2.1 (lN (sp_end e2 f2 kd2 [vT e f kd u false pl] way (hx_rd_raised σ) st).2.2)) := by
  have hv := h.2.1
  have hqw := q_w hv
  have hu2 : u < 4294967296 := by rw [Nat.pow_succ] at hu; omega
  have hself : hx_rs σ (hx_rd_raised σ) (lN st) = σ := by rw [← hst]; rfl
  have es := x_sortOf hv hu2
  have en := x_isNegative hv hu
  have ei := x_infinite g (decide (2 ^ (e + f) ≤ u))
  have e0 := x_signed g.2.1 (decide (2 ^ (e + f) ≤ u)) (v := 0) (Nat.two_pow_pos _)
  rw [f_D_turned, h.2.2, g.2.2, es, hx_b1_some, en, hx_b1_some]
  unfold vT
  rw [show (decide (2 ^ (e + f) ≤ u) != false) = decide (2 ^ (e + f) ≤ u) from Bool.bne_false _]
  have fin : q_sort e f kd u = 1 ∨ q_sort e f kd u = 2 → f_D_turned_76 σ k (nI u) (iI by_) k2 (nI way) (bI (decide (2 ^ (e + f) ≤ u))) = some (nI (sp_fin e2 f2 kd2 (decide (2 ^ (e + f) ≤ u)) (q_m e f kd u * 2 ^ pl) way (hx_rd_raised σ) st).1, hx_rs σ (sp_fin e2 f2 kd2 (decide (2 ^ (e + f) ≤ u)) (q_m e f kd u * 2 ^ pl) way (hx_rd_raised σ) st).2.1 (lN (sp_fin e2 f2 kd2 (decide (2 ^ (e + f) ≤ u)) (q_m e f kd u * 2 ^ pl) way (hx_rd_raised σ) st).2.2)) := by
    intro hq
    have hm := q_mb hv u
    have hm0 := q_mpos hq
    have hl : (q_m e f kd u).log2 < 24 := (Nat.log2_lt (by omega)).mpr hm
    have ep : iI (q_pc e f u) + iI by_ = iI ((pl : Int) - 352) := by rw [iI_add, q_pc_p hv hq]; congr 1; omega
    rw [f_D_turned_76, h.2.2, x_wholeOf hv hu2, hx_b1_some, x_powerOf hv hu2, hx_b1_some, ep, q_mc_m (kd := kd) (by omega)]
    have r := x_finite (w := q_m e f kd u) (P := pl) (ρ := 0) (N := q_m e f kd u * 2 ^ pl) g (decide (2 ^ (e + f) ≤ u)) hw hm0 (by omega) (Nat.two_pow_pos _) rfl (fun c => absurd rfl c) (by omega) hst hs
    rw [show bI (decide ((0 : Nat) ≠ 0)) = (0 : Int32) from rfl] at r
    rw [r, hx_b2_some]
  have spf : q_sort e f kd u = 1 ∨ q_sort e f kd u = 2 → sp_end e2 f2 kd2 [(vK (q_sort e f kd u), decide (2 ^ (e + f) ≤ u), q_m e f kd u, pl)] way (hx_rd_raised σ) st = sp_fin e2 f2 kd2 (decide (2 ^ (e + f) ≤ u)) (q_m e f kd u * 2 ^ pl) way (hx_rd_raised σ) st := by
    intro hq
    have hm0 := q_mpos hq
    have hk : vK (q_sort e f kd u) = 0 := by unfold vK; rw [if_neg (by omega), if_neg (by omega)]
    rw [hk]
    generalize decide (2 ^ (e + f) ≤ u) = b
    have hp : 0 < q_m e f kd u * 2 ^ pl := Nat.mul_pos hm0 (Nat.two_pow_pos _)
    have hc : ((q_m e f kd u : Int) * 2 ^ pl) = ((q_m e f kd u * 2 ^ pl : Nat) : Int) := by rw [Int.natCast_mul, Int.natCast_pow]; rfl
    have htv : tV [(0, b, q_m e f kd u, pl)] = (if b then -1 else 1) * ((q_m e f kd u * 2 ^ pl : Nat) : Int) := by
      show (0 : Int) + tv (0, b, q_m e f kd u, pl) = _
      rw [Int.zero_add, ← hc]; rfl
    unfold sp_end
    rw [if_neg (show ¬ ht_nan [(0, b, q_m e f kd u, pl)] = true from Bool.false_ne_true), if_neg (show ¬ (ht_wr [(0, b, q_m e f kd u, pl)] || (ht_ab [(0, b, q_m e f kd u, pl)] && ht_be [(0, b, q_m e f kd u, pl)])) = true from Bool.false_ne_true), if_neg (show ¬ (ht_ab [(0, b, q_m e f kd u, pl)] || ht_be [(0, b, q_m e f kd u, pl)]) = true from Bool.false_ne_true), htv]
    generalize q_m e f kd u * 2 ^ pl = z at *
    cases b
    · rw [if_neg Bool.false_ne_true, Int.one_mul, if_neg (by omega), decide_eq_false (by omega), Int.natAbs_natCast]
    · rw [if_pos rfl, if_neg (by omega), decide_eq_true (by omega)]
      congr 1
      omega
  rcases q_s4 e f kd u with c | c | c | c | c
  · rw [c, if_pos (show nI 0 = 0 from rfl), show (0 : Int32) = nI 0 from rfl, e0, hx_b1_some]
    have hm : q_m e f kd u = 0 := q_m0 (by omega)
    have hsp : sp_end e2 f2 kd2 [(vK 0, decide (2 ^ (e + f) ≤ u), q_m e f kd u, pl)] way (hx_rd_raised σ) st = (sp_sg e2 f2 (decide (2 ^ (e + f) ≤ u)), hx_rd_raised σ, st) := by
      rw [hm]
      generalize decide (2 ^ (e + f) ≤ u) = b
      have : tV [(vK 0, b, 0, pl)] = 0 := by
        show (0 : Int) + (if vK 0 = 0 then (if b then -1 else 1) * (((0 : Nat) : Int) * 2 ^ pl) else 0) = 0
        simp
      unfold sp_end
      rw [this]
      cases b <;> rfl
    rw [hsp, hself, Nat.zero_add]
    rfl
  · rw [spf (Or.inl c), c, if_neg (by decide), if_pos (show nI 1 = 1 from rfl)]; exact fin (Or.inl c)
  · rw [spf (Or.inr c), c, if_neg (by decide), if_neg (by decide), if_pos (show nI 2 = 2 from rfl)]; exact fin (Or.inr c)
  · rw [c, if_neg (by decide), if_neg (by decide), if_neg (by decide), if_pos (show nI 3 = 3 from rfl), ei, hx_b1_some]
    have hsp : sp_end e2 f2 kd2 [(vK 3, decide (2 ^ (e + f) ≤ u), q_m e f kd u, pl)] way (hx_rd_raised σ) st = ((if kd2 = 0 then q_lim e2 f2 kd2 + sp_sg e2 f2 (decide (2 ^ (e + f) ≤ u)) else if kd2 = 1 then q_lim e2 f2 kd2 - 1 + sp_sg e2 f2 (decide (2 ^ (e + f) ≤ u)) else q_nan e2 f2 kd2), hx_rd_raised σ, st) := by
      generalize decide (2 ^ (e + f) ≤ u) = b
      cases b <;> rfl
    rw [hsp, hself]
  · rw [c, if_neg (by decide), if_neg (by decide), if_neg (by decide), if_neg (by decide), if_pos (show nI 4 = 4 from rfl), FM_n]
    have hsp : sp_end e2 f2 kd2 [(vK 4, decide (2 ^ (e + f) ≤ u), q_m e f kd u, pl)] way (hx_rd_raised σ) st = (q_nan e2 f2 kd2, hx_rd_raised σ, st) := rfl
    rw [hsp, hself]
