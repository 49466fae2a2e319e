/-! The class rounds a number -/
def cF (σ : hx_S) (k e f kd : Nat) : Prop := k < 4 ∧ vf e f kd ∧ hx_fm σ k = FM e f kd
def hx_rs (σ : hx_S) (fl : Int32) (st : Int64) : hx_S := (σ.1, σ.2.1, σ.2.2.1, (fl, st), σ.2.2.2.2)
theorem hx_raised_eq (σ : hx_S) (x : Int32) : hx_rd_raised_s σ x = hx_rs σ x (hx_rd_state σ) := rfl
theorem hx_state_eq (σ : hx_S) (x : Int64) : hx_rd_state_s σ x = hx_rs σ (hx_rd_raised σ) x := rfl
theorem hx_rs_rs (σ : hx_S) (a c : Int32) (b d : Int64) : hx_rs (hx_rs σ a b) c d = hx_rs σ c d := rfl
theorem hx_rs_raised (σ : hx_S) (a : Int32) (b : Int64) : hx_rd_raised (hx_rs σ a b) = a := rfl
theorem hx_rs_state (σ : hx_S) (a : Int32) (b : Int64) : hx_rd_state (hx_rs σ a b) = b := rfl
theorem hx_rs_self (σ : hx_S) : hx_rs σ (hx_rd_raised σ) (hx_rd_state σ) = σ := rfl
theorem cF.rs {σ : hx_S} {k e f kd : Nat} (h : cF σ k e f kd) (a : Int32) (b : Int64) : cF (hx_rs σ a b) k e f kd := h
theorem lim_m1 {e f kd : Nat} (h : vf e f kd) : nI (q_lim e f kd) - (1 : Int32) = nI (q_lim e f kd - 1) := pk_sub (b := 1) (q_limlt h).2.1
theorem sg_if (e f : Nat) (neg : Bool) (v : Nat) : (v + if neg then 2 ^ (e + f) else 0) = v + sp_sg e f neg := rfl
theorem x_infinite {σ : hx_S} {k e f kd : Nat} (h : cF σ k e f kd) (neg : Bool) : f_D_infinite σ (bI neg) k = some (nI (if kd = 0 then q_lim e f kd + sp_sg e f neg else if kd = 1 then q_lim e f kd - 1 + sp_sg e f neg else q_nan e f kd)) := by
  obtain ⟨hk, hv, hF⟩ := h
  have h5 := hv.2.2.2.2
  have hlt := q_limlt hv
  simp only [f_D_infinite, hF, FM_k, FM_l, FM_n, kd0 h5, kd1 h5, lim_m1 hv, x_signed hv neg hlt.1, x_signed hv neg (show q_lim e f kd - 1 < 2 ^ (e + f) by omega), hx_b1_some, sg_if]
  by_cases c : kd = 0
  · rw [if_pos c, if_pos c]
  · rw [if_neg c, if_neg c]
    by_cases d : kd = 1
    · rw [if_pos d, if_pos d]
    · rw [if_neg d, if_neg d]
theorem x_stops {way : Nat} (neg : Bool) (hw : way ≤ 5) : f_D_stopsShort (bI neg) (nI way) = some (bI (decide (way = 2) || ((decide (way = 3) && neg) || (decide (way = 4) && !neg)))) := by
  simp only [f_D_stopsShort, f_D_stopsShort_14, wy2 hw, wy3 hw, wy4 hw]
  cases neg <;> (by_cases w2 : way = 2 <;> by_cases w3 : way = 3 <;> by_cases w4 : way = 4 <;> simp [w2, w3, w4, bI] <;> omega)
theorem x_tooFar {σ : hx_S} {k e f kd way : Nat} (h : cF σ k e f kd) (neg : Bool) (hw : way ≤ 5) : (if hx_fm_kind (hx_fm σ k) = 0 then hx_b1 (f_D_stopsShort (bI neg) (nI way)) (fun r => (if r = 0 then f_D_finite_246 σ (bI neg) k else f_D_finite_247 σ (bI neg) k (1 : Int32))) else f_D_finite_246 σ (bI neg) k) = some (nI (sp_over e f kd neg way), σ) := by
  have hi := x_infinite h neg
  obtain ⟨hk, hv, hF⟩ := h
  have h5 := hv.2.2.2.2
  have hlt := q_limlt hv
  simp only [x_stops neg hw, f_D_finite_246, f_D_finite_247, hi, hF, FM_k, FM_l, kd0 h5, lim_m1 hv, x_signed hv neg (show q_lim e f kd - 1 < 2 ^ (e + f) by omega), hx_b1_some, sg_if, sp_over, sp_stop]
  rcases (show kd = 0 ∨ kd = 1 ∨ kd = 2 by omega) with c | c | c <;> subst c <;> cases neg <;>
    (by_cases w2 : way = 2 <;> by_cases w3 : way = 3 <;> by_cases w4 : way = 4 <;> simp [w2, w3, w4, bI] <;> omega)
theorem x_202 {σ : hx_S} {k e f kd way v : Nat} (h : cF σ k e f kd) (neg : Bool) (hw : way ≤ 5) (hv : v < 1099511627776) (st : Nat) (hst : hx_rd_state σ = lN st) : f_D_finite_202 σ (bI neg) k (nI way) (lN v) = some (nI (sp_pack e f kd neg way (hx_rd_raised σ) st v).1, hx_rs σ (sp_pack e f kd neg way (hx_rd_raised σ) st v).2.1 (lN (sp_pack e f kd neg way (hx_rd_raised σ) st v).2.2)) := by
  have hv2 := h.2.1
  have hlt := q_limlt hv2
  have hww := q_w hv2
  have ht := x_tooFar (h.rs (hx_rd_raised σ ||| 10) (hx_rd_state σ)) neg hw
  have hF := h.2.2
  simp only [f_D_finite_202, hF, FM_l, nI_l (show q_lim e f kd < 2 ^ 31 by omega), c_lt (a := v) (b := q_lim e f kd) (by omega) (by omega), lN_i, hx_n_eq, hx_raised_eq, sp_pack]
  by_cases c : v < q_lim e f kd
  · rw [if_pos c, if_pos c, x_signed hv2 neg (by omega), hx_b1_some, ← hst, hx_rs_self]; rfl
  · rw [if_neg c, if_neg c, ← hst]
    exact ht
theorem x_185 {σ : hx_S} {k e f kd way v : Nat} (h : cF σ k e f kd) (neg : Bool) (hw : way ≤ 5) (hv : v < 1099511627775) (st : Nat) (hst : hx_rd_state σ = lN st) (b : Bool) : f_D_finite_185 σ (bI neg) k (nI way) (lN v) (bI b) = some (nI (sp_pack e f kd neg way (hx_rd_raised σ) st (v + if b then 1 else 0)).1, hx_rs σ (sp_pack e f kd neg way (hx_rd_raised σ) st (v + if b then 1 else 0)).2.1 (lN (sp_pack e f kd neg way (hx_rd_raised σ) st (v + if b then 1 else 0)).2.2)) := by
  rw [f_D_finite_185]
  cases b
  · rw [if_pos (show bI false = 0 from rfl), f_D_finite_199, hx_n_eq, show lN v + (0 : Int64) = lN (v + 0) from lN_add v 0]
    exact x_202 h neg hw (by omega) st hst
  · rw [if_neg (show ¬ bI true = 0 by decide), f_D_finite_199, hx_n_eq, show lN v + (1 : Int64) = lN (v + 1) from lN_1 v]
    exact x_202 h neg hw (by omega) st hst
theorem x_shr {a d : Nat} (ha : a < 4611686018427387904) (hd : d < 2000) : f_D_shifted (lN a) (nI d) = some (lN (a / 2 ^ d)) := by
  have c1 : (nI d ≤ (62 : Int32)) = (d ≤ 62) := by rw [show (62 : Int32) = nI 62 from rfl, nI_leI (by omega) (by omega)]
  have c2 : (nI d < 0) = False := eq_false (nI_pos (by omega))
  simp only [f_D_shifted, c1, c2, if_false]
  by_cases c : d ≤ 62
  · rw [if_pos c, wb_shr (by omega) (by omega)]
  · rw [if_neg c, Nat.div_eq_of_lt]; · rfl
    exact Nat.lt_of_lt_of_le ha (show 4611686018427387904 ≤ 2 ^ d from Nat.pow_le_pow_right (n := 2) (i := 62) (j := d) (by decide) (by omega))
theorem l0_shl (y : Int64) : lN 0 <<< y = lN 0 := by
  apply Int64.toBitVec_inj.mp
  rw [Int64.toBitVec_shiftLeft]
  exact BitVec.zero_shiftLeft _
theorem x_shl {a j : Nat} (hj : j < 2000) (h1 : 1 ≤ j) (h : j < 64 ∨ a = 0) : f_D_shifted (lN a) (iI (-(j : Int))) = some (lN (a * 2 ^ j)) := by
  have c1 : (iI (-(j : Int)) ≤ (62 : Int32)) = True := eq_true (by rw [show (62 : Int32) = iI 62 from rfl, iI_le (by omega) (by omega) (by omega) (by omega)]; omega)
  have c2 : (iI (-(j : Int)) < 0) = True := eq_true (by rw [show (0 : Int32) = iI 0 from rfl, iI_lt (by omega) (by omega) (by omega) (by omega)]; omega)
  simp only [f_D_shifted, c1, c2, if_true]
  rw [iI_neg, Int.neg_neg, ← nI_i]
  rcases h with h | h
  · rw [wb_shl a h]
  · subst h; rw [l0_shl, Nat.zero_mul]
theorem x_draw {σ : hx_S} {st : Nat} (hst : hx_rd_state σ = lN st) (h : st < 2147483647) : f_D_draw σ = some (lN (st * 48271 % 2147483647 / 16 % 65536), hx_rs σ (hx_rd_raised σ) (lN (st * 48271 % 2147483647))) := by
  have e1 : lN st * (48271 : Int64) = lN (st * 48271) := lN_mul st 48271
  have e2 : lN (st * 48271) - lN (st * 48271) / (2147483647 : Int64) * (2147483647 : Int64) = lN (st * 48271 % 2147483647) := pk_lRem (b := 2147483647) (by omega) (by decide) (by decide)
  have hb : st * 48271 % 2147483647 < 2147483647 := Nat.mod_lt _ (by decide)
  have e3 : lN (st * 48271 % 2147483647) >>> ((4 : Int32).toInt64 &&& 63) = lN (st * 48271 % 2147483647 / 2 ^ 4) := l_shr (k := 4) (by omega) (by decide)
  have e4 : lN (st * 48271 % 2147483647 / 2 ^ 4) &&& (65535 : Int64) = lN (st * 48271 % 2147483647 / 2 ^ 4 % 2 ^ 16) := wb_mask (k := 16) (by omega) (by decide)
  simp only [f_D_draw, hst, e1, e2, hx_n_eq, hx_state_eq, hx_rs_state, e3, e4]
/-- where the rest lies against a half -/
def hv3 (rest d : Nat) (more : Bool) : Int := if rest < 2 ^ (d - 1) then -1 else if rest = 2 ^ (d - 1) then (if more then 1 else 0) else 1
theorem x_half {rest d : Nat} (hr : rest < 4611686018427387904) (h1 : 1 ≤ d) (hd : d < 2000) (more : Bool) : f_D_againstHalf (lN rest) (nI d) (bI more) = some (iI (hv3 rest d more)) := by
  have c1 : (nI d ≤ (62 : Int32)) = (d ≤ 62) := by rw [show (62 : Int32) = nI 62 from rfl, nI_leI (by omega) (by omega)]
  have e0 : nI d - (1 : Int32) = nI (d - 1) := pk_sub (b := 1) h1
  simp only [f_D_againstHalf, c1, e0, hv3]
  by_cases c : d ≤ 62
  · have hp : 2 ^ (d - 1) ≤ 2 ^ 61 := Nat.pow_le_pow_right (by decide) (by omega)
    have e1 : (1 : Int64) <<< ((nI (d - 1)).toInt64 &&& 63) = lN (1 * 2 ^ (d - 1)) := wb_shl 1 (by omega)
    rw [Nat.one_mul] at e1
    rw [if_pos c, e1, f_JL_compare]
    simp only [c_ge (a := rest) (b := 2 ^ (d - 1)) (by omega) (by omega), c_eq (a := rest) (b := 2 ^ (d - 1)) (by omega) (by omega)]
    by_cases c2 : rest < 2 ^ (d - 1)
    · rw [if_neg (by omega), if_pos c2, hx_b1_some, if_neg (by decide)]; rfl
    · rw [if_pos (by omega), if_neg c2]
      by_cases c3 : rest = 2 ^ (d - 1)
      · rw [if_pos c3, if_pos c3, hx_b1_some, if_pos rfl]
        cases more <;> rfl
      · rw [if_neg c3, if_neg c3, hx_b1_some, if_neg (by decide)]; rfl
  · have hp : 2 ^ 62 ≤ 2 ^ (d - 1) := Nat.pow_le_pow_right (by decide) (by omega)
    rw [if_neg c, if_pos (by omega)]; rfl
theorem x_goesFar {way : Nat} (hw : way ≤ 5) (neg odd : Bool) {z : Int} (h1 : -1 ≤ z) (h2 : z ≤ 1) : f_D_goesFar (bI neg) (bI odd) (iI z) (nI way) = some (bI (if way = 0 then decide (0 < z) || (decide (z = 0) && odd) else if way = 1 then decide (0 ≤ z) else if way = 2 then false else if way = 3 then !neg else if way = 4 then neg else false)) := by
  have c1 : (0 < iI z) = (0 < z) := by rw [show (0 : Int32) = iI 0 from rfl, iI_lt (by omega) (by omega) (by omega) (by omega)]
  have c2 : (iI z = 0) = (z = 0) := by rw [show (0 : Int32) = iI 0 from rfl, iI_eq (by omega) (by omega) (by omega) (by omega)]
  have c3 : (iI z < 0) = (z < 0) := by rw [show (0 : Int32) = iI 0 from rfl, iI_lt (by omega) (by omega) (by omega) (by omega)]
  simp only [f_D_goesFar, c1, c2, c3, wy0 hw, wy1 hw, wy2 hw, wy3 hw, wy4 hw]
  by_cases w0 : way = 0
  · rw [if_pos w0, if_pos w0]
    rcases (show z = -1 ∨ z = 0 ∨ z = 1 by omega) with rfl | rfl | rfl <;> cases odd <;> rfl
  · rw [if_neg w0, if_neg w0]
    by_cases w1 : way = 1
    · rw [if_pos w1, if_pos w1]
      rcases (show z = -1 ∨ z = 0 ∨ z = 1 by omega) with rfl | rfl | rfl <;> rfl
    · rw [if_neg w1, if_neg w1]
      by_cases w2 : way = 2
      · rw [if_pos w2, if_pos w2]; rfl
      · rw [if_neg w2, if_neg w2]
        by_cases w3 : way = 3
        · rw [if_pos w3, if_pos w3]; cases neg <;> rfl
        · rw [if_neg w3, if_neg w3]
          by_cases w4 : way = 4
          · rw [if_pos w4, if_pos w4, if_pos (bI_or neg)]
          · rw [if_neg w4, if_neg w4]; rfl
