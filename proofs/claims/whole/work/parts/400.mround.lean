/-! What rounding is -/
def sp_sg (e f : Nat) (neg : Bool) : Nat := if neg then 2 ^ (e + f) else 0
def sp_stop (kd way : Nat) (neg : Bool) : Bool := decide (kd = 1) || (decide (way = 2) || ((decide (way = 3) && neg) || (decide (way = 4) && !neg)))
def sp_over (e f kd : Nat) (neg : Bool) (way : Nat) : Nat := if kd = 2 then q_nan e f kd else if sp_stop kd way neg then q_lim e f kd - 1 + sp_sg e f neg else q_lim e f kd + sp_sg e f neg
def sp_pack (e f kd : Nat) (neg : Bool) (way : Nat) (fl : Int32) (st v : Nat) : Nat × Int32 × Nat := if v < q_lim e f kd then (v + sp_sg e f neg, fl, st) else (sp_over e f kd neg way, fl ||| 10, st)
def sp_far (way : Nat) (neg : Bool) (q r P : Nat) (st : Nat) : Bool × Nat :=
  if way = 0 then (decide (P < 2 * r) || (decide (P = 2 * r) && decide (q % 2 = 1)), st)
  else if way = 1 then (decide (P ≤ 2 * r), st)
  else if way = 2 then (false, st)
  else if way = 3 then (!neg, st)
  else if way = 4 then (neg, st)
  else (decide (st * 48271 % 2147483647 / 16 % 65536 < r * 65536 / P), st * 48271 % 2147483647)
def sp_ex (e N : Nat) : Nat := if N.log2 < q_L e then q_L e else N.log2
def sp_fin (e f kd : Nat) (neg : Bool) (N way : Nat) (fl : Int32) (st : Nat) : Nat × Int32 × Nat :=
  if N % 2 ^ (sp_ex e N - f) = 0 then sp_pack e f kd neg way fl st ((sp_ex e N - q_L e) * 2 ^ f + N / 2 ^ (sp_ex e N - f))
  else sp_pack e f kd neg way (fl ||| (if N.log2 < q_L e then 12 else 8)) (sp_far way neg (N / 2 ^ (sp_ex e N - f)) (N % 2 ^ (sp_ex e N - f)) (2 ^ (sp_ex e N - f)) st).2
    ((sp_ex e N - q_L e) * 2 ^ f + N / 2 ^ (sp_ex e N - f) + if (sp_far way neg (N / 2 ^ (sp_ex e N - f)) (N % 2 ^ (sp_ex e N - f)) (2 ^ (sp_ex e N - f)) st).1 then 1 else 0)
/-! the reference -/
def hm_fs (τ : hm_S) (fl : Int32) (st : Int64) : hm_S := (τ.1, τ.2.1, τ.2.2.1, τ.2.2.2.1, τ.2.2.2.2.1, τ.2.2.2.2.2.1, τ.2.2.2.2.2.2.1, τ.2.2.2.2.2.2.2.1, fl, st, τ.2.2.2.2.2.2.2.2.2.2)
theorem hm_flags_s_eq (τ : hm_S) (x : Int32) : hm_flags_s τ x = hm_fs τ x (hm_state τ) := rfl
theorem hm_state_s_eq (τ : hm_S) (x : Int64) : hm_state_s τ x = hm_fs τ (hm_flags τ) x := rfl
theorem hm_fs_fs (τ : hm_S) (a c : Int32) (b d : Int64) : hm_fs (hm_fs τ a b) c d = hm_fs τ c d := rfl
theorem hm_fs_limb (τ : hm_S) (a : Int32) (b : Int64) : hm_limb (hm_fs τ a b) = hm_limb τ := rfl
theorem hm_fs_flags (τ : hm_S) (a : Int32) (b : Int64) : hm_flags (hm_fs τ a b) = a := rfl
theorem hm_fs_state (τ : hm_S) (a : Int32) (b : Int64) : hm_state (hm_fs τ a b) = b := rfl
theorem hm_fs_self (τ : hm_S) : hm_fs τ (hm_flags τ) (hm_state τ) = τ := rfl
theorem mF.fs {τ : hm_S} {k e f kd : Nat} (h : mF τ k e f kd) (a : Int32) (b : Int64) : mF (hm_fs τ a b) k e f kd := h
theorem kd1 {kd : Nat} (h : kd ≤ 2) : (nI kd = 1) = (kd = 1) := by rw [show (1 : Int32) = nI 1 from rfl, nI_eq (by omega) (by omega)]
theorem kd2 {kd : Nat} (h : kd ≤ 2) : (nI kd = 2) = (kd = 2) := by rw [show (2 : Int32) = nI 2 from rfl, nI_eq (by omega) (by omega)]
theorem wy {w : Nat} (c : Nat) (h : w ≤ 5) (hc : c ≤ 5) : (nI w = nI c) = (w = c) := by rw [nI_eq (by omega) (by omega)]
theorem lor_sg {e f kd v : Nat} (h : vf e f kd) (neg : Bool) (hv : v < 2 ^ (e + f)) : lN (sp_sg e f neg) ||| lN v = lN (v + sp_sg e f neg) := by
  have hw := q_w h
  unfold sp_sg
  cases neg
  · rw [if_neg Bool.false_ne_true, wb_or (by decide) (by omega), Nat.zero_or]; rfl
  · rw [if_pos rfl, wb_or (by omega) (by omega), Nat.or_comm, or_top hv]
theorem m_r253 {τ : hm_S} {k e f kd : Nat} (h : mF τ k e f kd) (neg stp : Bool) : f_M_round_253 τ (nI k) (lN (sp_sg e f neg)) (bI stp) = some (lN (if kd = 2 then q_nan e f kd else if stp then q_lim e f kd - 1 + sp_sg e f neg else q_lim e f kd + sp_sg e f neg), τ) := by
  have hl := m_limit h
  have hn := m_nan h
  have hv := h.2.1
  have hlt := q_limlt hv
  obtain ⟨hk, ⟨h1, h2, h3, h4, h5⟩, hE, hF, hK⟩ := h
  simp only [f_M_round_253, hc4 hk, hg4 hk, if_false, hK, kd2 h5, hl, hn, hx_b1_some, lN_m1 hlt.2.1, lor_sg hv neg (show q_lim e f kd < 2 ^ (e + f) from hlt.1), lor_sg hv neg (show q_lim e f kd - 1 < 2 ^ (e + f) by omega)]
  by_cases c : kd = 2
  · rw [if_pos c, if_pos c]
  · rw [if_neg c, if_neg c]
    cases stp
    · rw [if_pos (show bI false = 0 from rfl), if_neg Bool.false_ne_true]
    · rw [if_neg (show ¬ bI true = 0 by decide), if_pos rfl]
theorem m_r191 {τ : hm_S} {k e f kd way v : Nat} (h : mF τ k e f kd) (neg : Bool) (hw : way ≤ 5) (hv : v < 1099511627776) (st : Nat) (hst : hm_state τ = lN st) : f_M_round_191 τ (nI k) (nI way) (bI neg) (lN v) (lN (sp_sg e f neg)) = some (lN (sp_pack e f kd neg way (hm_flags τ) st v).1, hm_fs τ (sp_pack e f kd neg way (hm_flags τ) st v).2.1 (lN (sp_pack e f kd neg way (hm_flags τ) st v).2.2)) := by
  have hl := m_limit h
  have hv2 := h.2.1
  have hlt := q_limlt hv2
  have hww := q_w hv2
  have r0 := m_r253 (h.fs (hm_flags τ ||| 10) (hm_state τ)) neg false
  have r1 := m_r253 (h.fs (hm_flags τ ||| 10) (hm_state τ)) neg true
  rw [show bI false = 0 from rfl] at r0
  rw [show bI true = 1 from rfl] at r1
  have hK : hm_fK (hm_fs τ (hm_flags τ ||| 10) (hm_state τ)) k = nI kd := h.2.2.2.2
  have h5 := hv2.2.2.2.2
  have hk := h.1
  simp only [f_M_round_191, hl, hx_b1_some, c_lt (a := v) (b := q_lim e f kd) (by omega) (by omega), hx_n_eq, hm_flags_s_eq, hc4 hk, hg4 hk, if_false, hK, kd1 h5, f_M_round_248, f_M_round_252, f_M_round_239, sp_pack]
  by_cases c : v < q_lim e f kd
  · rw [if_pos c, if_pos c, lor_sg hv2 neg (by omega), ← hst, hm_fs_self]
  · rw [if_neg c, if_neg c]
    simp only [r0, r1, sp_over, sp_stop, ← hst, show (2 : Int32) = nI 2 from rfl, show (3 : Int32) = nI 3 from rfl, show (4 : Int32) = nI 4 from rfl, wy 2 hw (by decide), wy 3 hw (by decide), wy 4 hw (by decide)]
    by_cases c1 : kd = 1
    · simp [c1]
    · by_cases c2 : way = 2
      · simp [c2]
      · by_cases c3 : way = 3
        · cases neg <;> simp [c1, c3, bI]
        · by_cases c4 : way = 4
          · cases neg <;> simp [c1, c4, bI]
          · simp [c1, c2, c3, c4]
