/-! The reference's sums of terms -/
def mV (F : Nat → Int64) (V : Int) : Prop := ∃ x : Nat → Int, mH F x ∧ ∃ c : Int, sI x 24 = V + c * kQ
theorem pv_up (i : Nat) (a b : Int) : pv i a b = up1 (up1 (fun _ => 0) (i + 1) b) i a := by
  funext j
  unfold pv up1
  rfl
theorem pv_sum {i : Nat} (a b : Int) (n : Nat) (h : i + 1 < n) : sI (pv i a b) n = a * 2 ^ (32 * i) + b * 2 ^ (32 * (i + 1)) := by
  rw [pv_up, sI_up, if_pos (by omega), sI_up, if_pos h, sI_0 _ _ (fun _ _ => rfl)]
  have : up1 (fun _ => (0 : Int)) (i + 1) b i = 0 := if_neg (by omega)
  rw [this]
  simp [Int.add_comm]
theorem pv_low {i : Nat} (a b : Int) : sI (pv i a b) i = 0 := by
  refine sI_0 _ _ (fun j hj => ?_)
  unfold pv
  rw [if_neg (by omega), if_neg (by omega)]
theorem sg_b (b : Bool) (z : Int) : (if b then -1 else 1) * z = if b then -z else z := by cases b <;> simp
theorem m_put {τ : hm_S} {V : Int} (hV : mV (hm_limb τ) V) (below : Bool) {bits place : Nat} (hb : bits < 16777216) (hp : place < 700) : ∃ F, f_M_put τ (lN bits) (nI place) (bI below) = some (hm_lset τ F) ∧ mV F (V + (if below then -1 else 1) * ((bits : Int) * 2 ^ place)) := by
  obtain ⟨x, hx, c, hc⟩ := hV
  have hm : place % 32 < 32 := Nat.mod_lt _ (by decide)
  have hw : bits * 2 ^ (place % 32) < 2 ^ 55 := by
    have h1 : 2 ^ (place % 32) ≤ 2 ^ 31 := Nat.pow_le_pow_right (by decide) (by omega)
    calc bits * 2 ^ (place % 32) ≤ bits * 2 ^ 31 := Nat.mul_le_mul_left _ h1
      _ < 16777216 * 2 ^ 31 := Nat.mul_lt_mul_of_pos_right hb (by decide)
      _ = 2 ^ 55 := by decide
  obtain ⟨wd, hwd⟩ : ∃ wd, wd = bits * 2 ^ (place % 32) := ⟨_, rfl⟩
  rw [← hwd] at hw
  obtain ⟨F, y, c2, h1, h2, h3⟩ := m_put36 below (i := place / 32) (by omega) (a := ((wd % 4294967296 : Nat) : Int)) (b := ((wd / 4294967296 : Nat) : Int)) (by omega) (by omega) (by omega) (by omega) (24 - place / 32) hx_fuel (place / 32) (by omega) (by have : hx_fuel = 5000 := rfl; omega) τ x hx 0 (by omega) (by omega)
  refine ⟨F, ?_, y, h2, c - c2, ?_⟩
  · have e1 : nI place / (32 : Int32) = nI (place / 32) := pk_div (d := 32) (by omega) (by decide) (by decide)
    have e2 : nI place - nI place / (32 : Int32) * (32 : Int32) = nI (place % 32) := pk_rem (d := 32) (by omega) (by decide) (by decide)
    have e3 : lN wd &&& (4294967295 : Int64) = lN (wd % 4294967296) := wb_mask (k := 32) (by omega) (by decide)
    have e4 : ((lN wd).toUInt64 >>> ((32 : Int32).toInt64.toUInt64 &&& Int64.toUInt64 63)).toInt64 = lN (wd / 4294967296) := wb_shr (k := 32) (by omega) (by decide)
    have e2' : nI place - nI (place / 32) * (32 : Int32) = nI (place % 32) := by rw [← e1]; exact e2
    simp only [f_M_put, hx_n_eq, e1, e2', wb_shl bits (show place % 32 < 64 by omega), ← hwd, e3, e4]
    rw [lN_i2 (wd % 4294967296), lN_i2 (wd / 4294967296)]
    exact h1
  · have e5 : place / 32 + 1 < 24 := by omega
    rw [pv_low, pv_sum _ _ 24 e5] at h3
    have e6 : ((wd % 4294967296 : Nat) : Int) * 2 ^ (32 * (place / 32)) + ((wd / 4294967296 : Nat) : Int) * 2 ^ (32 * (place / 32 + 1)) = (bits : Int) * 2 ^ place := by
      have e7 : (2 : Int) ^ (32 * (place / 32 + 1)) = 4294967296 * 2 ^ (32 * (place / 32)) := by rw [show 32 * (place / 32 + 1) = 32 + 32 * (place / 32) by omega, Int.pow_add]; rfl
      have e8 : (2 : Int) ^ place = 2 ^ (place % 32) * 2 ^ (32 * (place / 32)) := by rw [← Int.pow_add, show place % 32 + 32 * (place / 32) = place by omega]
      have e9 : ((bits * 2 ^ (place % 32) : Nat) : Int) = (bits : Int) * 2 ^ (place % 32) := by rw [Int.natCast_mul, Int.natCast_pow]; rfl
      have e9b : ((wd % 4294967296 : Nat) : Int) + ((wd / 4294967296 : Nat) : Int) * 4294967296 = (bits : Int) * 2 ^ (place % 32) := by rw [← e9, ← hwd]; omega
      rw [e7, e8]
      generalize (2 : Int) ^ (32 * (place / 32)) = P
      generalize (2 : Int) ^ (place % 32) = R at e9b
      rw [show ((wd / 4294967296 : Nat) : Int) * (4294967296 * P) = ((wd / 4294967296 : Nat) : Int) * 4294967296 * P from (Int.mul_assoc ..).symm, ← Int.add_mul, e9b, Int.mul_assoc]
    rw [e6, sg_b, Int.sub_zero] at h3
    rw [sg_b, Int.sub_mul]
    generalize (bits : Int) * 2 ^ place = z at h3 ⊢
    generalize kQ = Q at h3 hc ⊢
    generalize c * Q = cq at hc ⊢
    generalize c2 * Q = c2q at h3 ⊢
    cases below <;> simp only [if_true, if_false, Bool.false_eq_true] at h3 ⊢ <;> omega
theorem m_put2 {τ : hm_S} {V : Int} (hV : mV (hm_limb τ) V) (below : Bool) {w place : Nat} (hw : w < 281474976710656) (hp : place < 676) : ∃ F, hx_b1 (f_M_put τ (lN w &&& (16777215 : Int64)) (nI place) (bI below)) (fun q34 => hx_b1 (f_M_put q34 (lN w >>> ((24 : Int32).toInt64 &&& 63)) (nI place + (24 : Int32)) (bI below)) (fun q35 => some q35)) = some (hm_lset τ F) ∧ mV F (V + (if below then -1 else 1) * ((w : Int) * 2 ^ place)) := by
  have e1 : lN w &&& (16777215 : Int64) = lN (w % 16777216) := wb_mask (k := 24) (by omega) (by decide)
  have e2 : lN w >>> ((24 : Int32).toInt64 &&& 63) = lN (w / 16777216) := l_shr (k := 24) (by omega) (by decide)
  have e3 : nI place + (24 : Int32) = nI (place + 24) := nI_add place 24
  obtain ⟨F, h1, h2⟩ := m_put hV below (bits := w % 16777216) (place := place) (by omega) (by omega)
  obtain ⟨G, h3, h4⟩ := m_put (τ := hm_lset τ F) h2 below (bits := w / 16777216) (place := place + 24) (by omega) (by omega)
  refine ⟨G, ?_, ?_⟩
  · rw [e1, e2, e3, h1, hx_b1_some, h3, hx_b1_some, hm_lset_lset]
  · have e4 : V + (if below then -1 else 1) * (((w % 16777216 : Nat) : Int) * 2 ^ place) + (if below then -1 else 1) * (((w / 16777216 : Nat) : Int) * 2 ^ (place + 24)) = V + (if below then -1 else 1) * ((w : Int) * 2 ^ place) := by
      have e5 : (2 : Int) ^ (place + 24) = 16777216 * 2 ^ place := by rw [Int.pow_add, Int.mul_comm]; rfl
      rw [e5]
      generalize (2 : Int) ^ place = P
      have e6 : ((w % 16777216 : Nat) : Int) * P + ((w / 16777216 : Nat) : Int) * (16777216 * P) = (w : Int) * P := by
        rw [show ((w / 16777216 : Nat) : Int) * (16777216 * P) = ((w / 16777216 : Nat) : Int) * 16777216 * P from (Int.mul_assoc ..).symm, ← Int.add_mul, show ((w % 16777216 : Nat) : Int) + ((w / 16777216 : Nat) : Int) * 16777216 = (w : Int) by omega]
      rw [sg_b, sg_b, sg_b, ← e6]
      generalize ((w % 16777216 : Nat) : Int) * P = z1
      generalize ((w / 16777216 : Nat) : Int) * (16777216 * P) = z2
      cases below <;> simp only [if_true, if_false, Bool.false_eq_true] <;> omega
    rw [← e4]
    exact h4
/-- all that a sum of terms is made of -/
def hm_aset (τ : hm_S) (F : Nat → Int64) (t n w a b z p m : Int32) : hm_S := (τ.1, τ.2.1, τ.2.2.1, τ.2.2.2.1, τ.2.2.2.2.1, τ.2.2.2.2.2.1, F, τ.2.2.2.2.2.2.2.1, τ.2.2.2.2.2.2.2.2.1, τ.2.2.2.2.2.2.2.2.2.1, τ.2.2.2.2.2.2.2.2.2.2.1, τ.2.2.2.2.2.2.2.2.2.2.2.1, τ.2.2.2.2.2.2.2.2.2.2.2.2.1, t, n, w, a, b, z, p, m)
