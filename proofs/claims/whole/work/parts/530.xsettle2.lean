theorem hx_ws_all (σ : hx_S) (F : Nat → Int64) : hx_ex_limbs_all σ F = hx_ws σ (hx_ex_negative σ) (hx_ex_whole σ) (hx_ex_power σ) (hx_ex_more σ) F := rfl
theorem cD_of {F : Nat → Int64} {y : Nat → Int} (h : ∀ j, j < 20 → F j = lI (y j) ∧ 0 ≤ y j ∧ y j < 4294967296) : cD F (fun j => (y j).toNat) ∧ ((sN (fun j => (y j).toNat) 20 : Nat) : Int) = sI y 20 := by
  refine ⟨fun j hj => ?_, ?_⟩
  · obtain ⟨h1, h2, h3⟩ := h j hj
    exact ⟨(by omega : (y j).toNat < 4294967296), by rw [h1, lN_nn h2]⟩
  · have e : sI (fun j => (((y j).toNat : Nat) : Int)) 20 = sI y 20 := sI_congr (fun j hj => Int.toNat_of_nonneg (h j hj).2.1)
    rw [← e, sN_I (fun j => (y j).toNat) 20]
theorem o_zero {o A V P : Int} (hA : 0 ≤ A) (hA2 : A < P) (h : A + o * P = V) (h1 : 0 ≤ V) (h2 : V < P) : o = 0 := by
  rcases (show o ≤ -1 ∨ o = 0 ∨ 1 ≤ o by omega) with c | c | c
  · have : o * P ≤ -1 * P := Int.mul_le_mul_of_nonneg_right c (by omega)
    omega
  · exact c
  · have : 1 * P ≤ o * P := Int.mul_le_mul_of_nonneg_right c (by omega)
    omega
theorem x_settle25 {σ : hx_S} {F : Nat → Int64} {y : Nat → Int} (h : ∀ j, j < 20 → F j = lI (y j) ∧ 0 ≤ y j ∧ y j < 4294967296) (ng wh pw mo) (V : Int) (o : Int) (hV : sI y 20 + o * kP = V) (hV1 : -kP < V) (hV2 : V < kP) :
    ∃ (w fr ρ : Nat) (G : Nat → Int64), f_E_settle_25 (hx_ws σ ng wh pw mo F) (bI (decide (V < 0))) = some (hx_ws σ (bI (decide (V < 0))) (lN w) (iI ((fr : Int) - 320)) (bI (decide (ρ ≠ 0))) G) ∧ tK V.natAbs w fr ρ := by
  have hb := sI_bd (v := y) (n := 20) (fun j hj => (h j hj).2)
  rw [kP_eq] at hb
  have e0 : f_E_settle_25 (hx_ws σ ng wh pw mo F) (bI (decide (V < 0))) = if bI (decide (V < 0)) = 0 then f_E_settle_41 (hx_ws σ (bI (decide (V < 0))) wh pw mo F) else hx_b2 (f_E_carry (hx_ws σ (bI (decide (V < 0))) wh pw mo F) (-1 : Int32)) (fun r17 q16 => (f_E_settle_41 q16)) := by
    rw [f_E_settle_25, if_pos (bI_or _), hx_n_eq, hx_ws_ng, (hx_ws_g ..).1]
  rw [e0]
  by_cases c : V < 0
  · rw [decide_eq_true c, if_neg (by decide)]
    have hcar : cH (hx_ex_limbs (hx_ws σ (bI true) wh pw mo F)) y 2199023255552 := fun j hj => ⟨by have := (h j hj).2.1; omega, by have := (h j hj).2.2; omega, (h j hj).1⟩
    obtain ⟨G, z, o2, c1, c2, c3, c4, c5⟩ := x_carry hcar (-1) (Or.inr rfl)
    have hb2 := sI_bd (v := z) (n := 20) (fun j hj => (c4 j hj).2)
    rw [kP_eq] at hb2
    have ho : o = -1 := by
      have : o + 1 = 0 := o_zero (A := sI y 20) (V := V + kP) (P := kP) hb.1 hb.2 (by rw [Int.add_mul, Int.one_mul]; omega) (by omega) (by omega)
      omega
    have ho2 : o2 + 1 = 0 := o_zero (A := sI z 20) (V := -V) (P := kP) hb2.1 hb2.2 (by rw [Int.add_mul, Int.one_mul]; rw [ho] at hV; omega) (by omega) (by omega)
    have hz : sI z 20 = -V := by
      have : o2 = -1 := by omega
      rw [this] at c5; rw [ho] at hV; omega
    obtain ⟨d1, d2⟩ := cD_of c4
    obtain ⟨w, fr, ρ, t1, t2⟩ := x_settle44 d1 σ (bI true) wh pw mo 19 hx_fuel (by omega) (by decide) (fun j h1 h2 => by omega)
    refine ⟨w, fr, ρ, G, ?_, ?_⟩
    · rw [show (-1 : Int32) = iI (-1) from rfl, c1, hx_b2_some, hx_ws_ll, f_E_settle_41]
      exact t1
    · have : sN (fun j => (z j).toNat) 20 = V.natAbs := by omega
      rw [← this]; exact t2
  · rw [decide_eq_false c, if_pos (show bI false = 0 from rfl)]
    have ho : o = 0 := o_zero hb.1 hb.2 hV (by omega) hV2
    rw [ho, Int.zero_mul, Int.add_zero] at hV
    obtain ⟨d1, d2⟩ := cD_of h
    obtain ⟨w, fr, ρ, t1, t2⟩ := x_settle44 d1 σ (bI false) wh pw mo 19 hx_fuel (by omega) (by decide) (fun j h1 h2 => by omega)
    refine ⟨w, fr, ρ, F, ?_, ?_⟩
    · rw [f_E_settle_41]
      exact t1
    · have : sN (fun j => (y j).toNat) 20 = V.natAbs := by omega
      rw [← this]; exact t2
theorem x_settle {σ : hx_S} {x : Nat → Int} {c : Nat} (hc : hx_ex_nonzero σ = nI c) (hc2 : 2 ≤ c) (hc3 : c < 2147483648) (hx : cH (hx_ex_limbs σ) x 2199023255552) (hV1 : -kP < sI x 20) (hV2 : sI x 20 < kP) :
    ∃ (w fr ρ : Nat) (G : Nat → Int64), f_E_settle σ = some (hx_ws σ (bI (decide (sI x 20 < 0))) (lN w) (iI ((fr : Int) - 320)) (bI (decide (ρ ≠ 0))) G) ∧ tK (sI x 20).natAbs w fr ρ := by
  obtain ⟨F, y, o, c1, c2, c3, c4, c5⟩ := x_carry hx 1 (Or.inl rfl)
  rw [Int.one_mul] at c5
  have hb := sI_bd (v := y) (n := 20) (fun j hj => (c4 j hj).2)
  rw [kP_eq] at hb
  obtain ⟨w, fr, ρ, G, t1, t2⟩ := x_settle25 (σ := σ) c4 (hx_ex_negative σ) (hx_ex_whole σ) (hx_ex_power σ) (hx_ex_more σ) (sI x 20) o c5 hV1 hV2
  refine ⟨w, fr, ρ, G, ?_, t2⟩
  have e1 : (2 : Int32) ≤ hx_ex_nonzero σ := by rw [hc, show (2 : Int32) = nI 2 from rfl, nI_leI (by omega) (by omega)]; exact hc2
  have hge : (0 ≤ lg_cmp (lI o) (0 : Int64)) ↔ 0 ≤ o := lgc_ge (b := 0) (by omega) (by omega) (by omega) (by omega)
  rw [f_E_settle, if_pos e1, show (1 : Int32) = iI 1 from rfl, c1, hx_b2_some, hx_ws_all]
  by_cases d : sI x 20 < 0
  · have : ¬ 0 ≤ o := by
      intro ho
      have : 0 * kP ≤ o * kP := Int.mul_le_mul_of_nonneg_right ho (by omega)
      omega
    rw [if_neg (fun q => this (hge.mp q))]
    rw [decide_eq_true d] at t1 ⊢
    exact t1
  · have : o = 0 := o_zero hb.1 hb.2 c5 (by omega) hV2
    rw [if_pos (hge.mpr (by omega))]
    rw [decide_eq_false d] at t1 ⊢
    exact t1
