/-! The class's limbs -/
theorem hx_ll (σ : hx_S) (i : Nat) (x : Int64) : hx_ex_limbs_s σ i x = hx_ex_limbs_all σ (vp_updL (hx_ex_limbs σ) i x) := rfl
theorem hx_ll_ll (σ : hx_S) (F G : Nat → Int64) : hx_ex_limbs_all (hx_ex_limbs_all σ F) G = hx_ex_limbs_all σ G := rfl
theorem hx_ll_l (σ : hx_S) (F : Nat → Int64) : hx_ex_limbs (hx_ex_limbs_all σ F) = F := rfl
theorem hx_ll_self (σ : hx_S) : hx_ex_limbs_all σ (hx_ex_limbs σ) = σ := rfl
def cH (F : Nat → Int64) (x : Nat → Int) (B : Int) : Prop := ∀ j, j < 20 → -B ≤ x j ∧ x j ≤ B ∧ F j = lI (x j)
theorem cH_up {F : Nat → Int64} {x : Nat → Int} {B : Int} (h : cH F x B) {k : Nat} {z : Int} (h1 : -B ≤ z) (h2 : z ≤ B) : cH (vp_updL F k (lI z)) (up1 x k z) B := by
  intro j hj
  unfold vp_updL up1
  by_cases c : j = k
  · rw [if_pos c, if_pos c]; exact ⟨h1, h2, rfl⟩
  · rw [if_neg c, if_neg c]; exact h j hj
theorem cH.mono {F : Nat → Int64} {x : Nat → Int} {B C : Int} (h : cH F x B) (hc : B ≤ C) : cH F x C := fun j hj => ⟨by have := (h j hj).1; omega, by have := (h j hj).2.1; omega, (h j hj).2.2⟩
theorem g20 {k : Nat} (h : k < 20) : (nI k < 0 ∨ 20 ≤ k) = False := eq_false (by
  have := nI_pos (n := k) (by omega)
  rintro (z | z)
  · exact this z
  · omega)
theorem x_fill6 : ∀ (d n k : Nat), k + d = 20 → d < n → ∀ F : Nat → Int64, ∃ G, f_JA_fill_6 n F 0 (nI k) 20 = some G ∧ (∀ j, j < k → G j = F j) ∧ ∀ j, k ≤ j → j < 20 → G j = 0 := by
  intro d
  induction d with
  | zero =>
    intro n k hk hn F
    obtain ⟨n, rfl⟩ : ∃ q, n = q + 1 := ⟨n - 1, by omega⟩
    have : k = 20 := by omega
    subst this
    exact ⟨F, by rw [f_JA_fill_6, if_pos (show (20 : Int32) ≤ nI 20 by decide)], fun _ _ => rfl, fun j h1 h2 => by omega⟩
  | succ d ih =>
    intro n k hk hn F
    obtain ⟨n, rfl⟩ : ∃ q, n = q + 1 := ⟨n - 1, by omega⟩
    obtain ⟨G, g1, g2, g3⟩ := ih n (k + 1) (by omega) (by omega) (vp_updL F k 0)
    have e0 : ((20 : Int32) ≤ nI k) = False := eq_false (by rw [show (20 : Int32) = nI 20 from rfl, nI_leI (by omega) (by omega)]; omega)
    refine ⟨G, ?_, ?_, ?_⟩
    · simp only [f_JA_fill_6, e0, if_false, nI_clamp (show k < 2 ^ 31 by omega), g20 (show k < 20 by omega), hx_n_eq, nI_p1, g1]
    · intro j hj
      rw [g2 j (by omega)]
      exact if_neg (by omega)
    · intro j h1 h2
      by_cases c : j = k
      · subst c; rw [g2 j (by omega)]; exact if_pos rfl
      · exact g3 j (by omega) h2
theorem x_fill (F : Nat → Int64) : ∃ G, f_JA_fill F 0 = some G ∧ cH G (fun _ => 0) 0 := by
  obtain ⟨G, g1, _, g3⟩ := x_fill6 20 hx_fuel 0 rfl (by decide) F
  exact ⟨G, g1, fun j hj => ⟨Int.le_refl 0, Int.le_refl 0, g3 j (by omega) hj⟩⟩
theorem x_spread72 {σ : hx_S} {x : Nat → Int} {B : Int} (hx : cH (hx_ex_limbs σ) x B) (hB0 : 0 ≤ B) (hB : B ≤ 1099511627776) (s : Int) (hs : s = 1 ∨ s = -1) {i low high : Nat} (hi : i + 2 < 20) (hl : low < 18446744073709551616) (hh : high < 9223372036854775808) :
    ∃ F y, f_E_spread_72 σ (nI i) (lN low) (lN high) (lI s) = some (hx_ex_limbs_all σ F) ∧ cH F y (B + 4294967296) ∧ sI y 20 = sI x 20 + s * ((low % 4294967296 : Nat) + (high : Int) * 4294967296) * 2 ^ (32 * i) := by
  have e3 : lN low &&& (4294967295 : Int64) = lN (low % 4294967296) := wb_mask (k := 32) (by omega) (by decide)
  have e4 : lN high &&& (4294967295 : Int64) = lN (high % 4294967296) := wb_mask (k := 32) (by omega) (by decide)
  have e5 : ((lN high).toUInt64 >>> ((32 : Int32).toInt64.toUInt64 &&& Int64.toUInt64 63)).toInt64 = lN (high / 4294967296) := wb_shr (k := 32) (by omega) (by decide)
  have p1 : nI i + (1 : Int32) = nI (i + 1) := nI_p1 i
  have p2 : nI i + (2 : Int32) = nI (i + 2) := nI_add i 2
  obtain ⟨a, ha⟩ : ∃ a : Int, a = ((low % 4294967296 : Nat) : Int) := ⟨_, rfl⟩
  obtain ⟨b, hb⟩ : ∃ b : Int, b = ((high % 4294967296 : Nat) : Int) := ⟨_, rfl⟩
  obtain ⟨c, hc⟩ : ∃ c : Int, c = ((high / 4294967296 : Nat) : Int) := ⟨_, rfl⟩
  have ab : 0 ≤ a ∧ a < 4294967296 := by omega
  have bb : 0 ≤ b ∧ b < 4294967296 := by omega
  have cb : 0 ≤ c ∧ c < 4294967296 := by omega
  have sab : -4294967296 ≤ s * a ∧ s * a ≤ 4294967296 := by rcases hs with rfl | rfl <;> omega
  have sbb : -4294967296 ≤ s * b ∧ s * b ≤ 4294967296 := by rcases hs with rfl | rfl <;> omega
  have scb : -4294967296 ≤ s * c ∧ s * c ≤ 4294967296 := by rcases hs with rfl | rfl <;> omega
  rw [lN_i2 (low % 4294967296), ← ha] at e3
  rw [lN_i2 (high % 4294967296), ← hb] at e4
  rw [lN_i2 (high / 4294967296), ← hc] at e5
  have hx' := hx.mono (show B ≤ B + 4294967296 by omega)
  have x0 := hx i (by omega)
  have x1 := hx (i + 1) (by omega)
  have x2 := hx (i + 2) (by omega)
  have u1 := cH_up hx' (k := i) (z := x i + s * a) (by omega) (by omega)
  have u2 := cH_up u1 (k := i + 1) (z := x (i + 1) + s * b) (by omega) (by omega)
  have u3 := cH_up u2 (k := i + 2) (z := x (i + 2) + s * c) (by omega) (by omega)
  refine ⟨_, _, ?_, u3, ?_⟩
  · have l1 : vp_updL (hx_ex_limbs σ) i (lI (x i + s * a)) (i + 1) = lI (x (i + 1)) := by rw [← x1.2.2]; exact if_neg (by omega)
    have l2 : vp_updL (vp_updL (hx_ex_limbs σ) i (lI (x i + s * a))) (i + 1) (lI (x (i + 1) + s * b)) (i + 2) = lI (x (i + 2)) := by
      rw [← x2.2.2]
      exact (if_neg (by omega)).trans (if_neg (by omega))
    simp only [f_E_spread_72, hx_n_eq, p1, p2, nI_clamp (show i < 2 ^ 31 by omega), nI_clamp (show i + 1 < 2 ^ 31 by omega), nI_clamp (show i + 2 < 2 ^ 31 by omega), g20 (show i < 20 by omega), g20 (show i + 1 < 20 by omega), g20 (show i + 2 < 20 by omega), if_false, e3, e4, e5, hx_ll, hx_ll_ll, hx_ll_l, x0.2.2, lI_mul, lI_add, l1, l2]
  · rw [sI_up, if_pos hi, sI_up, if_pos (by omega), sI_up, if_pos (by omega)]
    have v1 : up1 x i (x i + s * a) (i + 1) = x (i + 1) := if_neg (by omega)
    have v2 : up1 (up1 x i (x i + s * a)) (i + 1) (x (i + 1) + s * b) (i + 2) = x (i + 2) := (if_neg (by omega)).trans (if_neg (by omega))
    rw [v1, v2]
    have q1 : (2 : Int) ^ (32 * (i + 1)) = 4294967296 * 2 ^ (32 * i) := by rw [show 32 * (i + 1) = 32 + 32 * i by omega, Int.pow_add]; rfl
    have q2 : (2 : Int) ^ (32 * (i + 2)) = 18446744073709551616 * 2 ^ (32 * i) := by rw [show 32 * (i + 2) = 64 + 32 * i by omega, Int.pow_add]; rfl
    rw [q1, q2, ← ha]
    have hhi : (high : Int) = b + 4294967296 * c := by omega
    rw [hhi]
    generalize (2 : Int) ^ (32 * i) = P
    generalize sI x 20 = Z
    rw [show x i + s * a - x i = s * a by omega, show x (i + 1) + s * b - x (i + 1) = s * b by omega, show x (i + 2) + s * c - x (i + 2) = s * c by omega]
    rcases hs with rfl | rfl
    · simp only [Int.one_mul, Int.add_mul, Int.mul_add, Int.mul_assoc]
      have t1 : b * (4294967296 * P) = 4294967296 * (b * P) := by rw [Int.mul_left_comm]
      have t2 : c * (18446744073709551616 * P) = 18446744073709551616 * (c * P) := by rw [Int.mul_left_comm]
      have t3 : c * (4294967296 * P) = 4294967296 * (c * P) := by rw [Int.mul_left_comm]
      simp only [t1, t2, t3]
      omega
    · simp only [Int.neg_mul, Int.one_mul, Int.add_mul, Int.mul_add, Int.mul_assoc]
      have t1 : b * (4294967296 * P) = 4294967296 * (b * P) := by rw [Int.mul_left_comm]
      have t2 : c * (18446744073709551616 * P) = 18446744073709551616 * (c * P) := by rw [Int.mul_left_comm]
      have t3 : c * (4294967296 * P) = 4294967296 * (c * P) := by rw [Int.mul_left_comm]
      simp only [t1, t2, t3]
      omega
