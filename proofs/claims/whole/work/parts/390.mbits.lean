/-! The bits of what the reference's limbs hold -/
def sN (x : Nat → Nat) : Nat → Nat
  | 0 => 0
  | n + 1 => 2 ^ (32 * n) * x n + sN x n
theorem sN_I (x : Nat → Nat) : ∀ n, sI (fun j => (x j : Int)) n = (sN x n : Int)
  | 0 => rfl
  | n + 1 => by
    show sI (fun j => (x j : Int)) n + (x n : Int) * 2 ^ (32 * n) = ((2 ^ (32 * n) * x n + sN x n : Nat) : Int)
    rw [sN_I x n, Int.natCast_add, Int.natCast_mul, Int.natCast_pow, Int.mul_comm, Int.add_comm]
    rfl
theorem sN_lt {x : Nat → Nat} : ∀ {n : Nat}, (∀ j, j < n → x j < 4294967296) → sN x n < 2 ^ (32 * n)
  | 0, _ => (by decide : (0 : Nat) < 2 ^ (32 * 0))
  | n + 1, h => by
    have h1 := sN_lt (n := n) (fun j hj => h j (by omega))
    have h2 := h n (by omega)
    show 2 ^ (32 * n) * x n + sN x n < 2 ^ (32 * (n + 1))
    have e : 2 ^ (32 * (n + 1)) = 2 ^ (32 * n) * 4294967296 := by rw [show 32 * (n + 1) = 32 * n + 32 by omega, Nat.pow_add]
    rw [e]
    have h3 : 2 ^ (32 * n) * x n ≤ 2 ^ (32 * n) * 4294967295 := Nat.mul_le_mul_left _ (by omega)
    generalize 2 ^ (32 * n) = P at h1 h3 ⊢
    generalize P * x n = z at h3 ⊢
    omega
theorem sN_bit {x : Nat → Nat} : ∀ {n : Nat}, (∀ j, j < n → x j < 4294967296) → ∀ {k r : Nat}, k < n → r < 32 → (sN x n).testBit (32 * k + r) = (x k).testBit r
  | 0, _, k, r, hk, _ => by omega
  | n + 1, h, k, r, hk, hr => by
    have h1 := sN_lt (n := n) (fun j hj => h j (by omega))
    show (2 ^ (32 * n) * x n + sN x n).testBit (32 * k + r) = _
    rw [Nat.testBit_two_pow_mul_add _ h1]
    by_cases c : k = n
    · subst c
      rw [if_neg (by omega), show 32 * k + r - 32 * k = r by omega]
    · rw [if_pos (by omega)]
      exact sN_bit (fun j hj => h j (by omega)) (by omega) hr
/-- the limbs hold the number N -/
def mN (F : Nat → Int64) (N : Nat) : Prop := ∃ x : Nat → Nat, (∀ j, j < 24 → x j < 4294967296 ∧ F j = lN (x j)) ∧ sN x 24 = N
theorem mN_lt {F : Nat → Int64} {N : Nat} (h : mN F N) : N < 2 ^ 768 := by
  obtain ⟨x, hx, rfl⟩ := h
  exact sN_lt (n := 24) (fun j hj => (hx j hj).1)
theorem mN_of {F : Nat → Int64} {x : Nat → Int} (h : mH F x) : mN F (sI x 24).toNat := by
  refine ⟨fun j => (x j).toNat, fun j hj => ?_, ?_⟩
  · obtain ⟨h1, h2, h3⟩ := h j hj
    exact ⟨(by omega : (x j).toNat < 4294967296), by rw [h3, lN_nn h1]⟩
  · have e : sI (fun j => (((x j).toNat : Nat) : Int)) 24 = sI x 24 := sI_congr (fun j hj => Int.toNat_of_nonneg (h j hj).1)
    rw [← e, sN_I (fun j => (x j).toNat) 24]
    rfl
theorem m_bitAt {τ : hm_S} {N p : Nat} (h : mN (hm_limb τ) N) (hp : p < 768) : f_M_bitAt τ (nI p) = some (bI (N.testBit p)) := by
  obtain ⟨x, hx, rfl⟩ := h
  have hk : p / 32 < 24 := by omega
  have hr : p % 32 < 32 := Nat.mod_lt _ (by decide)
  have e1 : nI p / (32 : Int32) = nI (p / 32) := pk_div (d := 32) (by omega) (by decide) (by decide)
  have e2 : nI p - nI (p / 32) * (32 : Int32) = nI (p % 32) := by rw [← e1]; exact pk_rem (d := 32) (by omega) (by decide) (by decide)
  have e3 : (0 ≤ nI p) = True := eq_true (nI_pos' (by omega))
  obtain ⟨h1, h2⟩ := hx (p / 32) hk
  have hq : x (p / 32) / 2 ^ (p % 32) < 4294967296 := Nat.lt_of_le_of_lt (Nat.div_le_self _ _) h1
  simp only [f_M_bitAt, e1, e2, e3, if_true, nI_clamp (show p / 32 < 2 ^ 31 by omega), g24 hk, if_false, h2, l_shr (a := x (p / 32)) (by omega) (show p % 32 < 64 by omega), wb_a1 (n := x (p / 32) / 2 ^ (p % 32)) (by omega), lN_i]
  have e4 : (sN x 24).testBit p = (x (p / 32)).testBit (p % 32) := by
    rw [← sN_bit (n := 24) (fun j hj => (hx j hj).1) hk hr, show 32 * (p / 32) + p % 32 = p by omega]
  rw [e4, Nat.testBit_eq_decide_div_mod_eq]
  rcases Nat.mod_two_eq_zero_or_one (x (p / 32) / 2 ^ (p % 32)) with c | c <;> rw [c] <;> rfl
theorem low_step {N p : Nat} (h : N % 2 ^ p = 0) (hb : N.testBit p = false) : N % 2 ^ (p + 1) = 0 := by
  apply Nat.eq_of_testBit_eq
  intro i
  rw [Nat.testBit_mod_two_pow, Nat.zero_testBit]
  by_cases c : i < p
  · have := congrArg (fun z => z.testBit i) h
    simp only [Nat.testBit_mod_two_pow, Nat.zero_testBit, decide_eq_true c, Bool.true_and] at this
    rw [this, Bool.and_false]
  · by_cases d : i = p
    · rw [d, hb, Bool.and_false]
    · rw [decide_eq_false (by omega), Bool.false_and]
theorem low_ne {N p q : Nat} (hb : N.testBit p = true) (hq : p < q) : N % 2 ^ q ≠ 0 := by
  intro h
  have := congrArg (fun z => z.testBit p) h
  simp only [Nat.testBit_mod_two_pow, Nat.zero_testBit, decide_eq_true hq, Bool.true_and] at this
  rw [this] at hb
  cases hb
theorem m_hasLower2 {τ : hm_S} {N q : Nat} (h : mN (hm_limb τ) N) (hq : q ≤ 768) : ∀ (d n p : Nat), p + d = q → d < n → N % 2 ^ p = 0 → f_M_hasLower_2 n τ (nI q) (nI p) = some (bI (decide (N % 2 ^ q ≠ 0))) := by
  intro d
  induction d with
  | zero =>
    intro n p hp hn h0
    obtain ⟨n, rfl⟩ : ∃ z, n = z + 1 := ⟨n - 1, by omega⟩
    have : p = q := by omega
    subst this
    rw [f_M_hasLower_2, if_pos (nI_le (Nat.le_refl _) (by omega)), decide_eq_false (by omega)]
    rfl
  | succ d ih =>
    intro n p hp hn h0
    obtain ⟨n, rfl⟩ : ∃ z, n = z + 1 := ⟨n - 1, by omega⟩
    rw [f_M_hasLower_2, if_neg (nI_ge (by omega) (by omega)), m_bitAt h (by omega), hx_b1_some]
    by_cases c : N.testBit p = true
    · rw [if_pos (by rw [c]; rfl), decide_eq_true (low_ne c (by omega))]; rfl
    · have c : N.testBit p = false := by simpa using c
      rw [if_neg (by rw [c]; decide), hx_n_eq, nI_p1]
      exact ih n (p + 1) (by omega) (by omega) (low_step h0 c)
theorem m_hasLower {τ : hm_S} {N q : Nat} (h : mN (hm_limb τ) N) (hq : q ≤ 768) : f_M_hasLower τ (nI q) = some (bI (decide (N % 2 ^ q ≠ 0))) := m_hasLower2 h hq q hx_fuel 0 (by omega) (by have : hx_fuel = 5000 := rfl; omega) (by rw [Nat.pow_zero, Nat.mod_one])
theorem div_step (N p : Nat) : N / 2 ^ p = 2 * (N / 2 ^ (p + 1)) + if N.testBit p then 1 else 0 := by
  rw [Nat.testBit_eq_decide_div_mod_eq, Nat.pow_succ, ← Nat.div_div_eq_div_mul]
  have := Nat.mod_two_eq_zero_or_one (N / 2 ^ p)
  by_cases c : N / 2 ^ p % 2 = 1
  · rw [if_pos (by simpa using c)]; omega
  · rw [if_neg (by simpa using c)]; omega
theorem lnot (y : Nat) (hy : y < 4294967296) : (lN y ^^^ (-1 : Int64)) &&& (4294967295 : Int64) = lI (4294967295 - (y : Int)) := by
  apply Int64.toBitVec_inj.mp
  apply BitVec.eq_of_toNat_eq
  show ((BitVec.ofNat 64 y ^^^ (-1 : Int64).toBitVec) &&& 4294967295#64).toNat = (BitVec.ofInt 64 (4294967295 - (y : Int))).toNat
  rw [show (-1 : Int64).toBitVec = BitVec.allOnes 64 from by decide, BitVec.xor_allOnes, BitVec.toNat_and, show (4294967295#64).toNat = 2 ^ 32 - 1 from by decide, Nat.and_two_pow_sub_one_eq_mod, BitVec.toNat_not, BitVec.toNat_ofNat, BitVec.toNat_ofInt]
  omega
/-- negate: what the limbs hold becomes its complement -/
theorem m_negate4 : ∀ (d n k : Nat), k + d = 24 → d < n → ∀ (τ : hm_S) (x : Nat → Int), mH (hm_limb τ) x → ∀ (c : Int), 0 ≤ c → c ≤ 1 →
    ∃ (F : Nat → Int64) (y : Nat → Int) (c2 : Int), f_M_negate_4 n τ (lI c) (nI k) = some (hm_lset τ F) ∧ mH F y ∧ 0 ≤ c2 ∧ c2 ≤ 1 ∧ sI y 24 + c2 * kQ = sI x k + c * 2 ^ (32 * k) + (sI (fun _ => 4294967295) 24 - sI (fun _ => 4294967295) k) - (sI x 24 - sI x k) := by
  intro d
  induction d with
  | zero =>
    intro n k hk hn τ x hx c c0 c1
    obtain ⟨n, rfl⟩ : ∃ q, n = q + 1 := ⟨n - 1, by omega⟩
    have hk : k = 24 := by omega
    subst hk
    refine ⟨hm_limb τ, x, c, ?_, hx, c0, c1, by rw [kQ_eq]; omega⟩
    rw [f_M_negate_4, if_pos (by rw [n24 (Nat.le_refl 24)]; exact Nat.le_refl 24)]
    rfl
  | succ d ih =>
    intro n k hk hn τ x hx c c0 c1
    obtain ⟨n, rfl⟩ : ∃ q, n = q + 1 := ⟨n - 1, by omega⟩
    obtain ⟨x0, x1, x2⟩ := hx k (by omega)
    have hkc : (nI k).toNatClampNeg = k := nI_clamp (by omega)
    obtain ⟨S, hS⟩ : ∃ S : Int, S = 4294967295 - x k + c := ⟨_, rfl⟩
    have hSb : 0 ≤ S ∧ S ≤ 4294967296 := by omega
    have hm1 : 0 ≤ S % 4294967296 := Int.emod_nonneg _ (by decide)
    have hm2 : S % 4294967296 < 4294967296 := Int.emod_lt_of_pos _ (by decide)
    obtain ⟨F, y, c2, h1, h2, h3, h4, h5⟩ := ih n (k + 1) (by omega) (by omega) (hm_lset τ (vp_updL (hm_limb τ) k (lI (S % 4294967296)))) (up1 x k (S % 4294967296)) (mH_up hx hm1 hm2) (S / 4294967296) (by omega) (by omega)
    refine ⟨F, y, c2, ?_, h2, h3, h4, ?_⟩
    · have e1 : ((hm_limb τ k ^^^ (-1 : Int64)) &&& (4294967295 : Int64)) + lI c = lI S := by
        rw [x2, show lI (x k) = lN (x k).toNat from (lN_nn x0).symm, lnot _ (by omega), lI_add, hS]
        congr 1
        omega
      have e3 : lI S &&& 4294967295 = lI (S % 4294967296) := by rw [lI_and, lN_nn hm1]
      have e4 := lI_sar (S := S) (by omega) (by omega)
      rw [f_M_negate_4, if_neg (by rw [n24 (by omega)]; omega)]
      simp only [hkc, g24 (show k < 24 by omega), if_false, hx_n_eq, e1, e3, e4, hm_limb_s_eq, nI_p1]
      rw [h1, hm_lset_lset]
    · rw [h5, sI_up, if_pos (by omega), sI_up, if_pos (by omega)]
      have e5 : sI (fun _ => (4294967295 : Int)) (k + 1) = sI (fun _ => 4294967295) k + 4294967295 * 2 ^ (32 * k) := rfl
      have e5' : sI x (k + 1) = sI x k + x k * 2 ^ (32 * k) := rfl
      have e6 : (2 : Int) ^ (32 * (k + 1)) = 4294967296 * 2 ^ (32 * k) := by rw [show 32 * (k + 1) = 32 + 32 * k by omega, Int.pow_add]; rfl
      rw [e5, e5', e6]
      have e7 : S % 4294967296 + 4294967296 * (S / 4294967296) = S := by omega
      generalize (2 : Int) ^ (32 * k) = P
      have e8 : S / 4294967296 * (4294967296 * P) = (4294967296 * (S / 4294967296)) * P := by rw [← Int.mul_assoc, Int.mul_comm (S / 4294967296)]
      have e9 : (S % 4294967296 - x k) * P + S / 4294967296 * (4294967296 * P) = (S - x k) * P := by
        rw [e8, ← Int.add_mul]; congr 1; omega
      have e10 : (S - x k) * P = 4294967295 * P - x k * P + c * P - x k * P := by
        rw [hS, Int.sub_mul, Int.add_mul, Int.sub_mul]
      omega
theorem sI_ones : ∀ n, sI (fun _ => (4294967295 : Int)) n = 2 ^ (32 * n) - 1
  | 0 => rfl
  | n + 1 => by
    show sI (fun _ => (4294967295 : Int)) n + 4294967295 * 2 ^ (32 * n) = _
    rw [sI_ones n, show 32 * (n + 1) = 32 + 32 * n by omega, Int.pow_add]
    generalize (2 : Int) ^ (32 * n) = P
    have : (2 : Int) ^ 32 = 4294967296 := by decide
    rw [this]
    omega
theorem m_negate {τ : hm_S} {x : Nat → Int} (hx : mH (hm_limb τ) x) (hpos : 0 < sI x 24) : ∃ F, f_M_negate τ = some (hm_lset τ F) ∧ mN F (kQ - sI x 24).toNat := by
  obtain ⟨F, y, c2, h1, h2, h3, h4, h5⟩ := m_negate4 24 hx_fuel 0 rfl (by have : hx_fuel = 5000 := rfl; omega) τ x hx 1 (by omega) (by omega)
  refine ⟨F, h1, ?_⟩
  have hb := sI_bd (n := 24) (fun j hj => ⟨(h2 j hj).1, (h2 j hj).2.1⟩)
  have hq : (2 : Int) ^ (32 * 24) = kQ := kQ_eq
  rw [sI_ones, hq] at h5
  rw [hq] at hb
  have e0 : sI x 0 = 0 := rfl
  have e1 : (2 : Int) ^ (32 * 0) - 1 = 0 := by decide
  have e2 : (1 : Int) * 2 ^ (32 * 0) = 1 := by decide
  rw [e0, sI_ones, e1, e2] at h5
  have hk0 : 0 < kQ := by unfold kQ; exact Int.pow_pos (by decide)
  have hc : c2 = 0 := by
    rcases (show c2 = 0 ∨ c2 = 1 by omega) with c | c
    · exact c
    · rw [c, Int.one_mul] at h5
      generalize kQ = Q at h5 hb hk0
      omega
  rw [hc, Int.zero_mul] at h5
  have e3 : kQ - sI x 24 = sI y 24 := by
    generalize kQ = Q at h5 ⊢
    omega
  rw [e3]
  exact mN_of h2
