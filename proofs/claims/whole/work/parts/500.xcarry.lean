theorem x_spread {σ : hx_S} {x : Nat → Int} {B : Int} (hx : cH (hx_ex_limbs σ) x B) (hB0 : 0 ≤ B) (hB : B ≤ 1099511627776) (below : Bool) {m pl : Nat} (hm : m < 281474976710656) (h1 : 32 ≤ pl) (h2 : pl < 608) :
    ∃ F y, f_E_spread σ (bI below) (lN m) (iI ((pl : Int) - 352)) = some (hx_ex_limbs_all σ F) ∧ cH F y (B + 4294967296) ∧ sI y 20 = sI x 20 + (if below then -1 else 1) * ((m : Int) * 2 ^ (pl - 32)) := by
  obtain ⟨p, rfl⟩ : ∃ p, pl = p + 32 := ⟨pl - 32, by omega⟩
  have hr : p % 32 < 32 := Nat.mod_lt _ (by decide)
  have hr2 : 2 ^ (p % 32) ≤ 2 ^ 31 := Nat.pow_le_pow_right (by decide) (by omega)
  have a1 : iI (((p + 32 : Nat) : Int) - 352) - (-320 : Int32) = nI p := by rw [show (-320 : Int32) = iI (-320) from rfl, iI_sub, nI_i]; congr 1; omega
  have a2 : nI p >>> ((5 : Int32) &&& 31) = nI (p / 32) := pk_shrN (n := p) (by omega) _ 5 (by decide)
  have a3 : nI p &&& (31 : Int32) = nI (p % 32) := pk_andN (n := p) (by omega) 5 (by decide)
  have a4 : (nI (p / 32) < 0) = False := eq_false (nI_pos (by omega))
  have a5 : (nI (p / 32) + (2 : Int32) < (20 : Int32)) = True := eq_true (by
    rw [show nI (p / 32) + (2 : Int32) = nI (p / 32 + 2) from nI_add (p / 32) 2]
    exact nI_lt (b := 20) (by omega) (by omega))
  have a6 : lN m &&& (4294967295 : Int64) = lN (m % 4294967296) := wb_mask (k := 32) (by omega) (by decide)
  have a7 : ((lN m).toUInt64 >>> ((32 : Int32).toInt64.toUInt64 &&& Int64.toUInt64 63)).toInt64 = lN (m / 4294967296) := wb_shr (k := 32) (by omega) (by decide)
  obtain ⟨low, hlow⟩ : ∃ low, low = m % 4294967296 * 2 ^ (p % 32) := ⟨_, rfl⟩
  have hlb : low < 9223372036854775808 := by
    rw [hlow]
    calc m % 4294967296 * 2 ^ (p % 32) ≤ m % 4294967296 * 2 ^ 31 := Nat.mul_le_mul_left _ hr2
      _ < 4294967296 * 2 ^ 31 := Nat.mul_lt_mul_of_pos_right (Nat.mod_lt _ (by decide)) (by decide)
      _ = 9223372036854775808 := by decide
  have hhb : m / 4294967296 * 2 ^ (p % 32) ≤ 140737488355328 := by
    calc m / 4294967296 * 2 ^ (p % 32) ≤ m / 4294967296 * 2 ^ 31 := Nat.mul_le_mul_left _ hr2
      _ ≤ 65536 * 2 ^ 31 := Nat.mul_le_mul_right _ (by omega)
      _ = 140737488355328 := by decide
  have a8 : ((lN low).toUInt64 >>> ((32 : Int32).toInt64.toUInt64 &&& Int64.toUInt64 63)).toInt64 = lN (low / 4294967296) := wb_shr (k := 32) (by omega) (by decide)
  have key := fun s hs => x_spread72 hx hB0 hB s hs (i := p / 32) (low := low) (high := m / 4294967296 * 2 ^ (p % 32) + low / 4294967296) (by omega) (by omega) (by omega)
  have val : (((low % 4294967296 : Nat) : Int) + ((m / 4294967296 * 2 ^ (p % 32) + low / 4294967296 : Nat) : Int) * 4294967296) * 2 ^ (32 * (p / 32)) = (m : Int) * 2 ^ (p + 32 - 32) := by
    have v1 : low % 4294967296 + (m / 4294967296 * 2 ^ (p % 32) + low / 4294967296) * 4294967296 = m * 2 ^ (p % 32) := by
      have v2 : m * 2 ^ (p % 32) = (m % 4294967296) * 2 ^ (p % 32) + (m / 4294967296 * 2 ^ (p % 32)) * 4294967296 := by
        have v3 : m = m % 4294967296 + m / 4294967296 * 4294967296 := by omega
        rw [Nat.mul_right_comm, ← Nat.add_mul, ← v3]
      rw [v2, ← hlow]
      omega
    have v4 : ((low % 4294967296 : Nat) : Int) + ((m / 4294967296 * 2 ^ (p % 32) + low / 4294967296 : Nat) : Int) * 4294967296 = ((m * 2 ^ (p % 32) : Nat) : Int) := by rw [← v1]; rfl
    rw [v4, Int.natCast_mul, Int.natCast_pow, Int.mul_assoc]
    congr 1
    rw [show ((2 : Nat) : Int) = 2 from rfl, ← Int.pow_add]
    congr 1
    omega
  simp only [f_E_spread, hx_n_eq, a1, a2, a3, a4, a5, a6, a7, if_false, if_true, wb_shl _ (show p % 32 < 64 by omega), ← hlow, a8, lN_add]
  cases below
  · obtain ⟨F, y, k1, k2, k3⟩ := key 1 (Or.inl rfl)
    refine ⟨F, y, ?_, k2, ?_⟩
    · rw [if_pos (show bI false = 0 from rfl)]; exact k1
    · rw [k3, Int.one_mul, val, if_neg Bool.false_ne_true, Int.one_mul]
  · obtain ⟨F, y, k1, k2, k3⟩ := key (-1) (Or.inr rfl)
    refine ⟨F, y, ?_, k2, ?_⟩
    · rw [if_neg (show ¬ bI true = 0 by decide)]; exact k1
    · rw [k3, Int.mul_assoc, val, if_pos rfl]
def kP : Int := 2 ^ 640
theorem kP_eq : (2 : Int) ^ (32 * 20) = kP := rfl
theorem x_carry5 (s : Int) (hs : s = 1 ∨ s = -1) : ∀ (d n k : Nat), k + d = 20 → d < n → ∀ (σ : hx_S) (x : Nat → Int), cH (hx_ex_limbs σ) x 2199023255552 → ∀ o : Int, -1048576 ≤ o → o ≤ 1048576 →
    ∃ F y o2, f_E_carry_5 n σ (iI s) (lI o) (nI k) = some (lI o2, hx_ex_limbs_all σ F) ∧ -1048576 ≤ o2 ∧ o2 ≤ 1048576 ∧ (∀ j, j < 20 → F j = lI (y j)) ∧ (∀ j, j < k → y j = x j) ∧ (∀ j, k ≤ j → j < 20 → 0 ≤ y j ∧ y j < 4294967296) ∧ sI y 20 - sI y k + o2 * kP = s * (sI x 20 - sI x k) + o * 2 ^ (32 * k) := by
  intro d
  induction d with
  | zero =>
    intro n k hk hn σ x hx o o1 o2
    obtain ⟨n, rfl⟩ : ∃ q, n = q + 1 := ⟨n - 1, by omega⟩
    have : k = 20 := by omega
    subst this
    refine ⟨hx_ex_limbs σ, x, o, ?_, o1, o2, fun j hj => (hx j hj).2.2, fun _ _ => rfl, fun j h1 h2 => by omega, ?_⟩
    · rw [f_E_carry_5, if_pos (show (20 : Int32) ≤ nI 20 by decide), hx_ll_self]
    · rw [kP_eq, Int.sub_self, Int.mul_zero]
  | succ d ih =>
    intro n k hk hn σ x hx o o1 o2
    obtain ⟨n, rfl⟩ : ∃ q, n = q + 1 := ⟨n - 1, by omega⟩
    have xk := hx k (by omega)
    obtain ⟨S, hS⟩ : ∃ S : Int, S = s * x k + o := ⟨_, rfl⟩
    have hSb : -2199024304128 ≤ S ∧ S ≤ 2199024304128 := by rw [hS]; rcases hs with rfl | rfl <;> omega
    have hm1 : 0 ≤ S % 4294967296 := Int.emod_nonneg _ (by decide)
    have hm2 : S % 4294967296 < 4294967296 := Int.emod_lt_of_pos _ (by decide)
    obtain ⟨F, y, q, i1, i2, i3, i4, i5, i6, i7⟩ := ih n (k + 1) (by omega) (by omega) (hx_ex_limbs_all σ (vp_updL (hx_ex_limbs σ) k (lI (S % 4294967296)))) (up1 x k (S % 4294967296)) (cH_up hx (by omega) (by omega)) (S / 4294967296) (by omega) (by omega)
    have yk : y k = S % 4294967296 := (i5 k (by omega)).trans (if_pos rfl)
    refine ⟨F, y, q, ?_, i2, i3, i4, ?_, ?_, ?_⟩
    · have e0 : ((20 : Int32) ≤ nI k) = False := eq_false (by rw [show (20 : Int32) = nI 20 from rfl, nI_leI (by omega) (by omega)]; omega)
      have e1 : (iI s).toInt64 = lI s := iI_l (by rcases hs with rfl | rfl <;> omega) (by rcases hs with rfl | rfl <;> omega)
      have e3 : lI S &&& 4294967295 = lI (S % 4294967296) := by rw [lI_and, lN_nn hm1]
      have e4 := lI_sar (S := S) (by omega) (by omega)
      rw [f_E_carry_5]
      simp only [e0, if_false, nI_clamp (show k < 2 ^ 31 by omega), g20 (show k < 20 by omega), hx_n_eq, e1, xk.2.2, lI_mul, lI_add, ← hS, e3, e4, nI_p1, hx_ll]
      rw [i1, hx_ll_ll]
    · intro j hj
      exact (i5 j (by omega)).trans (if_neg (by omega))
    · intro j h1 h2
      by_cases c : j = k
      · subst c; rw [yk]; exact ⟨hm1, hm2⟩
      · exact i6 j (by omega) h2
    · have z1 : sI y (k + 1) = sI y k + S % 4294967296 * 2 ^ (32 * k) := by show sI y k + y k * 2 ^ (32 * k) = _; rw [yk]
      have z2 : sI x (k + 1) = sI x k + x k * 2 ^ (32 * k) := rfl
      rw [sI_up, if_pos (show k < 20 by omega), sI_up, if_pos (show k < k + 1 by omega), z1, z2] at i7
      have e6 : (2 : Int) ^ (32 * (k + 1)) = 4294967296 * 2 ^ (32 * k) := by rw [show 32 * (k + 1) = 32 + 32 * k by omega, Int.pow_add]; rfl
      rw [e6] at i7
      have e7 : S % 4294967296 + 4294967296 * (S / 4294967296) = S := by omega
      generalize (2 : Int) ^ (32 * k) = P at *
      have e8 : S / 4294967296 * (4294967296 * P) = S * P - S % 4294967296 * P := by
        rw [← Int.sub_mul, ← Int.mul_assoc]; congr 1; omega
      have e9 : S * P = s * x k * P + o * P := by rw [hS, Int.add_mul]
      rw [e8, e9] at i7
      generalize o * P = oP at *
      generalize S % 4294967296 * P = mP at *
      rcases hs with rfl | rfl
      · rw [Int.one_mul] at i7 ⊢
        rw [Int.one_mul] at i7
        generalize x k * P = xP at *
        generalize (S % 4294967296 - x k) * P = w at *
        omega
      · rw [Int.neg_mul, Int.one_mul] at i7 ⊢
        rw [Int.neg_mul, Int.neg_mul, Int.one_mul] at i7
        generalize x k * P = xP at *
        generalize (S % 4294967296 - x k) * P = w at *
        omega
theorem x_carry {σ : hx_S} {x : Nat → Int} (hx : cH (hx_ex_limbs σ) x 2199023255552) (s : Int) (hs : s = 1 ∨ s = -1) : ∃ F y o, f_E_carry σ (iI s) = some (lI o, hx_ex_limbs_all σ F) ∧ -1048576 ≤ o ∧ o ≤ 1048576 ∧ (∀ j, j < 20 → F j = lI (y j) ∧ 0 ≤ y j ∧ y j < 4294967296) ∧ sI y 20 + o * kP = s * sI x 20 := by
  obtain ⟨F, y, o, h1, h2, h3, h4, _, h6, h7⟩ := x_carry5 s hs 20 hx_fuel 0 rfl (by decide) σ x hx 0 (by decide) (by decide)
  refine ⟨F, y, o, h1, h2, h3, fun j hj => ⟨h4 j hj, h6 j (by omega) hj⟩, ?_⟩
  have a : sI y 0 = 0 := rfl
  have b : sI x 0 = 0 := rfl
  rw [a, b, Int.sub_zero, Int.sub_zero, Int.zero_mul, Int.add_zero] at h7
  exact h7
