/-! Rows of limbs as numbers -/
def sI (v : Nat → Int) : Nat → Int
  | 0 => 0
  | n + 1 => sI v n + v n * 2 ^ (32 * n)
theorem sI_congr {v w : Nat → Int} : ∀ {n : Nat}, (∀ j, j < n → v j = w j) → sI v n = sI w n
  | 0, _ => rfl
  | n + 1, h => by
    show sI v n + v n * 2 ^ (32 * n) = sI w n + w n * 2 ^ (32 * n)
    rw [sI_congr (fun j hj => h j (by omega)), h n (by omega)]
def up1 (v : Nat → Int) (k : Nat) (z : Int) : Nat → Int := fun j => if j = k then z else v j
theorem sI_up (v : Nat → Int) (k : Nat) (z : Int) : ∀ n : Nat, sI (up1 v k z) n = if k < n then sI v n + (z - v k) * 2 ^ (32 * k) else sI v n
  | 0 => rfl
  | n + 1 => by
    show sI (up1 v k z) n + up1 v k z n * 2 ^ (32 * n) = _
    rw [sI_up v k z n]
    show _ = if k < n + 1 then sI v n + v n * 2 ^ (32 * n) + (z - v k) * 2 ^ (32 * k) else sI v n + v n * 2 ^ (32 * n)
    by_cases h1 : k < n
    · rw [if_pos h1, if_pos (by omega), show up1 v k z n = v n from if_neg (by omega)]
      omega
    · by_cases h2 : k = n
      · subst h2
        rw [if_neg h1, if_pos (by omega), show up1 v k z k = z from if_pos rfl, Int.sub_mul]
        omega
      · rw [if_neg h1, if_neg (by omega), show up1 v k z n = v n from if_neg (by omega)]
theorem sI_0 (v : Nat → Int) (n : Nat) (h : ∀ j, j < n → v j = 0) : sI v n = 0 := by
  induction n with
  | zero => rfl
  | succ n ih =>
    show sI v n + v n * 2 ^ (32 * n) = 0
    rw [ih (fun j hj => h j (by omega)), h n (by omega), Int.zero_mul, Int.add_zero]
theorem sI_bd {v : Nat → Int} : ∀ {n : Nat}, (∀ j, j < n → 0 ≤ v j ∧ v j < 4294967296) → 0 ≤ sI v n ∧ sI v n < 2 ^ (32 * n)
  | 0, _ => ⟨Int.le_refl 0, (by decide : (0 : Int) < 2 ^ (32 * 0))⟩
  | n + 1, h => by
    obtain ⟨h1, h2⟩ := sI_bd (n := n) (fun j hj => h j (by omega))
    obtain ⟨h3, h4⟩ := h n (by omega)
    show 0 ≤ sI v n + v n * 2 ^ (32 * n) ∧ sI v n + v n * 2 ^ (32 * n) < 2 ^ (32 * (n + 1))
    have e : (2 : Int) ^ (32 * (n + 1)) = 4294967296 * 2 ^ (32 * n) := by
      rw [show 32 * (n + 1) = 32 + 32 * n by omega, Int.pow_add]; rfl
    have hp : (0 : Int) < 2 ^ (32 * n) := Int.pow_pos (by decide)
    generalize (2 : Int) ^ (32 * n) = P at e hp h2 ⊢
    have h5 : 0 ≤ v n * P := Int.mul_nonneg h3 (by omega)
    have h6 : v n * P ≤ 4294967295 * P := Int.mul_le_mul_of_nonneg_right (by omega) (by omega)
    rw [e]
    omega
theorem lI_and (S : Int) : lI S &&& (4294967295 : Int64) = lN (S % 4294967296).toNat := by
  apply Int64.toBitVec_inj.mp
  apply BitVec.eq_of_toNat_eq
  show (BitVec.ofInt 64 S &&& 4294967295#64).toNat = (BitVec.ofNat 64 _).toNat
  rw [BitVec.toNat_and, show (4294967295#64).toNat = 2 ^ 32 - 1 from by decide, Nat.and_two_pow_sub_one_eq_mod, BitVec.toNat_ofInt, BitVec.toNat_ofNat]
  omega
theorem lI_sar {S : Int} (h1 : -9223372036854775808 ≤ S) (h2 : S < 9223372036854775808) : lI S >>> ((32 : Int32).toInt64 &&& 63) = lI (S / 4294967296) := by
  apply Int64.toInt_inj.mp
  have e : (lI S >>> ((32 : Int32).toInt64 &&& 63)).toInt = (lI S).toInt >>> (((32 : Int32).toInt64 &&& 63).toBitVec.smod 64).toNat := BitVec.toInt_sshiftRight ..
  rw [e, show (((32 : Int32).toInt64 &&& 63).toBitVec.smod 64).toNat = 32 from by decide, Int.shiftRight_eq_div_pow, lI_toInt h1 h2, lI_toInt (by omega) (by omega)]
  rfl
/-! the reference's limbs -/
def hm_lset (τ : hm_S) (F : Nat → Int64) : hm_S := (τ.1, τ.2.1, τ.2.2.1, τ.2.2.2.1, τ.2.2.2.2.1, τ.2.2.2.2.2.1, F, τ.2.2.2.2.2.2.2)
theorem hm_limb_s_eq (τ : hm_S) (i : Nat) (x : Int64) : hm_limb_s τ i x = hm_lset τ (vp_updL (hm_limb τ) i x) := rfl
theorem hm_lset_lset (τ : hm_S) (F G : Nat → Int64) : hm_lset (hm_lset τ F) G = hm_lset τ G := rfl
theorem hm_lset_limb (τ : hm_S) (F : Nat → Int64) : hm_limb (hm_lset τ F) = F := rfl
theorem hm_lset_self (τ : hm_S) : hm_lset τ (hm_limb τ) = τ := rfl
/-- the limbs hold these numbers -/
def mH (F : Nat → Int64) (x : Nat → Int) : Prop := ∀ j, j < 24 → 0 ≤ x j ∧ x j < 4294967296 ∧ F j = lI (x j)
theorem mH_up {F : Nat → Int64} {x : Nat → Int} (h : mH F x) {k : Nat} {z : Int} (h1 : 0 ≤ z) (h2 : z < 4294967296) : mH (vp_updL F k (lI z)) (up1 x k z) := by
  intro j hj
  unfold vp_updL up1
  by_cases c : j = k
  · rw [if_pos c, if_pos c]; exact ⟨h1, h2, rfl⟩
  · rw [if_neg c, if_neg c]; exact h j hj
theorem n24 {k : Nat} (h : k ≤ 24) : ((24 : Int32) ≤ nI k) = (24 ≤ k) := by rw [show (24 : Int32) = nI 24 from rfl, nI_leI (by omega) (by omega)]
theorem g24 {k : Nat} (h : k < 24) : (nI k < 0 ∨ 24 ≤ k) = False := eq_false (by
  have := nI_pos (n := k) (by omega)
  rintro (z | z)
  · exact this z
  · omega)
theorem nI_p1 (k : Nat) : nI k + 1 = nI (k + 1) := nI_1 k
theorem lN_nn {z : Int} (h : 0 ≤ z) : lN z.toNat = lI z := by rw [lN_i2, Int.toNat_of_nonneg h]
def kQ : Int := 2 ^ 768
theorem kQ_eq : (2 : Int) ^ (32 * 24) = kQ := rfl
/-- what is put at limb j -/
def pv (i : Nat) (a b : Int) (j : Nat) : Int := if j = i then a else if j = i + 1 then b else 0
theorem pv_bd {i : Nat} {a b : Int} (a0 : 0 ≤ a) (a1 : a < 4294967296) (b0 : 0 ≤ b) (b1 : b < 4294967296) (k : Nat) : 0 ≤ pv i a b k ∧ pv i a b k < 4294967296 := by
  unfold pv
  split
  · exact ⟨a0, a1⟩
  · split
    · exact ⟨b0, b1⟩
    · exact ⟨by omega, by omega⟩
theorem m_put36 (below : Bool) {i : Nat} (hi : i < 1000) {a b : Int} (a0 : 0 ≤ a) (a1 : a < 4294967296) (b0 : 0 ≤ b) (b1 : b < 4294967296) : ∀ (d n k : Nat), k + d = 24 → d < n → ∀ (τ : hm_S) (x : Nat → Int), mH (hm_limb τ) x → ∀ (c : Int), -1 ≤ c → c ≤ 1 →
    ∃ (F : Nat → Int64) (y : Nat → Int) (c2 : Int), f_M_put_36 n τ (bI below) (nI i) (lI a) (lI b) (lI c) (nI k) = some (hm_lset τ F) ∧ mH F y ∧ sI y 24 + c2 * kQ = sI x 24 + c * 2 ^ (32 * k) + (if below then -1 else 1) * (sI (pv i a b) 24 - sI (pv i a b) k) := by
  intro d
  induction d with
  | zero =>
    intro n k hk hn τ x hx c c0 c1
    obtain ⟨n, rfl⟩ : ∃ q, n = q + 1 := ⟨n - 1, by omega⟩
    have hk : k = 24 := by omega
    subst hk
    refine ⟨hm_limb τ, x, c, ?_, hx, by rw [kQ_eq]; omega⟩
    simp only [f_M_put_36, n24 (Nat.le_refl 24), if_true, hm_lset_self, Nat.le_refl]
  | succ d ih =>
    intro n k hk hn τ x hx c c0 c1
    obtain ⟨n, rfl⟩ : ∃ q, n = q + 1 := ⟨n - 1, by omega⟩
    obtain ⟨x0, x1, x2⟩ := hx k (by omega)
    have hkc : (nI k).toNatClampNeg = k := nI_clamp (by omega)
    have hvb := pv_bd (i := i) a0 a1 b0 b1 k
    have e1 : (if nI k = nI i then f_M_put_70 (f_M_put_36 n) τ (bI below) (nI i) (lI a) (lI b) (lI c) (nI k) (lI a) else if nI k = nI i + 1 then f_M_put_70 (f_M_put_36 n) τ (bI below) (nI i) (lI a) (lI b) (lI c) (nI k) (lI b) else f_M_put_70 (f_M_put_36 n) τ (bI below) (nI i) (lI a) (lI b) (lI c) (nI k) 0) = f_M_put_70 (f_M_put_36 n) τ (bI below) (nI i) (lI a) (lI b) (lI c) (nI k) (lI (pv i a b k)) := by
      simp only [nI_p1, nI_eq (a := k) (b := i) (by omega) (by omega), nI_eq (a := k) (b := i + 1) (by omega) (by omega), pv]
      split
      · rfl
      · split <;> rfl
    have e0 : ¬ 24 ≤ k := by omega
    obtain ⟨S, hS⟩ : ∃ S : Int, S = x k + c + (if below then -1 else 1) * pv i a b k := ⟨_, rfl⟩
    have hSb : -4294967296 ≤ S ∧ S < 8589934592 := by rw [hS]; cases below <;> simp <;> omega
    have hm1 : 0 ≤ S % 4294967296 := Int.emod_nonneg _ (by decide)
    have hm2 : S % 4294967296 < 4294967296 := Int.emod_lt_of_pos _ (by decide)
    obtain ⟨F, y, c2, h1, h2, h3⟩ := ih n (k + 1) (by omega) (by omega) (hm_lset τ (vp_updL (hm_limb τ) k (lI (S % 4294967296)))) (up1 x k (S % 4294967296)) (mH_up hx hm1 hm2) (S / 4294967296) (by omega) (by omega)
    refine ⟨F, y, c2, ?_, h2, ?_⟩
    · have step : f_M_put_36 (n + 1) τ (bI below) (nI i) (lI a) (lI b) (lI c) (nI k) = f_M_put_70 (f_M_put_36 n) τ (bI below) (nI i) (lI a) (lI b) (lI c) (nI k) (lI (pv i a b k)) := by
        rw [f_M_put_36, if_neg (by rw [n24 (show k ≤ 24 by omega)]; exact e0)]
        exact e1
      rw [step]
      simp only [f_M_put_70, f_M_put_95, hkc, g24 (show k < 24 by omega), if_false, hx_n_eq, x2, hm_limb_s_eq]
      have e2 : (if bI below = 0 then lI (x k) + lI c + lI (pv i a b k) else lI (x k) + lI c + -lI (pv i a b k)) = lI S := by
        rw [hS]
        cases below
        · rw [if_pos (show bI false = 0 from rfl), lI_add, lI_add]; congr 1; simp
        · rw [if_neg (show ¬ bI true = 0 by decide), lI_neg, lI_add, lI_add]; congr 1; simp
      have e3 : lI S &&& 4294967295 = lI (S % 4294967296) := by rw [lI_and, lN_nn hm1]
      have e4 := lI_sar (S := S) (by omega) (by omega)
      by_cases hb : bI below = 0
      · rw [if_pos hb] at e2 ⊢
        rw [e2, e3, e4, nI_p1, h1, hm_lset_lset]
      · rw [if_neg hb] at e2 ⊢
        rw [e2, e3, e4, nI_p1, h1, hm_lset_lset]
    · rw [h3, sI_up, if_pos (by omega)]
      have e5 : sI (pv i a b) (k + 1) = sI (pv i a b) k + pv i a b k * 2 ^ (32 * k) := rfl
      have e6 : (2 : Int) ^ (32 * (k + 1)) = 4294967296 * 2 ^ (32 * k) := by rw [show 32 * (k + 1) = 32 + 32 * k by omega, Int.pow_add]; rfl
      rw [e5, e6]
      have e7 : S % 4294967296 + 4294967296 * (S / 4294967296) = S := by omega
      generalize (2 : Int) ^ (32 * k) = P
      have e8 : S / 4294967296 * (4294967296 * P) = (4294967296 * (S / 4294967296)) * P := by rw [← Int.mul_assoc, Int.mul_comm (S / 4294967296)]
      have e9 : (S % 4294967296 - x k) * P + S / 4294967296 * (4294967296 * P) = (S - x k) * P := by
        rw [e8, ← Int.add_mul]; congr 1; omega
      have e10 : (S - x k) * P = c * P + (if below then -1 else 1) * (pv i a b k * P) := by
        rw [hS]
        cases below
        · simp [Int.add_mul, Int.sub_mul]; omega
        · simp [Int.add_mul, Int.sub_mul, Int.neg_mul]; omega
      cases below
      · simp at e10 ⊢; omega
      · simp at e10 ⊢; omega
