/-! The class takes the top bits -/
def hx_ws (σ : hx_S) (ng : Int32) (wh : Int64) (pw mo : Int32) (F : Nat → Int64) : hx_S := (σ.1, σ.2.1, (σ.2.2.1.1, σ.2.2.1.2.1, σ.2.2.1.2.2.1, σ.2.2.1.2.2.2.1, σ.2.2.1.2.2.2.2.1, σ.2.2.1.2.2.2.2.2.1, σ.2.2.1.2.2.2.2.2.2.1, ng, wh, pw, mo, F), σ.2.2.2)
theorem hx_ws_self (σ : hx_S) : hx_ws σ (hx_ex_negative σ) (hx_ex_whole σ) (hx_ex_power σ) (hx_ex_more σ) (hx_ex_limbs σ) = σ := rfl
theorem hx_ws_ng (σ : hx_S) (a b : Int32) (c : Int64) (d e : Int32) (F : Nat → Int64) : hx_ex_negative_s (hx_ws σ a c d e F) b = hx_ws σ b c d e F := rfl
theorem hx_ws_wh (σ : hx_S) (a : Int32) (b c : Int64) (d e : Int32) (F : Nat → Int64) : hx_ex_whole_s (hx_ws σ a c d e F) b = hx_ws σ a b d e F := rfl
theorem hx_ws_pw (σ : hx_S) (a b : Int32) (c : Int64) (d e : Int32) (F : Nat → Int64) : hx_ex_power_s (hx_ws σ a c d e F) b = hx_ws σ a c b e F := rfl
theorem hx_ws_mo (σ : hx_S) (a b : Int32) (c : Int64) (d e : Int32) (F : Nat → Int64) : hx_ex_more_s (hx_ws σ a c d e F) b = hx_ws σ a c d b F := rfl
theorem hx_ws_ll (σ : hx_S) (a : Int32) (c : Int64) (d e : Int32) (F G : Nat → Int64) : hx_ex_limbs_all (hx_ws σ a c d e F) G = hx_ws σ a c d e G := rfl
theorem hx_ws_g (σ : hx_S) (a : Int32) (c : Int64) (d e : Int32) (F : Nat → Int64) : hx_ex_negative (hx_ws σ a c d e F) = a ∧ hx_ex_whole (hx_ws σ a c d e F) = c ∧ hx_ex_power (hx_ws σ a c d e F) = d ∧ hx_ex_more (hx_ws σ a c d e F) = e ∧ hx_ex_limbs (hx_ws σ a c d e F) = F := ⟨rfl, rfl, rfl, rfl, rfl⟩
theorem sN_0 {y : Nat → Nat} : ∀ {n : Nat}, sN y n = 0 ↔ ∀ j, j < n → y j = 0
  | 0 => ⟨fun _ j hj => by omega, fun _ => rfl⟩
  | n + 1 => by
    show 2 ^ (32 * n) * y n + sN y n = 0 ↔ _
    have hp := Nat.two_pow_pos (32 * n)
    constructor
    · intro h j hj
      have h1 : sN y n = 0 := by omega
      have h2 : 2 ^ (32 * n) * y n = 0 := by omega
      by_cases c : j = n
      · subst c
        rcases Nat.mul_eq_zero.mp h2 with z | z
        · omega
        · exact z
      · exact sN_0.mp h1 j (by omega)
    · intro h
      rw [h n (by omega), sN_0.mpr (fun j hj => h j (by omega)), Nat.mul_zero]
theorem sN_hi {y : Nat → Nat} (k : Nat) : ∀ n, k ≤ n → ∃ H, sN y n = H * 2 ^ (32 * k) + sN y k
  | 0, h => ⟨0, by rw [show k = 0 by omega]; simp⟩
  | n + 1, h => by
    by_cases c : k = n + 1
    · exact ⟨0, by rw [c]; simp⟩
    · obtain ⟨H, hH⟩ := sN_hi k n (by omega)
      refine ⟨2 ^ (32 * (n - k)) * y n + H, ?_⟩
      show 2 ^ (32 * n) * y n + sN y n = _
      rw [hH, show 32 * n = 32 * (n - k) + 32 * k by omega, Nat.pow_add, Nat.add_mul]
      rw [Nat.mul_right_comm]
      omega
theorem sN_top {y : Nat → Nat} {k : Nat} : ∀ n, k ≤ n → (∀ j, k ≤ j → j < n → y j = 0) → sN y n = sN y k
  | 0, h, _ => by rw [show k = 0 by omega]
  | n + 1, h, hz => by
    by_cases c : k = n + 1
    · rw [c]
    · show 2 ^ (32 * n) * y n + sN y n = _
      rw [hz n (by omega) (by omega), Nat.mul_zero, Nat.zero_add]
      exact sN_top n (by omega) (fun j h1 h2 => hz j h1 (by omega))
def cD (F : Nat → Int64) (y : Nat → Nat) : Prop := ∀ j, j < 20 → y j < 4294967296 ∧ F j = lN (y j)
/-- the loop that looks below -/
theorem x_take132 {F : Nat → Int64} {y : Nat → Nat} (hF : cD F y) (σ : hx_S) (ng : Int32) (wh : Int64) (pw : Int32) (m0 : Bool) {l : Nat} (hl : l ≤ 20) : ∀ (d n k : Nat), k + d = l → d < n →
    f_E_take_132 n (hx_ws σ ng wh pw (bI (m0 || decide (sN y k ≠ 0))) F) (nI l) (nI k) = some (hx_ws σ ng wh pw (bI (m0 || decide (sN y l ≠ 0))) F) := by
  intro d
  induction d with
  | zero =>
    intro n k hk hn
    obtain ⟨n, rfl⟩ : ∃ q, n = q + 1 := ⟨n - 1, by omega⟩
    have : k = l := by omega
    subst this
    rw [f_E_take_132, if_pos (by rw [nI_leI (by omega) (by omega)]; omega)]
  | succ d ih =>
    intro n k hk hn
    obtain ⟨n, rfl⟩ : ∃ q, n = q + 1 := ⟨n - 1, by omega⟩
    have r := ih n (k + 1) (by omega) (by omega)
    have hy := hF k (by omega)
    have hp := Nat.two_pow_pos (32 * k)
    have es : decide (sN y (k + 1) ≠ 0) = (decide (sN y k ≠ 0) || decide (y k ≠ 0)) := by
      show decide (2 ^ (32 * k) * y k + sN y k ≠ 0) = _
      by_cases c : y k = 0
      · rw [c, Nat.mul_zero, Nat.zero_add]; simp
      · have : 0 < 2 ^ (32 * k) * y k := Nat.mul_pos hp (by omega)
        rw [decide_eq_true (by omega), decide_eq_true (show y k ≠ 0 from c), Bool.or_true]
    rw [es, ← Bool.or_assoc] at r
    have e0 : ¬ (nI l ≤ nI k) := by rw [nI_leI (by omega) (by omega)]; omega
    rw [f_E_take_132, if_neg e0, (hx_ws_g ..).2.2.2.1, (hx_ws_g ..).2.2.2.2]
    simp only [nI_clamp (show k < 2 ^ 31 by omega), g20 (show k < 20 by omega), if_false, hy.2, c_eq0 (a := y k) (by omega), bI_0]
    generalize (m0 || decide (sN y k ≠ 0)) = m at r ⊢
    have go : ∀ b : Bool, (m || decide (y k ≠ 0)) = b → f_E_take_164 (f_E_take_132 n) (hx_ws σ ng wh pw (bI m) F) (nI l) (nI k) (bI b) = some (hx_ws σ ng wh pw (bI (m0 || decide (sN y l ≠ 0))) F) := by
      intro b hb
      rw [f_E_take_164, if_pos (bI_or b), hx_n_eq, hx_n_eq, hx_ws_mo, nI_p1, ← hb]
      exact r
    cases m
    · rw [if_pos rfl]
      by_cases c : y k = 0
      · rw [if_pos c]; exact go false (by rw [c]; rfl)
      · rw [if_neg c, f_E_take_159]; exact go true (by rw [decide_eq_true (show y k ≠ 0 from c)]; rfl)
    · rw [if_neg Bool.noConfusion, f_E_take_159]; exact go true rfl
/-- the loop that takes -/
theorem x_take54 {F : Nat → Int64} {y : Nat → Nat} (hF : cD F y) (σ : hx_S) (ng : Int32) (pw mo : Int32) {top fr : Nat} (ht : top < 20) (hf : fr < 32 * (top + 1)) (hb64 : ∀ i, i < top + 1 → 32 * i - fr < 64) : ∀ (d n i : Nat), i + d = top + 1 → fr / 32 < i → d < n →
    f_E_take_54 n (hx_ws σ ng (lN (sN y i / 2 ^ fr)) pw mo F) (nI top) (nI fr) (nI (fr / 32)) (nI i) = some (hx_ws σ ng (lN (sN y (top + 1) / 2 ^ fr)) (iI ((fr : Int) - 320)) (bI (decide (sN y (top + 1) % 2 ^ fr ≠ 0))) F) := by
  have hl : fr / 32 < 20 := by omega
  have hr : fr % 32 < 32 := Nat.mod_lt _ (by decide)
  have hfr : fr = 32 * (fr / 32) + fr % 32 := by omega
  intro d
  induction d with
  | zero =>
    intro n i hi hfi hn
    obtain ⟨n, rfl⟩ : ∃ q, n = q + 1 := ⟨n - 1, by omega⟩
    have : i = top + 1 := by omega
    subst this
    have hy := hF (fr / 32) hl
    have a1 : (-320 : Int32) + nI fr = iI ((fr : Int) - 320) := by rw [show (-320 : Int32) = iI (-320) from rfl, nI_i, iI_add, show (-320 : Int) + (fr : Int) = (fr : Int) - 320 by omega]
    have a3 : nI fr &&& (31 : Int32) = nI (fr % 32) := pk_andN (n := fr) (by omega) 5 (by decide)
    have a4 : ((1 : Int64) <<< ((nI (fr % 32)).toInt64 &&& 63)) - (1 : Int64) = lN (2 ^ (fr % 32) - 1) := by
      have z : (1 : Int64) <<< ((nI (fr % 32)).toInt64 &&& 63) = lN (1 * 2 ^ (fr % 32)) := wb_shl 1 (by omega)
      rw [z, Nat.one_mul]
      exact lN_m1 (Nat.two_pow_pos _)
    have a5 : lN (y (fr / 32)) &&& lN (2 ^ (fr % 32) - 1) = lN (y (fr / 32) % 2 ^ (fr % 32)) := wb_mask (by omega) (by omega)
    have hyl : y (fr / 32) % 2 ^ (fr % 32) ≤ y (fr / 32) := Nat.mod_le _ _
    obtain ⟨H, hH⟩ := sN_hi (y := y) (fr / 32 + 1) (top + 1) (by omega)
    have hlt := sN_lt (x := y) (n := fr / 32) (fun j hj => (hF j (by omega)).1)
    have hmod : sN y (top + 1) % 2 ^ fr = y (fr / 32) % 2 ^ (fr % 32) * 2 ^ (32 * (fr / 32)) + sN y (fr / 32) := by
      have z1 : H * 2 ^ (32 * (fr / 32 + 1)) = H * 2 ^ (32 * (fr / 32 + 1) - fr) * 2 ^ fr := by rw [Nat.mul_assoc, ← Nat.pow_add]; congr 2; omega
      have z2 : sN y (fr / 32 + 1) = y (fr / 32) * 2 ^ (32 * (fr / 32)) + sN y (fr / 32) := by show 2 ^ (32 * (fr / 32)) * y (fr / 32) + sN y (fr / 32) = _; rw [Nat.mul_comm]
      rw [hH, z1, Nat.add_comm, Nat.add_mul_mod_self_right, z2]
      have z3 := fin_mod (w := y (fr / 32)) (P := 32 * (fr / 32)) (d := fr % 32) hlt
      rw [← hfr] at z3
      exact z3
    have go : ∀ b : Bool, decide (y (fr / 32) % 2 ^ (fr % 32) ≠ 0) = b → f_E_take_126 (hx_ws σ ng (lN (sN y (top + 1) / 2 ^ fr)) (iI ((fr : Int) - 320)) mo F) (nI (fr / 32)) (bI b) = some (hx_ws σ ng (lN (sN y (top + 1) / 2 ^ fr)) (iI ((fr : Int) - 320)) (bI (decide (sN y (top + 1) % 2 ^ fr ≠ 0))) F) := by
      intro b hb
      have r := x_take132 hF σ ng (lN (sN y (top + 1) / 2 ^ fr)) (iI ((fr : Int) - 320)) b (l := fr / 32) (by omega) (fr / 32) hx_fuel 0 (by omega) (by have : hx_fuel = 5000 := rfl; omega)
      rw [show decide (sN y 0 ≠ 0) = false from rfl, Bool.or_false] at r
      rw [f_E_take_126, if_pos (bI_or b), hx_n_eq, hx_ws_mo]
      refine r.trans ?_
      congr 3
      rw [hmod, ← hb]
      have hp := Nat.two_pow_pos (32 * (fr / 32))
      by_cases c : y (fr / 32) % 2 ^ (fr % 32) = 0
      · rw [c, Nat.zero_mul, Nat.zero_add]; rfl
      · have := Nat.mul_pos (show 0 < y (fr / 32) % 2 ^ (fr % 32) by omega) hp
        rw [decide_eq_true (show y (fr / 32) % 2 ^ (fr % 32) ≠ 0 from c), Bool.true_or]
        exact (decide_eq_true (by omega)).symm
    rw [f_E_take_54, if_pos (nI_lt (by omega) (by omega)), hx_n_eq, hx_n_eq, hx_ws_pw, a1, (hx_ws_g ..).2.2.2.2]
    simp only [nI_clamp (show fr / 32 < 2 ^ 31 by omega), g20 hl, if_false, hy.2, a3, a4, a5, c_eq0 (a := y (fr / 32) % 2 ^ (fr % 32)) (by omega)]
    by_cases c : y (fr / 32) % 2 ^ (fr % 32) = 0
    · rw [if_pos c]; exact go false (decide_eq_false (fun q => q c))
    · rw [if_neg c]; exact go true (decide_eq_true c)
  | succ d ih =>
    intro n i hi hfi hn
    obtain ⟨n, rfl⟩ : ∃ q, n = q + 1 := ⟨n - 1, by omega⟩
    have hy := hF i (by omega)
    have a1 : (32 : Int32) * nI i - nI fr = nI (32 * i - fr) := by
      rw [show (32 : Int32) = iI 32 from rfl, nI_i, nI_i, iI_mul, iI_sub, nI_i]; congr 1; omega
    have hdiv : sN y (i + 1) / 2 ^ fr = sN y i / 2 ^ fr + y i * 2 ^ (32 * i - fr) := by
      show (2 ^ (32 * i) * y i + sN y i) / 2 ^ fr = _
      rw [show 2 ^ (32 * i) * y i = y i * 2 ^ (32 * i - fr) * 2 ^ fr by rw [Nat.mul_assoc, ← Nat.pow_add, Nat.mul_comm]; congr 2; omega, Nat.add_comm, Nat.add_mul_div_right _ _ (Nat.two_pow_pos _)]
    rw [f_E_take_54, if_neg (nI_nlt (by omega) (by omega)), (hx_ws_g ..).2.2.2.2, (hx_ws_g ..).2.1]
    simp only [nI_clamp (show i < 2 ^ 31 by omega), g20 (show i < 20 by omega), if_false, hx_n_eq, hy.2, a1, hx_ws_wh, nI_p1]
    have hsh : 32 * i - fr < 64 := hb64 i (by omega)
    rw [wb_shl _ hsh, lN_add, ← hdiv]
    exact ih n (i + 1) (by omega) (by omega) (by omega)
