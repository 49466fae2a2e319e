/-! leading zeros -/
theorem log2_u {y a : Nat} (h1 : 2 ^ a ≤ y) (h2 : y < 2 ^ (a + 1)) : y.log2 = a := by
  have h0 : y ≠ 0 := by have := Nat.two_pow_pos a; omega
  have h3 := (Nat.log2_lt h0).mpr h2
  have h4 := (Nat.le_log2 h0).mpr h1
  omega
theorem log2_div {x k : Nat} (h : 2 ^ k ≤ x) : (x / 2 ^ k).log2 + k = x.log2 := by
  have hp := Nat.two_pow_pos k
  have h0 : x ≠ 0 := by omega
  have hk := (Nat.le_log2 h0).mpr h
  have h1 : 2 ^ (x.log2 - k) ≤ x / 2 ^ k := by
    rw [Nat.le_div_iff_mul_le hp, ← Nat.pow_add, show x.log2 - k + k = x.log2 by omega]
    exact (Nat.le_log2 h0).mp (Nat.le_refl _)
  have h2 : x / 2 ^ k < 2 ^ (x.log2 - k + 1) := by
    rw [Nat.div_lt_iff_lt_mul hp, ← Nat.pow_add, show x.log2 - k + 1 + k = x.log2 + 1 by omega]
    exact (Nat.log2_lt h0).mp (Nat.lt_succ_self _)
  rw [log2_u h1 h2]
  omega
theorem iu_c {n : Nat} (k : Nat) (hn : n < 4294967296) (hk : k < 32) : ((nI n).toUInt32 >>> ((nI k).toUInt32 &&& Int32.toUInt32 31)).toInt32 = nI (n / 2 ^ k) := iu_n hn hk
theorem nI_dn {n : Nat} (k : Nat) (h : k ≤ n) : nI n + iI (-(k : Int)) = nI (n - k) := by rw [nI_i, iI_add, nI_i]; congr 1; omega
theorem z_73 {x n : Nat} (h0 : 0 < x) (h : x < 4) (hn : 1 ≤ n) : f_JI_numberOfLeadingZeros_73 (nI x) (nI n) = some (nI (n - x.log2)) := by
  have e : ((nI x).toUInt32 >>> ((1 : Int32).toUInt32 &&& Int32.toUInt32 31)).toInt32 = nI (x / 2 ^ 1) := iu_c 1 (by omega) (by decide)
  rw [f_JI_numberOfLeadingZeros_73, e]
  rcases (show x = 1 ∨ x = 2 ∨ x = 3 by omega) with rfl | rfl | rfl
  · rw [pk_sub (show 1 / 2 ^ 1 ≤ n by omega)]; rfl
  · rw [pk_sub (show 2 / 2 ^ 1 ≤ n by omega)]; rfl
  · rw [pk_sub (show 3 / 2 ^ 1 ≤ n by omega)]; rfl
theorem z_61 {x n : Nat} (h0 : 0 < x) (h : x < 16) (hn : 3 ≤ n) : f_JI_numberOfLeadingZeros_61 (nI x) (nI n) = some (nI (n - x.log2)) := by
  have e : ((nI x).toUInt32 >>> ((2 : Int32).toUInt32 &&& Int32.toUInt32 31)).toInt32 = nI (x / 2 ^ 2) := iu_c 2 (by omega) (by decide)
  have c4 : (nI x < (4 : Int32)) = (x < 4) := by rw [show (4 : Int32) = nI 4 from rfl, nI_ltI (by omega) (by omega)]
  rw [f_JI_numberOfLeadingZeros_61, hx_n_eq, hx_n_eq, e, show nI n + (-2) = nI (n - 2) from nI_dn 2 (by omega)]
  simp only [c4]
  by_cases c : x < 4
  · rw [if_pos c]; exact z_73 h0 c (by omega)
  · rw [if_neg c, z_73 (by omega) (by omega) (by omega)]
    have := log2_div (x := x) (k := 2) (by omega)
    congr 2; omega
theorem z_48 {x n : Nat} (h0 : 0 < x) (h : x < 256) (hn : 7 ≤ n) : f_JI_numberOfLeadingZeros_48 (nI x) (nI n) = some (nI (n - x.log2)) := by
  have e : ((nI x).toUInt32 >>> ((4 : Int32).toUInt32 &&& Int32.toUInt32 31)).toInt32 = nI (x / 2 ^ 4) := iu_c 4 (by omega) (by decide)
  have c4 : (nI x < (16 : Int32)) = (x < 16) := by rw [show (16 : Int32) = nI 16 from rfl, nI_ltI (by omega) (by omega)]
  rw [f_JI_numberOfLeadingZeros_48, hx_n_eq, hx_n_eq, e, show nI n + (-4) = nI (n - 4) from nI_dn 4 (by omega)]
  simp only [c4]
  by_cases c : x < 16
  · rw [if_pos c]; exact z_61 h0 c (by omega)
  · rw [if_neg c, z_61 (by omega) (by omega) (by omega)]
    have := log2_div (x := x) (k := 4) (by omega)
    congr 2; omega
theorem z_33 {x n : Nat} (h0 : 0 < x) (h : x < 65536) (hn : 15 ≤ n) : f_JI_numberOfLeadingZeros_33 (nI x) (nI n) = some (nI (n - x.log2)) := by
  have e : ((nI x).toUInt32 >>> ((8 : Int32).toUInt32 &&& Int32.toUInt32 31)).toInt32 = nI (x / 2 ^ 8) := iu_c 8 (by omega) (by decide)
  have c4 : (nI x < (256 : Int32)) = (x < 256) := by rw [show (256 : Int32) = nI 256 from rfl, nI_ltI (by omega) (by omega)]
  rw [f_JI_numberOfLeadingZeros_33, hx_n_eq, hx_n_eq, e, show nI n + (-8) = nI (n - 8) from nI_dn 8 (by omega)]
  simp only [c4]
  by_cases c : x < 256
  · rw [if_pos c]; exact z_48 h0 c (by omega)
  · rw [if_neg c, z_48 (by omega) (by omega) (by omega)]
    have := log2_div (x := x) (k := 8) (by omega)
    congr 2; omega
theorem z_int {x : Nat} (h : x < 4294967296) : f_JI_numberOfLeadingZeros (nI x) = some (if x = 0 then 32 else nI (31 - x.log2)) := by
  rw [f_JI_numberOfLeadingZeros]
  by_cases c : x < 2147483648
  · have c1 : ((0 : Int32) < nI x) = (0 < x) := by rw [show (0 : Int32) = nI 0 from rfl, nI_ltI (by omega) (by omega)]
    have c2 : (nI x < (65536 : Int32)) = (x < 65536) := by rw [show (65536 : Int32) = nI 65536 from rfl, nI_ltI (by omega) (by omega)]
    have e : ((nI x).toUInt32 >>> ((16 : Int32).toUInt32 &&& Int32.toUInt32 31)).toInt32 = nI (x / 2 ^ 16) := iu_c 16 (by omega) (by decide)
    rw [hx_n_eq, hx_n_eq, e, show (31 : Int32) + (-16) = nI 15 from by decide, show (31 : Int32) = nI 31 from rfl]
    simp only [c1, c2, n0 c]
    by_cases d : x = 0
    · rw [if_neg (by omega), if_pos d, if_pos d]
    · rw [if_pos (by omega), if_neg d]
      by_cases g : x < 65536
      · rw [if_pos g]; exact z_33 (by omega) g (by omega)
      · rw [if_neg g, z_33 (by omega) (by omega) (by omega)]
        have := log2_div (x := x) (k := 16) (by omega)
        congr 2; omega
  · have hn : (nI x).toInt = (x : Int) - 4294967296 := by
      have : nI x = iI ((x : Int) - 4294967296) := by
        apply Int32.toBitVec_inj.mp
        show BitVec.ofNat 32 x = BitVec.ofInt 32 _
        apply BitVec.eq_of_toNat_eq
        rw [BitVec.toNat_ofNat, BitVec.toNat_ofInt]
        omega
      rw [this, iI_toInt (by omega) (by omega)]
    rw [if_neg (by rw [Int32.lt_iff_toInt_lt, hn, Int32.toInt_zero]; omega), if_neg (by rw [← Int32.toInt_inj, hn, Int32.toInt_zero]; omega), if_neg (by omega), log2_u (a := 31) (by omega) (by omega)]
    rfl
theorem z_long {w : Nat} (h : w < 9223372036854775808) (h0 : 0 < w) : f_JL_numberOfLeadingZeros (lN w) = some (nI (63 - w.log2)) := by
  have e1 : ((lN w).toUInt64 >>> ((32 : Int32).toInt64.toUInt64 &&& Int64.toUInt64 63)).toInt64 = lN (w / 2 ^ 32) := wb_shr (k := 32) (by omega) (by decide)
  have e2 : (lN w).toInt32 = nI (w % 4294967296) := by
    rw [lN_i]
    apply Int32.toBitVec_inj.mp
    show BitVec.ofNat 32 w = BitVec.ofNat 32 _
    apply BitVec.eq_of_toNat_eq
    rw [BitVec.toNat_ofNat, BitVec.toNat_ofNat]
    omega
  rw [f_JL_numberOfLeadingZeros, hx_n_eq, e1, e2, lN_i, z_int (by omega), z_int (by omega), hx_b1_some, hx_b1_some]
  simp only [n0 (show w / 2 ^ 32 < 2147483648 by omega)]
  by_cases c : w / 2 ^ 32 = 0
  · have hw : w < 4294967296 := by omega
    have hl : w.log2 < 32 := (Nat.log2_lt (by omega)).mpr (by omega)
    rw [if_pos c, if_neg (by omega), show w % 4294967296 = w by omega]
    have : (32 : Int32) + nI (31 - w.log2) = nI (32 + (31 - w.log2)) := nI_add 32 _
    rw [this]
    congr 2; omega
  · rw [if_neg c, if_neg c]
    have := log2_div (x := w) (k := 32) (by omega)
    have hl : w.log2 < 63 := (Nat.log2_lt (by omega)).mpr (by omega)
    congr 2; omega
