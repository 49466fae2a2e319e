/-! the class's formats -/
theorem t_mask : ∀ w, w < 32 → ((((1 : Int64) <<< ((nI w).toInt64 &&& 63)) - (1 : Int64)).toInt32).toBitVec.toNat = 2 ^ w - 1 := by decide +kernel
theorem w31 {e f kd : Nat} (h : vf e f kd) : e + f < 32 := by have := h.2.1; have := h.2.2.2.1; omega
theorem FM_w (e f kd : Nat) : hx_fm_width (FM e f kd) = nI (e + f) := rfl
theorem FM_f (e f kd : Nat) : hx_fm_fracBits (FM e f kd) = nI f := rfl
theorem FM_e (e f kd : Nat) : hx_fm_expBits (FM e f kd) = nI e := rfl
theorem FM_k (e f kd : Nat) : hx_fm_kind (FM e f kd) = nI kd := rfl
theorem FM_l (e f kd : Nat) : hx_fm_limit (FM e f kd) = nI (q_lim e f kd) := rfl
theorem FM_n (e f kd : Nat) : hx_fm_theNan (FM e f kd) = nI (q_nan e f kd) := rfl
theorem FM_t (e f kd : Nat) : hx_fm_leastTop (FM e f kd) = iI ((q_L e : Int) - 352) := rfl
theorem FM_p (e f kd : Nat) : hx_fm_leastPower (FM e f kd) = iI ((q_L e : Int) - 352 - f) := rfl
theorem x_unsigned {e f kd : Nat} (h : vf e f kd) (a : Int32) : f_F_unsigned (FM e f kd) a = some (nI (uI a % 2 ^ (e + f))) := by
  simp only [f_F_unsigned, FM_w]
  rw [pk_and a (e + f) (t_mask (e + f) (w31 h))]
  rfl
theorem iu_n {n k : Nat} (hn : n < 4294967296) (hk : k < 32) : ((nI n).toUInt32 >>> ((nI k).toUInt32 &&& Int32.toUInt32 31)).toInt32 = nI (n / 2 ^ k) := pk_ushrN hn (nI k) k (s_u k hk)
theorem n0 {n : Nat} (h : n < 2147483648) : (nI n = 0) = (n = 0) := by rw [show (0 : Int32) = nI 0 from rfl, nI_eq h (by omega)]
theorem x_isNegative {e f kd u : Nat} (h : vf e f kd) (hu : u < 2 ^ (e + f + 1)) : f_F_isNegative (FM e f kd) (nI u) = some (bI (decide (2 ^ (e + f) ≤ u))) := by
  have hw := q_w h
  have hu2 : u < 2 * 2 ^ (e + f) := by rw [Nat.pow_succ] at hu; omega
  simp only [f_F_isNegative, FM_w, iu_n (n := u) (k := e + f) (by omega) (w31 h)]
  have hd : u / 2 ^ (e + f) = if 2 ^ (e + f) ≤ u then 1 else 0 := by
    split
    · rename_i c
      rw [Nat.div_eq_iff (Nat.two_pow_pos _)]
      omega
    · exact Nat.div_eq_of_lt (by omega)
  rw [hd]
  by_cases c : 2 ^ (e + f) ≤ u
  · rw [if_pos c, decide_eq_true c]; rfl
  · rw [if_neg c, decide_eq_false c]; rfl
theorem t_w1 : ∀ w, w < 31 → (nI w + (1 : Int32)) = nI (w + 1) := by decide +kernel
theorem x_holds {e f kd : Nat} (h : vf e f kd) (a : Int32) : f_F_holds (FM e f kd) a = some (bI (decide (uI a < 2 ^ (e + f + 1)))) := by
  have hw := w31 h
  obtain ⟨n, hn, rfl⟩ := wb_of32 a
  rw [uI_nI (by omega)]
  have h31 : ((31 : Int32) ≤ nI (e + f)) = (31 ≤ e + f) := by rw [show (31 : Int32) = nI 31 from rfl, nI_leI (by omega) (by omega)]
  simp only [f_F_holds, FM_w, h31]
  by_cases c : 31 ≤ e + f
  · have : e + f = 31 := by omega
    rw [if_pos c, this, decide_eq_true (by omega)]; rfl
  · have hdl : n / 2 ^ (e + f + 1) < 2147483648 := by
      rw [Nat.div_lt_iff_lt_mul (Nat.two_pow_pos _)]
      have : 2 ≤ 2 ^ (e + f + 1) := by rw [Nat.pow_succ]; have := Nat.one_le_two_pow (n := e + f); omega
      omega
    simp only [if_neg c, t_w1 (e + f) (by omega), iu_n (n := n) (k := e + f + 1) (by omega) (by omega), n0 hdl]
    by_cases d : n < 2 ^ (e + f + 1)
    · rw [if_pos (Nat.div_eq_of_lt d), decide_eq_true d]; rfl
    · rw [if_neg, decide_eq_false d]; · rfl
      intro z
      have := (Nat.div_eq_zero_iff.mp z)
      rcases this with z | z
      · have := Nat.two_pow_pos (e + f + 1); omega
      · exact d z
theorem t_1w : ∀ w, w < 32 → (1 : Int32) <<< (nI w &&& 31) = nI (2 ^ w) := by decide +kernel
theorem nI_or (a b : Nat) : nI a ||| nI b = nI (a ||| b) := by
  apply Int32.toBitVec_inj.1
  show BitVec.ofNat 32 a ||| BitVec.ofNat 32 b = BitVec.ofNat 32 (a ||| b)
  apply BitVec.eq_of_getLsbD_eq
  intro i hi
  simp [hi]
theorem nI_xor (a b : Nat) : nI a ^^^ nI b = nI (a ^^^ b) := by
  apply Int32.toBitVec_inj.1
  show BitVec.ofNat 32 a ^^^ BitVec.ofNat 32 b = BitVec.ofNat 32 (a ^^^ b)
  apply BitVec.eq_of_getLsbD_eq
  intro i hi
  simp [hi]
theorem or_top {v w : Nat} (h : v < 2 ^ w) : v ||| 2 ^ w = v + 2 ^ w := by
  have := Nat.two_pow_add_eq_or_of_lt h 1
  rw [Nat.mul_one] at this
  rw [Nat.or_comm, ← this, Nat.add_comm]
theorem x_signed {e f kd v : Nat} (h : vf e f kd) (b : Bool) (hv : v < 2 ^ (e + f)) : f_F_signed (FM e f kd) (bI b) (nI v) = some (nI (v + if b then 2 ^ (e + f) else 0)) := by
  simp only [f_F_signed, FM_w, t_1w (e + f) (w31 h), nI_or, or_top hv]
  cases b <;> rfl
theorem xor_top {u w : Nat} (h : u < 2 ^ (w + 1)) : u ^^^ 2 ^ w = if 2 ^ w ≤ u then u - 2 ^ w else u + 2 ^ w := by
  have hw : 0 < 2 ^ w := Nat.two_pow_pos w
  rw [Nat.pow_succ] at h
  by_cases c : 2 ^ w ≤ u
  · rw [if_pos c]
    have e1 : u = (u - 2 ^ w) ||| 2 ^ w := by rw [or_top (by omega)]; omega
    apply Nat.eq_of_testBit_eq
    intro i
    have e2 : u.testBit i = ((u - 2 ^ w).testBit i || (2 ^ w).testBit i) := by rw [← Nat.testBit_or, ← e1]
    rw [Nat.testBit_xor, e2, Nat.testBit_two_pow]
    by_cases hi : w = i
    · subst hi
      have : (u - 2 ^ w).testBit w = false := Nat.testBit_lt_two_pow (by omega)
      simp [this]
    · simp [hi]
  · rw [if_neg c, ← or_top (show u < 2 ^ w by omega)]
    apply Nat.eq_of_testBit_eq
    intro i
    rw [Nat.testBit_xor, Nat.testBit_or, Nat.testBit_two_pow]
    by_cases hi : w = i
    · subst hi
      have : u.testBit w = false := Nat.testBit_lt_two_pow (by omega)
      simp [this]
    · simp [hi]
theorem x_turnedOver {e f kd u : Nat} (h : vf e f kd) (hu : u < 2 ^ (e + f + 1)) : f_F_turnedOver (FM e f kd) (nI u) = some (nI (if 2 ^ (e + f) ≤ u then u - 2 ^ (e + f) else u + 2 ^ (e + f))) := by
  simp only [f_F_turnedOver, FM_w, t_1w (e + f) (w31 h), nI_xor, xor_top hu]
theorem x_sortOf {e f kd u : Nat} (h : vf e f kd) (hu : u < 4294967296) : f_F_sortOf (FM e f kd) (nI u) = some (nI (q_sort e f kd u)) := by
  have hr := q_rest h u
  have hw := q_w h
  have hlt := (q_limlt h).1
  have h5 := h.2.2.2.2
  have hf := h.2.2.2.1
  have hq : u % 2 ^ (e + f) / 2 ^ f < 2147483648 := Nat.lt_of_le_of_lt (Nat.div_le_self _ _) hr
  simp only [f_F_sortOf, x_unsigned h, uI_nI hu, hx_b1_some, FM_l, FM_f, FM_k, n0 hr, nI_leI (a := q_lim e f kd) (b := u % 2 ^ (e + f)) (by omega) (by omega), nI_eq (a := u % 2 ^ (e + f)) (b := q_lim e f kd) (by omega) (by omega), kd0 h5, iu_n (n := u % 2 ^ (e + f)) (k := f) (by omega) (by omega), n0 hq, q_sort]
  by_cases c1 : u % 2 ^ (e + f) = 0
  · simp only [c1, if_true]; rfl
  · by_cases c2 : u % 2 ^ (e + f) < q_lim e f kd
    · have c2' : ¬ q_lim e f kd ≤ u % 2 ^ (e + f) := by omega
      by_cases c3 : u % 2 ^ (e + f) / 2 ^ f = 0 <;> simp only [c1, c2, c2', c3, if_true, if_false] <;> rfl
    · have c2' : q_lim e f kd ≤ u % 2 ^ (e + f) := by omega
      by_cases c5 : u % 2 ^ (e + f) = q_lim e f kd
      · by_cases c4 : kd = 0
        · rw [if_neg c1, if_pos c2', if_pos c5, if_pos c4, if_neg c1, if_neg c2, if_pos ⟨c4, c5⟩]; rfl
        · rw [if_neg c1, if_pos c2', if_pos c5, if_neg c4, if_neg c1, if_neg c2, if_neg (fun z => c4 z.1)]; rfl
      · rw [if_neg c1, if_pos c2', if_neg c5, if_neg c1, if_neg c2, if_neg (fun z => c5 z.2)]; rfl
def q_mc (e f u : Nat) : Nat := if u % 2 ^ (e + f) / 2 ^ f = 0 then u % 2 ^ f else u % 2 ^ f + 2 ^ f
def q_pc (e f u : Nat) : Int := (q_L e : Int) - 352 - f + (if u % 2 ^ (e + f) / 2 ^ f < 1 then 1 else (u % 2 ^ (e + f) / 2 ^ f : Nat)) - 1
theorem t_mf : ∀ f, f < 24 → (nI (2 ^ f) - (1 : Int32)).toBitVec.toNat = 2 ^ f - 1 := by decide +kernel
theorem mod_mod {e f u : Nat} : u % 2 ^ (e + f) % 2 ^ f = u % 2 ^ f := by
  rw [Nat.mod_mod_of_dvd]; exact Nat.pow_dvd_pow 2 (Nat.le_add_left f e)
theorem x_wholeOf {e f kd u : Nat} (h : vf e f kd) (hu : u < 4294967296) : f_F_wholeOf (FM e f kd) (nI u) = some (lN (q_mc e f u)) := by
  have hr := q_rest h u
  have hf := h.2.2.2.1
  have hp := pw_f hf
  have hq : u % 2 ^ (e + f) / 2 ^ f < 2147483648 := Nat.lt_of_le_of_lt (Nat.div_le_self _ _) hr
  have hm : u % 2 ^ f < 2 ^ f := Nat.mod_lt _ (Nat.two_pow_pos _)
  simp only [f_F_wholeOf, x_unsigned h, uI_nI hu, hx_b1_some, hx_n_eq, FM_f, pk_andN (n := u % 2 ^ (e + f)) (by omega) f (t_mf f (by omega)), mod_mod, iu_n (n := u % 2 ^ (e + f)) (k := f) (by omega) (by omega), n0 hq, t_1w f (by omega), nI_add, q_mc]
  by_cases c : u % 2 ^ (e + f) / 2 ^ f = 0
  · rw [if_pos c, if_pos c, nI_l (by omega)]
  · rw [if_neg c, if_neg c, nI_l (by omega)]
theorem x_powerOf {e f kd u : Nat} (h : vf e f kd) (hu : u < 4294967296) : f_F_powerOf (FM e f kd) (nI u) = some (iI (q_pc e f u)) := by
  have hr := q_rest h u
  have hf := h.2.2.2.1
  have hq : u % 2 ^ (e + f) / 2 ^ f < 2147483648 := Nat.lt_of_le_of_lt (Nat.div_le_self _ _) hr
  simp only [f_F_powerOf, x_unsigned h, uI_nI hu, hx_b1_some, FM_f, FM_p, iu_n (n := u % 2 ^ (e + f)) (k := f) (by omega) (by omega), q_pc]
  generalize u % 2 ^ (e + f) / 2 ^ f = z at hq ⊢
  have hz : (nI z < (1 : Int32)) = (z < 1) := by rw [show (1 : Int32) = nI 1 from rfl, nI_ltI hq (by omega)]
  simp only [hz]
  by_cases c : z < 1
  · rw [if_pos c, if_pos c, show (1 : Int32) = iI 1 from rfl, iI_add, iI_sub]; rfl
  · rw [if_neg c, if_neg c, show (1 : Int32) = iI 1 from rfl, nI_i, iI_add, iI_sub]
theorem q_mc_m {e f kd u : Nat} (h : q_sort e f kd u ≤ 2) : q_mc e f u = q_m e f kd u := by
  unfold q_m q_mc
  unfold q_sort at h ⊢
  by_cases c1 : u % 2 ^ (e + f) = 0
  · have : u % 2 ^ f = 0 := by rw [← mod_mod (e := e), c1, Nat.zero_mod]
    simp [c1, this]
  · by_cases c2 : u % 2 ^ (e + f) < q_lim e f kd
    · by_cases c3 : u % 2 ^ (e + f) / 2 ^ f = 0 <;> simp [c1, c2, c3]
    · simp only [c1, c2, if_false] at h
      split at h <;> omega
theorem q_pc_p {e f kd u : Nat} (hv : vf e f kd) (h : q_sort e f kd u = 1 ∨ q_sort e f kd u = 2) : q_pc e f u = q_pw e f kd u := by
  have hL := q_Lb e (by have := hv.2.1; omega) hv.1
  have hf := hv.2.2.2.1
  unfold q_pw q_p q_pc
  rw [if_pos h]
  rcases h with h | h
  · have hz : u % 2 ^ (e + f) / 2 ^ f = 0 := by
      unfold q_sort at h
      by_cases c1 : u % 2 ^ (e + f) = 0
      · simp [c1] at h
      · by_cases c2 : u % 2 ^ (e + f) < q_lim e f kd
        · by_cases c3 : u % 2 ^ (e + f) / 2 ^ f = 0
          · exact c3
          · simp [c1, c2, c3] at h
        · simp only [c1, c2, if_false] at h
          split at h <;> omega
    rw [if_pos h, hz]
    simp
    omega
  · have hz := sort2_pos h
    rw [if_neg (by omega)]
    generalize u % 2 ^ (e + f) / 2 ^ f = z at hz ⊢
    rw [if_neg (by omega)]
    omega
