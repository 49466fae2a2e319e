theorem m_sign {τ : hm_S} {ts : List hT} (hA : mA τ ts) (hV1 : -(2 ^ 767) < tV ts) (hV2 : tV ts < 2 ^ 767) : ∃ N, mN (hm_limb τ) N ∧ N.testBit 767 = decide (tV ts < 0) ∧ (0 ≤ tV ts → N = (tV ts).natAbs) := by
  obtain ⟨h1, h2, h3, h4, h5, h6, h7, h8, x, hx, cc, hxc⟩ := hA
  have hb := sI_bd (n := 24) (fun j hj => ⟨(hx j hj).1, (hx j hj).2.1⟩)
  rw [kQ_eq] at hb
  have hkh := kQ_half
  have hpos : (0 : Int) < 2 ^ 767 := Int.pow_pos (by decide)
  have hn0 := mN_of hx
  refine ⟨_, hn0, ?_, ?_⟩
  · by_cases cv : tV ts < 0
    · have hc : cc = 1 := by
        have h9 : cc * kQ = sI x 24 - tV ts := by omega
        generalize kQ = Q at h9 hb hkh
        generalize (2 : Int) ^ 767 = P at hkh hpos hV1 hV2
        rcases (show cc ≤ 0 ∨ cc = 1 ∨ 2 ≤ cc by omega) with z | z | z
        · have : cc * Q ≤ 0 := Int.mul_nonpos_of_nonpos_of_nonneg z (by omega)
          omega
        · exact z
        · have : 2 * Q ≤ cc * Q := Int.mul_le_mul_of_nonneg_right z (by omega)
          omega
      rw [hc, Int.one_mul] at hxc
      rw [decide_eq_true cv]
      have h10 : 2 ^ 767 ≤ (sI x 24).toNat := by
        have : ((2 ^ 767 : Nat) : Int) = (2 : Int) ^ 767 := by rw [Int.natCast_pow]; rfl
        generalize (2 : Nat) ^ 767 = p at this ⊢
        generalize (2 : Int) ^ 767 = P at this hkh hV1 hV2 hpos
        omega
      have h11 := mN_lt hn0
      refine Classical.byContradiction (fun hq => ?_)
      have hq : (sI x 24).toNat.testBit 767 = false := by simpa using hq
      have h12 := Nat.testBit_log2 (n := (sI x 24).toNat) (by have := Nat.two_pow_pos 767; omega)
      have h13 : (sI x 24).toNat.log2 = 767 := by
        have a1 := (Nat.le_log2 (n := (sI x 24).toNat) (by have := Nat.two_pow_pos 767; omega)).mpr h10
        have a2 := log2_le h11 (by have := Nat.two_pow_pos 767; omega)
        omega
      rw [h13, hq] at h12
      cases h12
    · have hc : cc = 0 := by
        have h9 : cc * kQ = sI x 24 - tV ts := by omega
        generalize kQ = Q at h9 hb hkh
        generalize (2 : Int) ^ 767 = P at hkh hpos hV1 hV2
        rcases (show cc ≤ -1 ∨ cc = 0 ∨ 1 ≤ cc by omega) with z | z | z
        · have : cc * Q ≤ -1 * Q := Int.mul_le_mul_of_nonneg_right z (by omega)
          omega
        · exact z
        · have : 1 * Q ≤ cc * Q := Int.mul_le_mul_of_nonneg_right z (by omega)
          omega
      rw [hc, Int.zero_mul, Int.add_zero] at hxc
      rw [decide_eq_false cv]
      apply Nat.testBit_lt_two_pow
      have : ((2 ^ 767 : Nat) : Int) = (2 : Int) ^ 767 := by rw [Int.natCast_pow]; rfl
      generalize (2 : Nat) ^ 767 = p at this ⊢
      generalize (2 : Int) ^ 767 = P at this hkh hV1 hV2 hpos
      omega
  · intro cv
    have hc : cc = 0 := by
      have h9 : cc * kQ = sI x 24 - tV ts := by omega
      generalize kQ = Q at h9 hb hkh
      generalize (2 : Int) ^ 767 = P at hkh hpos hV1 hV2
      rcases (show cc ≤ -1 ∨ cc = 0 ∨ 1 ≤ cc by omega) with z | z | z
      · have : cc * Q ≤ -1 * Q := Int.mul_le_mul_of_nonneg_right z (by omega)
        omega
      · exact z
      · have : 1 * Q ≤ cc * Q := Int.mul_le_mul_of_nonneg_right z (by omega)
        omega
    rw [hc, Int.zero_mul, Int.add_zero] at hxc
    omega
/-- how far out an infinite value stands: 1, -1, and 0 of a finite one -/
def inf3 (s : Nat) (b : Bool) : Int := if s = 3 then (if b then -1 else 1) else 0
theorem inf3_b (s : Nat) (b : Bool) : inf3 s b = -1 ∨ inf3 s b = 0 ∨ inf3 s b = 1 := by
  unfold inf3; split
  · split
    · exact Or.inl rfl
    · exact Or.inr (Or.inr rfl)
  · exact Or.inr (Or.inl rfl)
theorem vK3 (s : Nat) (h : s ≤ 4) (h4 : s ≠ 4) : vK s = if s = 3 then 1 else 0 := by unfold vK; rw [if_neg h4]
theorem side2 {s t : Nat} {a b : Bool} {m p m2 p2 : Nat} (hs : s ≤ 4) (hs4 : s ≠ 4) (ht : t ≤ 4) (ht4 : t ≠ 4) : sp_side [(vK s, (a != false), m, p), (vK t, (b != true), m2, p2)] = if inf3 s a = inf3 t b then (if inf3 s a = 0 then (if tV [(vK s, (a != false), m, p), (vK t, (b != true), m2, p2)] = 0 then 0 else if tV [(vK s, (a != false), m, p), (vK t, (b != true), m2, p2)] < 0 then -1 else 1) else 0) else if inf3 t b ≤ inf3 s a then 1 else -1 := by
  rw [vK3 s hs hs4, vK3 t ht ht4]
  unfold sp_side inf3
  by_cases c : s = 3 <;> by_cases d : t = 3 <;> simp only [c, d, if_true, if_false] <;> cases a <;> cases b <;> rfl
theorem nan2 {s t : Nat} {a b : Bool} {m p m2 p2 : Nat} (hs : s ≤ 4) (ht : t ≤ 4) : ht_nan [(vK s, a, m, p), (vK t, b, m2, p2)] = (decide (s = 4) || decide (t = 4)) := by
  have h : ∀ s, s ≤ 4 → kn (vK s) = decide (s = 4) := by decide
  show (kn (vK s) || (kn (vK t) || false)) = _
  rw [h s hs, h t ht, Bool.or_false]
theorem m_cmp107 {τ : hm_S} {k e f kd a m e2 f2 kd2 b : Nat} (hF : mF τ k e f kd) (hG : mF τ m e2 f2 kd2) (ha : a < 2 ^ (e + f + 1)) (hb : b < 2 ^ (e2 + f2 + 1)) (x : Int32) : f_M_compare_107 τ (nI k) (nI m) (lN a) (lN b) x = f_M_compare_139 τ (nI k) (nI m) (lN a) (lN b) x (iI (inf3 (q_sort e2 f2 kd2 b) (decide (2 ^ (e2 + f2) ≤ b)))) := by
  rw [f_M_compare_107, m_sortOf hG (pw_p hG.2.1 hb), hx_b1_some, m_isBelow hG (pw_p hG.2.1 hb), hx_b1_some]
  by_cases c : q_sort e2 f2 kd2 b = 3
  · rw [if_pos (show nI (q_sort e2 f2 kd2 b) = 3 by rw [c]; rfl), inf3, if_pos c]
    by_cases d : 2 ^ (e2 + f2) ≤ b
    · rw [bI_t d, if_neg one_ne, decide_eq_true d, if_pos rfl]; rfl
    · rw [bI_f d, if_pos rfl, decide_eq_false d, if_neg Bool.false_ne_true]; rfl
  · rw [if_neg (by rw [sort_3]; exact c), inf3, if_neg c]; rfl
set_option maxHeartbeats 1000000 in
theorem m_cmp139 {τ : hm_S} {k e f kd a m e2 f2 kd2 b : Nat} (hF : mF τ k e f kd) (hG : mF τ m e2 f2 kd2) (ha : a < 2 ^ (e + f + 1)) (hb : b < 2 ^ (e2 + f2 + 1)) {i j : Int} (hi : i = -1 ∨ i = 0 ∨ i = 1) (hj : j = -1 ∨ j = 0 ∨ j = 1) : ∃ τ1, hmk τ1 τ ∧ hm_flags τ1 = hm_flags τ ∧ hm_state τ1 = hm_state τ ∧ f_M_compare_139 τ (nI k) (nI m) (lN a) (lN b) (iI i) (iI j) = some (iI (if i = j then (if i = 0 then (if tV [t1 e f kd a false, t1 e2 f2 kd2 b true] = 0 then 0 else if tV [t1 e f kd a false, t1 e2 f2 kd2 b true] < 0 then -1 else 1) else 0) else if j ≤ i then 1 else -1), τ1) := by
  have eq1 : iI i = iI j ↔ i = j := iI_eq (by omega) (by omega) (by omega) (by omega)
  have le1 : iI j ≤ iI i ↔ j ≤ i := iI_le (by omega) (by omega) (by omega) (by omega)
  have eq0 : iI i = 0 ↔ i = 0 := iI_eq (b := 0) (by omega) (by omega) (by omega) (by omega)
  rw [f_M_compare_139]
  by_cases c : i = j
  · obtain ⟨τ1, b1, b2⟩ := rA_begin τ
    obtain ⟨τ2, d1, d2⟩ := rA_value b2 hF ha false
    obtain ⟨τ3, d3, d4⟩ := rA_value d2 hG hb true
    rw [show bI false = 0 from rfl] at d1
    rw [show bI true = 1 from rfl] at d3
    have d4' : rA τ τ3 [t1 e f kd a false, t1 e2 f2 kd2 b true] := d4
    refine ⟨τ3, d4.1, d4.2.1, d4.2.2.1, ?_⟩
    rw [if_pos (eq1.mpr c), b1, hx_b1_some, d1, hx_b1_some, d3, hx_b1_some, if_pos c]
    by_cases z : i = 0
    · have hV := tV_767 (tB_l2 (tB_t1 hF.2.1 a false) (tB_t1 hG.2.1 b true)) (by show 2 < 250; omega)
      obtain ⟨N, n1, n2, n3⟩ := m_sign d4'.2.2.2 hV.1 hV.2
      rw [if_pos (eq0.mpr z), if_pos z, show (767 : Int32) = nI 767 from rfl, m_bitAt n1 (by omega), hx_b1_some, n2]
      by_cases v : tV [t1 e f kd a false, t1 e2 f2 kd2 b true] < 0
      · rw [bI_t v, if_pos rfl, if_neg (show ¬ tV [t1 e f kd a false, t1 e2 f2 kd2 b true] = 0 by omega), if_pos v]
        rfl
      · rw [bI_f v, if_neg (show ¬ (0 : Int32) = 1 by decide), show (768 : Int32) = nI 768 from rfl, m_hasLower n1 (by omega), hx_b1_some, Nat.mod_eq_of_lt (mN_lt n1), n3 (by omega)]
        by_cases w : tV [t1 e f kd a false, t1 e2 f2 kd2 b true] = 0
        · rw [bI_f (show ¬ (tV [t1 e f kd a false, t1 e2 f2 kd2 b true]).natAbs ≠ 0 by omega), if_pos rfl, if_pos w]
          rfl
        · rw [bI_t (show (tV [t1 e f kd a false, t1 e2 f2 kd2 b true]).natAbs ≠ 0 by omega), if_neg one_ne, if_neg w, if_neg v]
          rfl
    · rw [if_neg (fun q => z (eq0.mp q)), if_neg z]
      rfl
  · rw [if_neg (fun q => c (eq1.mp q)), if_neg c]
    by_cases d : j ≤ i
    · rw [if_pos (le1.mpr d), if_pos d]; exact ⟨τ, hmk.rf τ, rfl, rfl, rfl⟩
    · rw [if_neg (fun q => d (le1.mp q)), if_neg d]; exact ⟨τ, hmk.rf τ, rfl, rfl, rfl⟩
set_option maxHeartbeats 1000000 in
theorem sim_compare {σ : hx_S} {τ : hm_S} (hR : hr_R σ τ) (x1 x2 x3 x4 : Int32) : ∃ r σ1 τ1, f_X_compare σ x1 x2 x3 x4 = some (r, σ1) ∧ f_M_compare τ x1 x2 x3 x4 = some (r, τ1) ∧ hr_R σ1 τ1 := by
  have hR0 := hR
  obtain ⟨E, F, K, n, g, u, fl, st, S, sk, go, h1, h2, h3⟩ := hR
  by_cases H : f_X_isPattern σ x1 x2 = some 1 ∧ f_X_isPattern σ x3 x4 = some 1
  · obtain ⟨p1, p2⟩ := H
    obtain ⟨k, hk, rfl, k1, a, ha, rfl, k2, k3⟩ := e_pat h1 p1
    obtain ⟨m, hm, rfl, m1, b, hb, rfl, m2, m3⟩ := e_pat h1 p2
    have hM := mF_of h1 hk
    have hN := mF_of h1 hm
    obtain ⟨s1, b1, b2⟩ := cA_begin σ
    obtain ⟨s2, b3, b4⟩ := cA_value b2 (by decide) (cF_of h1 hk) ha false
    obtain ⟨s3, b5, b6⟩ := cA_value b4 (by show 1 < 250; omega) (cF_of h1 hm) hb true
    rw [show bI false = 0 from rfl] at b3
    rw [show bI true = 1 from rfl] at b5
    obtain ⟨X, rfl, hX⟩ := b6
    have hX' : cX X [t1 (E k) (F k) (K k) a false, t1 (E m) (F m) (K m) b true] := hX
    have hB := tB_l2 (tB_t1 (h1 k hk).1 a false) (tB_t1 (h1 m hm).1 b true)
    have sa := sort_le (E k) (F k) (K k) a
    have sb := sort_le (E m) (F m) (K m) b
    have hk4 : ∀ (σ1 : hx_S) (τ1 : hm_S), hxk σ1 σ → σ1.2.2.2.1 = σ.2.2.2.1 → hmk τ1 τ → hm_flags τ1 = hm_flags τ → hm_state τ1 = hm_state τ → hr_R σ1 τ1 := fun σ1 τ1 q1 q2 q3 q4 q5 => (hr_N.P (f1 := fl) (s1 := st) ⟨h1, h2, h3⟩ ⟨q1, q3, by rw [q2]; exact Prod.ext h3.1 h3.2.2.1, q4.trans h3.2.1, q5.trans h3.2.2.2.1, h3.2.2.2.2.1⟩).R
    have hc : f_X_compare σ (nI k) (nI a) (nI m) (nI b) = if (hx_ex_hasNan (hx_xs σ X)) = 0 then hx_b2 (f_E_side (hx_xs σ X)) (fun r16 q15 => some (r16, q15)) else some ((2 : Int32), hx_xs σ X) := by
      rw [f_X_compare, p1, hx_b1_some, if_neg one_ne, p2, hx_b1_some, if_neg one_ne, b1, hx_b1_some, hc4 hk, hc4 hm, hx_gn (hg4n hk), b3, hx_b1_some, hx_gn (hg4n hm), b5, hx_b1_some]
    have hnan : hx_ex_hasNan (hx_xs σ X) = bI (decide (q_sort (E k) (F k) (K k) a = 4) || decide (q_sort (E m) (F m) (K m) b = 4)) := by
      show X.1 = _
      rw [hX'.1, t1, t1, vT, vT, nan2 sa sb]
    have hr0 : f_M_compare τ (nI k) (nI a) (nI m) (nI b) = if nI (q_sort (E k) (F k) (K k) a) = 4 then some (2, τ) else if nI (q_sort (E m) (F m) (K m) b) = 4 then some (2, τ) else f_M_compare_139 τ (nI k) (nI m) (lN a) (lN b) (iI (inf3 (q_sort (E k) (F k) (K k) a) (decide (2 ^ (E k + F k) ≤ a)))) (iI (inf3 (q_sort (E m) (F m) (K m) b) (decide (2 ^ (E m + F m) ≤ b)))) := by
      rw [f_M_compare, k1, hx_b1_some, if_neg one_ne, m1, hx_b1_some, if_neg one_ne, k2, hx_b1_some, if_neg one_ne, m2, hx_b1_some, if_neg one_ne, k3 τ hM, hx_b1_some, m3 τ hN, hx_b1_some, m_sortOf hM (pw_p hM.2.1 ha), hx_b1_some, m_sortOf hN (pw_p hN.2.1 hb), hx_b1_some, hx_b1_some, m_isBelow hM (pw_p hM.2.1 ha), hx_b1_some, m_cmp107 hM hN ha hb, m_cmp107 hM hN ha hb, m_cmp107 hM hN ha hb]
      generalize iI (inf3 (q_sort (E m) (F m) (K m) b) (decide (2 ^ (E m + F m) ≤ b))) = ib
      by_cases c : q_sort (E k) (F k) (K k) a = 3
      · rw [if_pos (show nI (q_sort (E k) (F k) (K k) a) = 3 by rw [c]; rfl), inf3, if_pos c]
        by_cases d : 2 ^ (E k + F k) ≤ a
        · rw [bI_t d, if_neg one_ne, decide_eq_true d, if_pos rfl]; rfl
        · rw [bI_f d, if_pos rfl, decide_eq_false d, if_neg Bool.false_ne_true]; rfl
      · rw [if_neg (show ¬ nI (q_sort (E k) (F k) (K k) a) = 3 by rw [sort_3]; exact c), inf3, if_neg c]; rfl
    rw [hc, hr0, hnan]
    by_cases c4 : q_sort (E k) (F k) (K k) a = 4
    · rw [decide_eq_true c4, Bool.true_or, if_neg (show ¬ bI true = 0 by decide), if_pos (show nI (q_sort (E k) (F k) (K k) a) = 4 by rw [c4]; rfl)]
      exact ⟨_, _, _, rfl, rfl, hk4 _ _ ⟨rfl, rfl, rfl⟩ rfl (hmk.rf τ) rfl rfl⟩
    · rw [decide_eq_false c4, Bool.false_or, if_neg (show ¬ nI (q_sort (E k) (F k) (K k) a) = 4 by rw [sort_4]; exact c4)]
      by_cases d4 : q_sort (E m) (F m) (K m) b = 4
      · rw [decide_eq_true d4, if_neg (show ¬ bI true = 0 by decide), if_pos (show nI (q_sort (E m) (F m) (K m) b) = 4 by rw [d4]; rfl)]
        exact ⟨_, _, _, rfl, rfl, hk4 _ _ ⟨rfl, rfl, rfl⟩ rfl (hmk.rf τ) rfl rfl⟩
      · rw [decide_eq_false d4, if_pos (show bI false = 0 from rfl), if_neg (show ¬ nI (q_sort (E m) (F m) (K m) b) = 4 by rw [sort_4]; exact d4)]
        obtain ⟨Y, y1⟩ := x_side (σ := σ) hX' hB (by show 2 < 250; omega)
        obtain ⟨τ1, t1', t2', t3', t4'⟩ := m_cmp139 hM hN ha hb (inf3_b (q_sort (E k) (F k) (K k) a) (decide (2 ^ (E k + F k) ≤ a))) (inf3_b (q_sort (E m) (F m) (K m) b) (decide (2 ^ (E m + F m) ≤ b)))
        rw [y1, hx_b2_some, t4']
        have hs : sp_side [t1 (E k) (F k) (K k) a false, t1 (E m) (F m) (K m) b true] = _ := side2 sa c4 sb d4
        rw [hs]
        exact ⟨_, _, _, rfl, rfl, hk4 _ _ ⟨rfl, rfl, rfl⟩ rfl t1' t2' t3'⟩
  · refine ⟨-2, σ, τ, ?_, ?_, hR0⟩
    · rw [f_X_compare]
      exact gate (v_pat h1 _ _).1 fun q1 => gate (v_pat h1 _ _).1 fun q2 => absurd ⟨q1, q2⟩ H
    · rw [f_M_compare]
      refine gate (vm_form _) fun q1 => gate (vm_form _) fun q2 => gate (vm_pat h1 q1) fun q3 => gate (vm_pat h1 q2) fun q4 => absurd ⟨?_, ?_⟩ H
      · rw [← (v_pat h1 x1 x2).2 q1]; exact q3
      · rw [← (v_pat h1 x3 x4).2 q2]; exact q4
