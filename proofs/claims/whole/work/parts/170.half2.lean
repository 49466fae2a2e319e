def f_X_plus (σ : hx_S) (k1 : Nat) (x2 : Int32) (k3 : Nat) (x4 : Int32) (x5 : Int32) : Option (Int32 × hx_S) := hx_b1 (f_E_begin σ) (fun q6 => hx_b1 (f_E_addValue q6 k1 x2 (0 : Int32)) (fun q7 => hx_b1 (f_E_addValue q7 k3 x4 (0 : Int32)) (fun q8 => hx_b2 (f_D_rounded q8 k3 x5) (fun r10 q9 => some (r10, q9)))))
def f_X_sumFromLeft_43 : Nat → hx_S → Nat → Nat → Int32 → Nat → Int32 → Int32 → Option (Int32 × hx_S)
  | 0, _, _, _, _, _, _, _ => none
  | n + 1, σ, k9, k10, x11, k12, x13, x14 => (if (hx_size σ k9) ≤ x14 then some (x13, σ) else (if x14 < 0 ∨ 32 ≤ x14.toNatClampNeg then none else hx_b2 (f_X_plus σ k12 (hx_pat σ k9 x14.toNatClampNeg) k10 x13 x11) (fun r18 q17 => hx_n (x14 + 1) (fun x19 => ((f_X_sumFromLeft_43 n) q17 k9 k10 x11 k12 r18 x19)))))
def f_X_sumFromLeft (σ : hx_S) (k1 : Nat) (k2 : Nat) (x3 : Int32) : Option (Int32 × hx_S) := (if (hx_size σ k1) = 0 then some ((0 : Int32), σ) else (if (hx_format σ k1) < 0 ∨ 4 ≤ (hx_format σ k1).toNatClampNeg then none else (if (0 : Int32) < 0 ∨ 32 ≤ (0 : Int32).toNatClampNeg then none else hx_b2 (f_D_turned σ ((hx_format σ k1).toNatClampNeg) (hx_pat σ k1 (0 : Int32).toNatClampNeg) (0 : Int32) k2 x3) (fun r8 q7 => (f_X_sumFromLeft_43 hx_fuel q7 k1 k2 x3 ((hx_format σ k1).toNatClampNeg) r8 (1 : Int32))))))
def f_X_pairUp_3 : Nat → hx_S → Int32 → Nat → Int32 → Int32 → Option hx_S
  | 0, _, _, _, _, _ => none
  | n + 1, σ, x4, k5, x6, x7 => (if x4 ≤ (x7 + (1 : Int32)) then (if (x4 - x4 / (2 : Int32) * (2 : Int32)) = (1 : Int32) then (if (x4 - (1 : Int32)) < 0 ∨ 32 ≤ (x4 - (1 : Int32)).toNatClampNeg then none else hx_n (hx_tr σ (x4 - (1 : Int32)).toNatClampNeg) (fun x11 => (if (x4 / (2 : Int32)) < 0 ∨ 32 ≤ (x4 / (2 : Int32)).toNatClampNeg then none else hx_n (hx_tr_s σ (x4 / (2 : Int32)).toNatClampNeg x11) (fun σ13 => some σ13)))) else some σ) else (if x7 < 0 ∨ 32 ≤ x7.toNatClampNeg then none else (if (x7 + (1 : Int32)) < 0 ∨ 32 ≤ (x7 + (1 : Int32)).toNatClampNeg then none else hx_b2 (f_X_plus σ k5 (hx_tr σ x7.toNatClampNeg) k5 (hx_tr σ (x7 + (1 : Int32)).toNatClampNeg) x6) (fun r17 q16 => (if (x7 / (2 : Int32)) < 0 ∨ 32 ≤ (x7 / (2 : Int32)).toNatClampNeg then none else hx_n (hx_tr_s q16 (x7 / (2 : Int32)).toNatClampNeg r17) (fun σ19 => hx_n (x7 + 2) (fun x20 => ((f_X_pairUp_3 n) σ19 x4 k5 x6 x20))))))))
def f_X_pairUp (σ : hx_S) (x1 : Int32) (k2 : Nat) (x3 : Int32) : Option hx_S := (f_X_pairUp_3 hx_fuel σ x1 k2 x3 (0 : Int32))
def f_X_sumAsTree_66 : Nat → hx_S → Nat → Int32 → Int32 → Option (Int32 × hx_S)
  | 0, _, _, _, _ => none
  | n + 1, σ, k11, x12, x13 => (if x13 ≤ (1 : Int32) then (if (0 : Int32) < 0 ∨ 32 ≤ (0 : Int32).toNatClampNeg then none else some ((hx_tr σ (0 : Int32).toNatClampNeg), σ)) else hx_b1 (f_X_pairUp σ x13 k11 x12) (fun q16 => hx_n ((x13 + (1 : Int32)) / (2 : Int32)) (fun x17 => ((f_X_sumAsTree_66 n) q16 k11 x12 x17))))
def f_X_sumAsTree_12 : Nat → hx_S → Nat → Nat → Int32 → Int32 → Option (Int32 × hx_S)
  | 0, _, _, _, _, _ => none
  | n + 1, σ, k5, k6, x7, x8 => (if (hx_size σ k5) ≤ x8 then hx_n (hx_size σ k5) (fun x10 => (f_X_sumAsTree_66 hx_fuel σ k6 x7 x10)) else (if (hx_format σ k5) < 0 ∨ 4 ≤ (hx_format σ k5).toNatClampNeg then none else (if x8 < 0 ∨ 32 ≤ x8.toNatClampNeg then none else hx_b2 (f_D_turned σ ((hx_format σ k5).toNatClampNeg) (hx_pat σ k5 x8.toNatClampNeg) (0 : Int32) k6 x7) (fun r21 q20 => (if x8 < 0 ∨ 32 ≤ x8.toNatClampNeg then none else hx_n (hx_tr_s q20 x8.toNatClampNeg r21) (fun σ23 => hx_n (x8 + 1) (fun x24 => ((f_X_sumAsTree_12 n) σ23 k5 k6 x7 x24))))))))
def f_X_sumAsTree (σ : hx_S) (k1 : Nat) (k2 : Nat) (x3 : Int32) : Option (Int32 × hx_S) := (if (hx_size σ k1) = 0 then some ((0 : Int32), σ) else (f_X_sumAsTree_12 hx_fuel σ k1 k2 x3 (0 : Int32)))
def f_X_sumAtOnce_10 : Nat → hx_S → Nat → Nat → Int32 → Int32 → Option (Int32 × hx_S)
  | 0, _, _, _, _, _ => none
  | n + 1, σ, k5, k6, x7, x8 => (if (hx_size σ k5) ≤ x8 then hx_b2 (f_D_rounded σ k6 x7) (fun r11 q10 => some (r11, q10)) else (if (hx_format σ k5) < 0 ∨ 4 ≤ (hx_format σ k5).toNatClampNeg then none else (if x8 < 0 ∨ 32 ≤ x8.toNatClampNeg then none else hx_b1 (f_E_addValue σ ((hx_format σ k5).toNatClampNeg) (hx_pat σ k5 x8.toNatClampNeg) (0 : Int32)) (fun q14 => hx_n (x8 + 1) (fun x15 => ((f_X_sumAtOnce_10 n) q14 k5 k6 x7 x15))))))
def f_X_sumAtOnce (σ : hx_S) (k1 : Nat) (k2 : Nat) (x3 : Int32) : Option (Int32 × hx_S) := hx_b1 (f_E_begin σ) (fun q4 => (f_X_sumAtOnce_10 hx_fuel q4 k1 k2 x3 (0 : Int32)))
def f_X_sum_96 (σ : hx_S) (x20 : Int32) : Option (Int64 × hx_S) := hx_b1 (f_X_bits x20) (fun r21 => some (r21, σ))
def f_X_sum (σ : hx_S) (x1 : Int32) (x2 : Int32) (x3 : Int32) (x4 : Int32) : Option (Int64 × hx_S) := hx_b1 (f_X_isRow x1) (fun r5 => (if r5 = 0 then some ((-2 : Int64), σ) else (if x2 < 0 then some ((-2 : Int64), σ) else (if (2 : Int32) < x2 then some ((-2 : Int64), σ) else hx_b1 (f_X_isFormat x3) (fun r9 => (if r9 = 0 then some ((-2 : Int64), σ) else hx_b1 (f_X_isWay x4) (fun r11 => (if r11 = 0 then some ((-2 : Int64), σ) else hx_b1 (f_X_rowOf σ x1) (fun r13 => (if r13 < 2 then (if x3 < 0 ∨ 4 ≤ x3.toNatClampNeg then none else (if x2 = 0 then hx_b2 (f_X_sumFromLeft σ r13 x3.toNatClampNeg x4) (fun r25 q24 => hx_b1 (f_X_bits r25) (fun r26 => some (r26, q24))) else (if x2 = (1 : Int32) then hx_b2 (f_X_sumAsTree σ r13 x3.toNatClampNeg x4) (fun r23 q22 => (f_X_sum_96 q22 r23)) else hx_b2 (f_X_sumAtOnce σ r13 x3.toNatClampNeg x4) (fun r19 q18 => (f_X_sum_96 q18 r19))))) else none))))))))))
def f_X_addProductAt (σ : hx_S) (x1 : Int32) : Option hx_S := (if (hx_format σ 0) < 0 ∨ 4 ≤ (hx_format σ 0).toNatClampNeg then none else (if x1 < 0 ∨ 32 ≤ x1.toNatClampNeg then none else (if (hx_format σ 1) < 0 ∨ 4 ≤ (hx_format σ 1).toNatClampNeg then none else (if x1 < 0 ∨ 32 ≤ x1.toNatClampNeg then none else hx_b1 (f_E_addProduct σ ((hx_format σ 0).toNatClampNeg) (hx_pat σ 0 x1.toNatClampNeg) ((hx_format σ 1).toNatClampNeg) (hx_pat σ 1 x1.toNatClampNeg)) (fun q6 => some q6)))))
def f_X_productsAtOnce_28 : Nat → hx_S → Nat → Int32 → Int32 → Int32 → Option (Int32 × hx_S)
  | 0, _, _, _, _, _ => none
  | n + 1, σ, k5, x6, x7, x8 => (if x7 ≤ x8 then hx_b2 (f_D_rounded σ k5 x6) (fun r11 q10 => some (r11, q10)) else hx_b1 (f_X_addProductAt σ x8) (fun q12 => hx_n (x8 + 1) (fun x13 => ((f_X_productsAtOnce_28 n) q12 k5 x6 x7 x13))))
def f_X_productsAtOnce (σ : hx_S) (k1 : Nat) (x2 : Int32) : Option (Int32 × hx_S) := hx_n (if (hx_size σ 1) < (hx_size σ 0) then (hx_size σ 1) else (hx_size σ 0)) (fun x3 => hx_b1 (f_E_begin σ) (fun q4 => (f_X_productsAtOnce_28 hx_fuel q4 k1 x2 x3 (0 : Int32))))
def f_X_productsInPieces_116 (K31 : hx_S → Int32 → Nat → Nat → Int32 → Int32 → Int32 → Int32 → Int32 → Int32 → Option (Int32 × hx_S)) (σ : hx_S) (x33 : Int32) (k34 : Nat) (k35 : Nat) (x36 : Int32) (x37 : Int32) (x38 : Int32) (x39 : Int32) (x40 : Int32) (x41 : Int32) : Option (Int32 × hx_S) := hx_n (x41 + 1) (fun x42 => (K31 σ x33 k34 k35 x36 x37 x38 x39 x40 x42))
def f_X_productsInPieces_96 (K31 : hx_S → Int32 → Nat → Nat → Int32 → Int32 → Int32 → Int32 → Int32 → Int32 → Option (Int32 × hx_S)) (σ : hx_S) (x23 : Int32) (k24 : Nat) (k25 : Nat) (x26 : Int32) (x27 : Int32) (x28 : Int32) (x29 : Int32) (x30 : Int32) : Option (Int32 × hx_S) := hx_b2 (f_X_plus σ k24 x29 k25 x28 x26) (fun r32 q31 => (f_X_productsInPieces_116 K31 q31 x23 k24 k25 x26 x27 r32 (0 : Int32) (0 : Int32) x30))
def f_X_productsInPieces_31 : Nat → hx_S → Int32 → Nat → Nat → Int32 → Int32 → Int32 → Int32 → Int32 → Int32 → Option (Int32 × hx_S)
  | 0, _, _, _, _, _, _, _, _, _, _ => none
  | n + 1, σ, x6, k7, k8, x9, x10, x11, x12, x13, x14 => (if x10 ≤ x14 then some (x11, σ) else hx_b1 (f_E_begin σ) (fun q16 => hx_b1 (f_E_addValue q16 k7 x12 (0 : Int32)) (fun q17 => hx_b1 (f_X_addProductAt q17 x14) (fun q18 => hx_b2 (f_D_rounded q18 k7 x9) (fun r20 q19 => hx_n (x13 + 1) (fun x21 => (if x21 = x6 then (f_X_productsInPieces_96 (f_X_productsInPieces_31 n) q19 x6 k7 k8 x9 x10 x11 r20 x14) else (if x14 = (x10 - (1 : Int32)) then (f_X_productsInPieces_96 (f_X_productsInPieces_31 n) q19 x6 k7 k8 x9 x10 x11 r20 x14) else (f_X_productsInPieces_116 (f_X_productsInPieces_31 n) q19 x6 k7 k8 x9 x10 x11 r20 x21 x14)))))))))
def f_X_productsInPieces (σ : hx_S) (x1 : Int32) (k2 : Nat) (k3 : Nat) (x4 : Int32) : Option (Int32 × hx_S) := hx_n (if (hx_size σ 1) < (hx_size σ 0) then (hx_size σ 1) else (hx_size σ 0)) (fun x5 => (f_X_productsInPieces_31 hx_fuel σ x1 k2 k3 x4 x5 (0 : Int32) (0 : Int32) (0 : Int32) (0 : Int32)))
def f_X_dot (σ : hx_S) (x1 : Int32) (x2 : Int32) (x3 : Int32) (x4 : Int32) : Option (Int64 × hx_S) := (if x1 < 0 then some ((-2 : Int64), σ) else (if (32 : Int32) < x1 then some ((-2 : Int64), σ) else hx_b1 (f_X_isFormat x2) (fun r7 => (if r7 = 0 then some ((-2 : Int64), σ) else hx_b1 (f_X_isFormat x3) (fun r9 => (if r9 = 0 then some ((-2 : Int64), σ) else hx_b1 (f_X_isWay x4) (fun r11 => (if r11 = 0 then some ((-2 : Int64), σ) else (if x1 = 0 then (if x3 < 0 ∨ 4 ≤ x3.toNatClampNeg then none else hx_b2 (f_X_productsAtOnce σ x3.toNatClampNeg x4) (fun r21 q20 => hx_b1 (f_X_bits r21) (fun r22 => some (r22, q20)))) else (if x2 < 0 ∨ 4 ≤ x2.toNatClampNeg then none else (if x3 < 0 ∨ 4 ≤ x3.toNatClampNeg then none else hx_b2 (f_X_productsInPieces σ x1 x2.toNatClampNeg x3.toNatClampNeg x4) (fun r17 q16 => hx_b1 (f_X_bits r17) (fun r18 => some (r18, q16))))))))))))))
def f_X_blockScale_63 (K18 : hx_S → Nat → Nat → Int32 → Int32 → Option Int32) (σ : hx_S) (k15 : Nat) (k16 : Nat) (x17 : Int32) (x18 : Int32) : Option Int32 := hx_n (x18 + 1) (fun x19 => (K18 σ k15 k16 x17 x19))
def f_X_blockScale_18 : Nat → hx_S → Nat → Nat → Int32 → Int32 → Option Int32
  | 0, _, _, _, _, _ => none
  | n + 1, σ, k3, k4, x5, x6 => (if (hx_size σ 0) ≤ x6 then (if x5 = 0 then some (0 : Int32) else hx_b1 (f_F_topOf (hx_fm σ k4) x5) (fun r9 => hx_b1 (f_F_topOf (hx_fm σ k3) ((hx_fm_limit (hx_fm σ k3)) - (1 : Int32))) (fun r10 => some (r9 - r10)))) else (if x6 < 0 ∨ 32 ≤ x6.toNatClampNeg then none else hx_n (hx_pat σ 0 x6.toNatClampNeg) (fun x12 => hx_b1 (f_F_sortOf (hx_fm σ k4) x12) (fun r13 => (if (3 : Int32) ≤ r13 then (f_X_blockScale_63 (f_X_blockScale_18 n) σ k3 k4 x5 x6) else hx_b1 (f_F_unsigned (hx_fm σ k4) x12) (fun r20 => hx_n (if x5 < r20 then r20 else x5) (fun x21 => (f_X_blockScale_63 (f_X_blockScale_18 n) σ k3 k4 x21 x6))))))))
def f_X_blockScale (σ : hx_S) (k1 : Nat) : Option Int32 := (if (hx_format σ 0) < 0 ∨ 4 ≤ (hx_format σ 0).toNatClampNeg then none else (f_X_blockScale_18 hx_fuel σ k1 ((hx_format σ 0).toNatClampNeg) (0 : Int32) (0 : Int32)))
def f_X_scale (σ : hx_S) (x1 : Int32) : Option Int32 := hx_b1 (f_X_isFormat x1) (fun r2 => (if r2 = 0 then some (1000000 : Int32) else (if x1 < 0 ∨ 4 ≤ x1.toNatClampNeg then none else hx_b1 (f_X_blockScale σ x1.toNatClampNeg) (fun r5 => some r5))))
def f_X_element (σ : hx_S) (x1 : Int32) (x2 : Int32) : Option (Int64 × hx_S) := hx_b1 (f_X_isFormat x1) (fun r3 => (if r3 = 0 then some ((-2 : Int64), σ) else hx_b1 (f_R_has (hx_rw σ (0)) x2) (fun r5 => (if r5 = 0 then some ((-2 : Int64), σ) else (if x1 < 0 ∨ 4 ≤ x1.toNatClampNeg then none else hx_b1 (f_X_blockScale σ x1.toNatClampNeg) (fun r8 => hx_n (-r8) (fun x9 => (if (hx_format σ 0) < 0 ∨ 4 ≤ (hx_format σ 0).toNatClampNeg then none else (if x2 < 0 ∨ 32 ≤ x2.toNatClampNeg then none else (if x1 < 0 ∨ 4 ≤ x1.toNatClampNeg then none else hx_b2 (f_D_turned σ ((hx_format σ 0).toNatClampNeg) (hx_pat σ 0 x2.toNatClampNeg) x9 x1.toNatClampNeg (0 : Int32)) (fun r14 q13 => hx_b1 (f_X_bits r14) (fun r15 => some (r15, q13)))))))))))))
def f_X_scaler (σ : hx_S) (x1 : Int32) (x2 : Int32) : Option (Int32 × hx_S) := (if x1 < (-60 : Int32) then some ((-2 : Int32), σ) else (if (60 : Int32) < x1 then some ((-2 : Int32), σ) else (if x2 < (1 : Int32) then some ((-2 : Int32), σ) else (if x2 ≤ (100 : Int32) then hx_n (hx_shift_s σ x1) (fun σ7 => hx_n (hx_goal_s σ7 x2) (fun σ8 => hx_n (hx_streak_s σ8 (0 : Int32)) (fun σ9 => some ((1 : Int32), σ9)))) else some ((-2 : Int32), σ)))))
def f_X_slopesBroke_15 : Nat → hx_S → Nat → Int32 → Option Int32
  | 0, _, _, _ => none
  | n + 1, σ, k2, x3 => (if (hx_size σ 0) ≤ x3 then some (0 : Int32) else (if x3 < 0 ∨ 32 ≤ x3.toNatClampNeg then none else hx_b1 (f_F_sortOf (hx_fm σ k2) (hx_pat σ 0 x3.toNatClampNeg)) (fun r6 => (if r6 < (3 : Int32) then hx_n (x3 + 1) (fun x8 => ((f_X_slopesBroke_15 n) σ k2 x8)) else some (1 : Int32)))))
def f_X_slopesBroke (σ : hx_S) : Option Int32 := (if (hx_format σ 0) < 0 ∨ 4 ≤ (hx_format σ 0).toNatClampNeg then none else (f_X_slopesBroke_15 hx_fuel σ ((hx_format σ 0).toNatClampNeg) (0 : Int32)))
def f_X_stepped (σ : hx_S) (x1 : Int32) (x2 : Int32) (x3 : Int32) : Option (Int32 × hx_S) := (if (hx_format σ 1) < 0 ∨ 4 ≤ (hx_format σ 1).toNatClampNeg then none else (if (hx_format σ 0) < 0 ∨ 4 ≤ (hx_format σ 0).toNatClampNeg then none else hx_b2 (f_D_turned σ ((hx_format σ 0).toNatClampNeg) x3 (-(hx_shift σ)) ((hx_format σ 1).toNatClampNeg) (0 : Int32)) (fun r7 q6 => hx_b1 (f_E_begin q6) (fun q8 => hx_b1 (f_F_turnedOver (hx_fm q8 ((hx_format σ 1).toNatClampNeg)) x2) (fun r9 => hx_b1 (f_E_addProduct q8 ((hx_format σ 1).toNatClampNeg) r9 ((hx_format σ 1).toNatClampNeg) r7) (fun q10 => hx_b2 (f_D_rounded q10 ((hx_format σ 1).toNatClampNeg) (0 : Int32)) (fun r12 q11 => hx_b2 (f_X_plus q11 ((hx_format σ 1).toNatClampNeg) x1 ((hx_format σ 1).toNatClampNeg) r12 (0 : Int32)) (fun r14 q13 => some (r14, q13)))))))))
def f_X_step_67 : Nat → hx_S → Int32 → Int32 → Int32 → Option (Int32 × hx_S)
  | 0, _, _, _, _ => none
  | n + 1, σ, x7, x8, x9 => (if x8 ≤ x9 then hx_n ((hx_streak σ) + (1 : Int32)) (fun x11 => hx_n (hx_streak_s σ x11) (fun σ12 => (if (hx_streak σ12) < (hx_goal σ12) then some ((1 : Int32), σ12) else hx_n (if (60 : Int32) < ((hx_shift σ12) + (1 : Int32)) then (60 : Int32) else ((hx_shift σ12) + (1 : Int32))) (fun x14 => hx_n (hx_shift_s σ12 x14) (fun σ15 => hx_n (hx_streak_s σ15 (0 : Int32)) (fun σ16 => some ((1 : Int32), σ16))))))) else (if x9 < 0 ∨ 32 ≤ x9.toNatClampNeg then none else (if x9 < 0 ∨ 32 ≤ x9.toNatClampNeg then none else hx_b2 (f_X_stepped σ (hx_pat σ 1 x9.toNatClampNeg) x7 (hx_pat σ 0 x9.toNatClampNeg)) (fun r20 q19 => (if x9 < 0 ∨ 32 ≤ x9.toNatClampNeg then none else hx_n (hx_pat_s q19 1 x9.toNatClampNeg r20) (fun σ22 => hx_n (x9 + 1) (fun x23 => ((f_X_step_67 n) σ22 x7 x8 x23))))))))
def f_X_step (σ : hx_S) (x1 : Int32) : Option (Int32 × hx_S) := hx_b1 (f_X_isPattern σ (hx_format σ 1) x1) (fun r2 => (if r2 = 0 then some ((-2 : Int32), σ) else hx_b1 (f_X_slopesBroke σ) (fun r4 => (if r4 = 0 then hx_n (if (hx_size σ 1) < (hx_size σ 0) then (hx_size σ 1) else (hx_size σ 0)) (fun x6 => (f_X_step_67 hx_fuel σ x1 x6 (0 : Int32))) else hx_n (if ((hx_shift σ) - (1 : Int32)) < (-60 : Int32) then (-60 : Int32) else ((hx_shift σ) - (1 : Int32))) (fun x24 => hx_n (hx_shift_s σ x24) (fun σ25 => hx_n (hx_streak_s σ25 (0 : Int32)) (fun σ26 => some ((0 : Int32), σ26))))))))
def f_X_comesBack (σ : hx_S) (k1 : Nat) (x2 : Int32) (k3 : Nat) (x4 : Int32) : Option (Int32 × hx_S) := hx_b1 (f_F_sortOf (hx_fm σ k1) x2) (fun r5 => (if r5 = (4 : Int32) then some ((0 : Int32), σ) else hx_b2 (f_D_turned σ k1 x2 (0 : Int32) k3 x4) (fun r8 q7 => hx_b2 (f_D_turned q7 k3 r8 (0 : Int32) k1 x4) (fun r10 q9 => (if r10 = x2 then some ((1 : Int32), q9) else some ((0 : Int32), q9))))))
def f_X_kept_103 (K71 : hx_S → Int32 → Int32 → Int32 → Int32 → Int32 → Int32 → Int32 → Option (Int32 × hx_S)) (σ : hx_S) (x29 : Int32) (x30 : Int32) (x31 : Int32) (x32 : Int32) (x33 : Int32) (x34 : Int32) (x35 : Int32) : Option (Int32 × hx_S) := hx_n (x35 + 1) (fun x36 => (K71 σ x29 x30 x31 x32 x33 x34 x36))
def f_X_kept_71 : Nat → hx_S → Int32 → Int32 → Int32 → Int32 → Int32 → Int32 → Int32 → Option (Int32 × hx_S)
  | 0, _, _, _, _, _, _, _, _ => none
  | n + 1, σ, x15, x16, x17, x18, x19, x20, x21 => (if x19 ≤ x21 then hx_n (hx_rd_raised_s σ x18) (fun σ23 => some (x20, σ23)) else (if x15 < 0 ∨ 4 ≤ x15.toNatClampNeg then none else (if x16 < 0 ∨ 4 ≤ x16.toNatClampNeg then none else hx_b2 (f_X_comesBack σ x15.toNatClampNeg x21 x16.toNatClampNeg x17) (fun r27 q26 => (if r27 = 0 then (f_X_kept_103 (f_X_kept_71 n) q26 x15 x16 x17 x18 x19 x20 x21) else hx_n (x20 + 1) (fun x37 => (f_X_kept_103 (f_X_kept_71 n) q26 x15 x16 x17 x18 x19 x37 x21)))))))
def f_X_kept (σ : hx_S) (x1 : Int32) (x2 : Int32) (x3 : Int32) : Option (Int32 × hx_S) := hx_b1 (f_X_isFormat x1) (fun r4 => (if r4 = 0 then some ((-2 : Int32), σ) else hx_b1 (f_X_isFormat x2) (fun r6 => (if r6 = 0 then some ((-2 : Int32), σ) else (if x3 < 0 then some ((-2 : Int32), σ) else (if x3 < (5 : Int32) then (if x1 < 0 ∨ 4 ≤ x1.toNatClampNeg then none else (if (hx_fm_width (hx_fm σ x1.toNatClampNeg)) ≤ (11 : Int32) then hx_n (hx_rd_raised σ) (fun x12 => (if x1 < 0 ∨ 4 ≤ x1.toNatClampNeg then none else hx_n ((2 : Int32) <<< ((hx_fm_width (hx_fm σ x1.toNatClampNeg)) &&& 31)) (fun x14 => (f_X_kept_71 hx_fuel σ x1 x2 x3 x12 x14 (0 : Int32) (0 : Int32))))) else some ((-2 : Int32), σ))) else some ((-2 : Int32), σ)))))))
abbrev m_X_plus : Room := { frames := 5, cells := 0, slots := 0, locals := 112 }
set_option maxHeartbeats 4000000 in
set_option maxRecDepth 100000 in
theorem c_X_plus (l : Launch) (D : va_G) (T3 : hx_T3) (ad : Nat → Nat) (sz : Nat) (σ : hx_S) (k1 : Nat) (x2 : Int32) (k3 : Nat) (x4 : Int32) (x5 : Int32) (hk1 : k1 < 4) (hk3 : k3 < 4) (r0 : Int32) (σ0 : hx_S) (h : f_X_plus σ k1 x2 k3 x4 x5 = some (r0, σ0)) : hx_Wi l D (hx_ty T3) y_X_plus w_X_plus m_X_plus [.ref (ad 0), .ref (ad (2 + k1)), .int x2, .ref (ad (2 + k3)), .int x4, .int x5] sz (hx_W T3 ad σ) r0 (hx_W T3 ad σ0) := by
  refine Met.ofW (cc := b_X_plus) (maxL := 6) (ret := (some .int)) (by decide) rfl ?_
  intro p e s m args below meth c s₁ B hml hv
  obtain ⟨hargs, hsz, hP, hK, hD0⟩ := hv
  have hx := B.exec
  have hb := B.bytes
  have hr := B.returns
  have hts := atoms_spec (ws := w_X_plus) B.pre
  have hown : s.vm.findClass "HalfFloats" = some m.cls := findClass_of_methodNamed B.named
  have hlocks := B.notSynchronized
  subst hsz
  have hD := hD0.self (sz := s.heap.size)
  generalize hAe : va_A (hx_W T3 ad σ) s.heap.size = A at hD ⊢
  have hA : ∀ q : Nat, s.heap.size ≤ q → A q := fun q h => by rw [← hAe]; exact Or.inr h
  have hS : va_S A s.heap s.heap [] := va_S.rf
  refine W.eq (g2 := F0 m 0 ((lg_sl [.ref (ad 0), .ref (ad (2 + k1)), .int x2, .ref (ad (2 + k3)), .int x4, .int x5] ++ List.replicate (6 - (lg_sl [.ref (ad 0), .ref (ad (2 + k1)), .int x2, .ref (ad (2 + k3)), .int x4, .int x5]).length) Slot.unset).toArray) []) (by rw [hargs, lg_entry_eq]) ?_
  have hl := lv_entry ([.ref (ad 0), .ref (ad (2 + k1)), .int x2, .ref (ad (2 + k3)), .int x4, .int x5]) (n := 6) (Nat.le_of_ble_eq_true rfl)
  generalize (lg_sl ([.ref (ad 0), .ref (ad (2 + k1)), .int x2, .ref (ad (2 + k3)), .int x4, .int x5]) ++ List.replicate (6 - (lg_sl ([.ref (ad 0), .ref (ad (2 + k1)), .int x2, .ref (ad (2 + k3)), .int x4, .int x5])).length) Slot.unset).toArray = ls at hl ⊢
  have hl : lv_has ls 6 [(0, .ref (ad 0)), (1, .ref (ad (2 + k1))), (2, .int x2), (3, .ref (ad (2 + k3))), (4, .int x4), (5, .int x5)] := hl
  rw [f_X_plus] at h
  refine lv_aload_n hx hb d_X_plus_0 rfl (lv_at hl 0 rfl) ?_
  refine va_get (D := D) (ci := 0) (v := .ref (ad 10)) (C := "HalfFloats") (T := T_X) (N := 9) hx hb hts (hx_up in_X) hown hK hP (0) hx_at_X rfl 3 (by decide) (hts _ (hx_cons _ k_207)) (fun _ h9 => h9) rfl d_X_plus_1 ?_
  obtain ⟨q6, eq6, h⟩ := hx_b1s h
  refine hx_wv (va_runV (As := []) (rest := []) ⟨hx, hb, hml, hown, hts⟩ (c_E_begin l D T3 ad _ σ _ eq6) (cwV 0 hts (hx_gV hx_cons k_350 k_351 k_352 k_53 k_353) rfl rfl rfl (by decide +kernel) ⟨Nat.le_of_ble_eq_true rfl, Nat.le_of_ble_eq_true rfl⟩) (hx_preVw (va_recv hK hP (ci := 3) (q0 := 10) rfl hx_at_E) hP hK hD) rfl rfl hl.1 rfl (lv_room (Nat.le_of_ble_eq_true rfl)) d_X_plus_4 ⟨Nat.zero_le _, Nat.zero_le _⟩) hD hS hA (fun H locs hP hD hS => ?_)
  refine lv_aload_n hx hb d_X_plus_7 rfl (lv_at hl 0 rfl) ?_
  refine va_get (D := D) (ci := 0) (v := .ref (ad 10)) (C := "HalfFloats") (T := T_X) (N := 9) hx hb hts (hx_up in_X) hown hK hP (0) hx_at_X rfl 3 (by decide) (hts _ (hx_cons _ k_207)) (fun _ h9 => h9) rfl d_X_plus_8 ?_
  refine lv_aload_n hx hb d_X_plus_11 rfl (lv_at hl 1 rfl) ?_
  refine lv_iload_n hx hb d_X_plus_12 rfl (lv_at hl 2 rfl) ?_
  refine lv_iconst (v := 0) hx hb d_X_plus_13 (by decide) ?_
  obtain ⟨q7, eq7, h⟩ := hx_b1s h
  refine hx_wv (va_runV (As := [.ref (ad (2 + k1)), .int x2, .int (0 : Int32)]) (rest := []) ⟨hx, hb, hml, hown, hts⟩ (c_E_addValue l D T3 ad _ q6 k1 x2 (0 : Int32) hk1 _ eq7) (cwV 3 hts (hx_gV hx_cons k_379 k_380 k_381 k_53 k_382) rfl rfl rfl (by decide +kernel) ⟨Nat.le_of_ble_eq_true rfl, Nat.le_of_ble_eq_true rfl⟩) (hx_preVw (va_recv hK hP (ci := 3) (q0 := 10) rfl hx_at_E) hP hK hD) rfl rfl hl.1 rfl (lv_room (Nat.le_of_ble_eq_true rfl)) d_X_plus_14 ⟨Nat.zero_le _, Nat.zero_le _⟩) hD hS hA (fun H locs hP hD hS => ?_)
  refine lv_aload_n hx hb d_X_plus_17 rfl (lv_at hl 0 rfl) ?_
  refine va_get (D := D) (ci := 0) (v := .ref (ad 10)) (C := "HalfFloats") (T := T_X) (N := 9) hx hb hts (hx_up in_X) hown hK hP (0) hx_at_X rfl 3 (by decide) (hts _ (hx_cons _ k_207)) (fun _ h9 => h9) rfl d_X_plus_18 ?_
  refine lv_aload_n hx hb d_X_plus_21 rfl (lv_at hl 3 rfl) ?_
  refine lv_iload hx hb d_X_plus_22 (lv_at hl 4 rfl) ?_
  refine lv_iconst (v := 0) hx hb d_X_plus_24 (by decide) ?_
  obtain ⟨q8, eq8, h⟩ := hx_b1s h
  refine hx_wv (va_runV (As := [.ref (ad (2 + k3)), .int x4, .int (0 : Int32)]) (rest := []) ⟨hx, hb, hml, hown, hts⟩ (c_E_addValue l D T3 ad _ q7 k3 x4 (0 : Int32) hk3 _ eq8) (cwV 3 hts (hx_gV hx_cons k_379 k_380 k_381 k_53 k_382) rfl rfl rfl (by decide +kernel) ⟨Nat.le_of_ble_eq_true rfl, Nat.le_of_ble_eq_true rfl⟩) (hx_preVw (va_recv hK hP (ci := 3) (q0 := 10) rfl hx_at_E) hP hK hD) rfl rfl hl.1 rfl (lv_room (Nat.le_of_ble_eq_true rfl)) d_X_plus_25 ⟨Nat.zero_le _, Nat.zero_le _⟩) hD hS hA (fun H locs hP hD hS => ?_)
  refine lv_aload_n hx hb d_X_plus_28 rfl (lv_at hl 0 rfl) ?_
  refine va_get (D := D) (ci := 0) (v := .ref (ad 12)) (C := "HalfFloats") (T := T_X) (N := 9) hx hb hts (hx_up in_X) hown hK hP (0) hx_at_X rfl 4 (by decide) (hts _ (hx_cons _ k_208)) (fun _ h9 => h9) rfl d_X_plus_29 ?_
  refine lv_aload_n hx hb d_X_plus_32 rfl (lv_at hl 0 rfl) ?_
  refine va_get (D := D) (ci := 0) (v := .ref (ad 10)) (C := "HalfFloats") (T := T_X) (N := 9) hx hb hts (hx_up in_X) hown hK hP (0) hx_at_X rfl 3 (by decide) (hts _ (hx_cons _ k_207)) (fun _ h9 => h9) rfl d_X_plus_33 ?_
  refine lv_aload_n hx hb d_X_plus_36 rfl (lv_at hl 3 rfl) ?_
  refine lv_iload hx hb d_X_plus_37 (lv_at hl 5 rfl) ?_
  obtain ⟨r10, q9, eq9, h⟩ := hx_b2s h
  refine hx_wi (va_runV (As := [.ref (ad 10), .ref (ad (2 + k3)), .int x5]) (rest := []) ⟨hx, hb, hml, hown, hts⟩ (c_D_rounded l D T3 ad _ q8 k3 x5 hk3 _ _ eq9) (cwV 3 hts (hx_gV hx_cons k_383 k_384 k_385 k_54 k_386) rfl rfl rfl (by decide +kernel) ⟨Nat.le_of_ble_eq_true rfl, Nat.le_of_ble_eq_true rfl⟩) (hx_preVw (va_recv hK hP (ci := 4) (q0 := 12) rfl hx_at_D) hP hK hD) rfl rfl hl.1 rfl (lv_room (Nat.le_of_ble_eq_true rfl)) d_X_plus_39 ⟨Nat.zero_le _, Nat.zero_le _⟩) hD hS hA (fun H locs hP hD hS => ?_)
  exact W.iret hx hb hr (fun t ht hW => hx_endi h ht hW hP hK hD hS) hS.2.2 d_X_plus_42
abbrev m_X_sumFromLeft : Room := { frames := 6, cells := 0, slots := 0, locals := 137 }
set_option maxHeartbeats 4000000 in
set_option maxRecDepth 100000 in
theorem c_X_sumFromLeft (l : Launch) (D : va_G) (T3 : hx_T3) (ad : Nat → Nat) (sz : Nat) (σ : hx_S) (k1 : Nat) (k2 : Nat) (x3 : Int32) (hk1 : k1 < 2) (hk2 : k2 < 4) (r0 : Int32) (σ0 : hx_S) (h : f_X_sumFromLeft σ k1 k2 x3 = some (r0, σ0)) : hx_Wi l D (hx_ty T3) y_X_sumFromLeft w_X_sumFromLeft m_X_sumFromLeft [.ref (ad 0), .ref (ad (6 + 2 * k1)), .ref (ad (2 + k2)), .int x3] sz (hx_W T3 ad σ) r0 (hx_W T3 ad σ0) := by
  refine Met.ofW (cc := b_X_sumFromLeft) (maxL := 7) (ret := (some .int)) (by decide) rfl ?_
  intro p e s m args below meth c s₁ B hml hv
  obtain ⟨hargs, hsz, hP, hK, hD0⟩ := hv
  have hx := B.exec
  have hb := B.bytes
  have hr := B.returns
  have hts := atoms_spec (ws := w_X_sumFromLeft) B.pre
  have hown : s.vm.findClass "HalfFloats" = some m.cls := findClass_of_methodNamed B.named
  have hlocks := B.notSynchronized
  subst hsz
  have hD := hD0.self (sz := s.heap.size)
  generalize hAe : va_A (hx_W T3 ad σ) s.heap.size = A at hD ⊢
  have hA : ∀ q : Nat, s.heap.size ≤ q → A q := fun q h => by rw [← hAe]; exact Or.inr h
  have hS : va_S A s.heap s.heap [] := va_S.rf
  have B_43 : ∀ (n : Nat), ∀ (σ : hx_S) (k9 : Nat) (k10 : Nat) (x11 : Int32) (k12 : Nat) (x13 : Int32) (x14 : Int32) (H : Heap) (locs : List Loc) (ls : Array Slot), va_P D vwCl (hx_W T3 ad σ) H → va_D A (hx_W T3 ad σ) → va_S A s.heap H locs → k9 < 2 → k10 < 4 → k12 < 4 → lv_has ls 7 [(0, .ref (ad 0)), (1, .ref (ad (6 + 2 * k9))), (2, .ref (ad (2 + k10))), (3, .int x11), (4, .ref (ad (2 + k12))), (5, .int x13), (6, .int x14)] → f_X_sumFromLeft_43 n σ k9 k10 x11 k12 x13 x14 = some (r0, σ0) → W p l e (headSpec w_X_sumFromLeft m_X_sumFromLeft).room s m args below meth c H locs 0 0 (MQ below (hx_Qi D (hx_ty T3) A r0 (hx_W T3 ad σ0)) args s 0 0 A) (F0 m 43 ls []) := by
    intro n
    induction n with
    | zero =>
      intro σ k9 k10 x11 k12 x13 x14 H locs ls hP hD hS hk9 hk10 hk12 hl h
      rw [f_X_sumFromLeft_43] at h
      cases h
    | succ n ih =>
        intro σ k9 k10 x11 k12 x13 x14 H locs ls hP hD hS hk9 hk10 hk12 hl h
        rw [f_X_sumFromLeft_43] at h
        refine lv_iload hx hb d_X_sumFromLeft_43 (lv_at hl 6 rfl) ?_
        refine lv_aload_n hx hb d_X_sumFromLeft_45 rfl (lv_at hl 1 rfl) ?_
        refine va_get (D := D) (ci := 2) (v := .int (hx_size σ k9)) (C := "HalfFloats$Row") (T := T_R) (N := 3) hx hb hts (hx_up in_R) hown hK hP (6 + 2 * k9) (hx_at_R hk9) rfl 1 (by decide) (hts _ (hx_cons _ k_125)) (fun _ h9 => h9) rfl d_X_sumFromLeft_46 ?_
        refine lv_icmp_ge (tgt := 77) hx hb d_X_sumFromLeft_49 (by decide) (fun c15 => ?_) (fun c15 => ?_)
        · replace h := hx_ip c15 h
          refine lv_iload hx hb d_X_sumFromLeft_77 (lv_at hl 5 rfl) ?_
          exact W.iret hx hb hr (fun t ht hW => hx_endi h ht hW hP hK hD hS) hS.2.2 d_X_sumFromLeft_79
        · replace h := hx_in c15 h
          refine lv_aload_n hx hb d_X_sumFromLeft_52 rfl (lv_at hl 0 rfl) ?_
          refine lv_aload hx hb d_X_sumFromLeft_53 (lv_at hl 4 rfl) ?_
          refine lv_aload_n hx hb d_X_sumFromLeft_55 rfl (lv_at hl 1 rfl) ?_
          refine va_get (D := D) (ci := 2) (v := .ref (ad (7 + 2 * k9))) (C := "HalfFloats$Row") (T := T_R) (N := 3) hx hb hts (hx_up in_R) hown hK hP (6 + 2 * k9) (hx_at_R hk9) rfl 0 (by decide) (hts _ (hx_cons _ k_123)) (fun _ h9 => h9) rfl d_X_sumFromLeft_56 ?_
          refine lv_iload hx hb d_X_sumFromLeft_59 (lv_at hl 6 rfl) ?_
          obtain ⟨g16, h⟩ := hx_gs h
          refine va_iald hx hb hK hP (7 + 2 * k9) 1 (hx_at_RP hk9) rfl g16 d_X_sumFromLeft_61 ?_
          refine lv_aload_n hx hb d_X_sumFromLeft_62 rfl (lv_at hl 2 rfl) ?_
          refine lv_iload hx hb d_X_sumFromLeft_63 (lv_at hl 5 rfl) ?_
          refine lv_iload_n hx hb d_X_sumFromLeft_65 rfl (lv_at hl 3 rfl) ?_
          obtain ⟨r18, q17, eq17, h⟩ := hx_b2s h
          refine hx_wi (va_runV (As := [.ref (ad (2 + k12)), .int (hx_pat σ k9 x14.toNatClampNeg), .ref (ad (2 + k10)), .int x13, .int x11]) (rest := []) ⟨hx, hb, hml, hown, hts⟩ (c_X_plus l D T3 ad _ σ k12 (hx_pat σ k9 x14.toNatClampNeg) k10 x13 x11 hk12 hk10 _ _ eq17) (cwV 5 hts (hx_gV hx_cons k_462 k_464 k_11 k_50 k_465) rfl rfl rfl (by decide +kernel) ⟨Nat.le_of_ble_eq_true rfl, Nat.le_of_ble_eq_true rfl⟩) (hx_preVw (va_recv hK hP (ci := 0) (q0 := 0) rfl hx_at_X) hP hK hD) rfl rfl hl.1 rfl (lv_room (Nat.le_of_ble_eq_true rfl)) d_X_sumFromLeft_66 ⟨Nat.zero_le _, Nat.zero_le _⟩) hD hS hA (fun H locs hP hD hS => ?_)
          refine lv_istore (lv' := [(5, .int r18), (0, .ref (ad 0)), (1, .ref (ad (6 + 2 * k9))), (2, .ref (ad (2 + k10))), (3, .int x11), (4, .ref (ad (2 + k12))), (6, .int x14)]) hx hb d_X_sumFromLeft_69 hl (by decide) rfl (fun ls hl => ?_)
          obtain ⟨x19, ex19⟩ : ∃ y : Int32, y = x14 + 1 := ⟨_, rfl⟩
          replace h := hx_ns ex19 h
          refine lv_iinc (v := x19) (lv' := [(6, .int x19), (5, .int r18), (0, .ref (ad 0)), (1, .ref (ad (6 + 2 * k9))), (2, .ref (ad (2 + k10))), (3, .int x11), (4, .ref (ad (2 + k12)))]) hx hb d_X_sumFromLeft_71 hl (k := 6) rfl (by rw [ex19]; rfl) (by decide) rfl (fun ls hl => ?_)
          clear ex19
          refine lv_goto (tgt := 43) hx hb d_X_sumFromLeft_74 (by decide) ?_
          exact ih q17 k9 k10 x11 k12 r18 x19 _ _ ls hP hD hS hk9 hk10 hk12 (lv_sub hl [2, 3, 4, 5, 6, 1, 0] rfl) h
  refine W.eq (g2 := F0 m 0 ((lg_sl [.ref (ad 0), .ref (ad (6 + 2 * k1)), .ref (ad (2 + k2)), .int x3] ++ List.replicate (7 - (lg_sl [.ref (ad 0), .ref (ad (6 + 2 * k1)), .ref (ad (2 + k2)), .int x3]).length) Slot.unset).toArray) []) (by rw [hargs, lg_entry_eq]) ?_
  have hl := lv_entry ([.ref (ad 0), .ref (ad (6 + 2 * k1)), .ref (ad (2 + k2)), .int x3]) (n := 7) (Nat.le_of_ble_eq_true rfl)
  generalize (lg_sl ([.ref (ad 0), .ref (ad (6 + 2 * k1)), .ref (ad (2 + k2)), .int x3]) ++ List.replicate (7 - (lg_sl ([.ref (ad 0), .ref (ad (6 + 2 * k1)), .ref (ad (2 + k2)), .int x3])).length) Slot.unset).toArray = ls at hl ⊢
  have hl : lv_has ls 7 [(0, .ref (ad 0)), (1, .ref (ad (6 + 2 * k1))), (2, .ref (ad (2 + k2))), (3, .int x3)] := hl
  rw [f_X_sumFromLeft] at h
  refine lv_aload_n hx hb d_X_sumFromLeft_0 rfl (lv_at hl 1 rfl) ?_
  refine va_get (D := D) (ci := 2) (v := .int (hx_size σ k1)) (C := "HalfFloats$Row") (T := T_R) (N := 3) hx hb hts (hx_up in_R) hown hK hP (6 + 2 * k1) (hx_at_R hk1) rfl 1 (by decide) (hts _ (hx_cons _ k_125)) (fun _ h9 => h9) rfl d_X_sumFromLeft_1 ?_
  refine lv_if_ne (tgt := 9) hx hb d_X_sumFromLeft_4 (by decide) (fun c4 => ?_) (fun c4 => ?_)
  · replace h := hx_in c4 h
    refine lv_aload_n hx hb d_X_sumFromLeft_9 rfl (lv_at hl 0 rfl) ?_
    refine va_get (D := D) (ci := 0) (v := .ref (ad 1)) (C := "HalfFloats") (T := T_X) (N := 9) hx hb hts (hx_up in_X) hown hK hP (0) hx_at_X rfl 0 (by decide) (hts _ (hx_cons _ k_204)) (fun _ h9 => h9) rfl d_X_sumFromLeft_10 ?_
    refine lv_aload_n hx hb d_X_sumFromLeft_13 rfl (lv_at hl 1 rfl) ?_
    refine va_get (D := D) (ci := 2) (v := .int (hx_format σ k1)) (C := "HalfFloats$Row") (T := T_R) (N := 3) hx hb hts (hx_up in_R) hown hK hP (6 + 2 * k1) (hx_at_R hk1) rfl 2 (by decide) (hts _ (hx_cons _ k_127)) (fun _ h9 => h9) rfl d_X_sumFromLeft_14 ?_
    obtain ⟨g5, h⟩ := hx_gs h
    refine va_aldq hx hb hK hP (1) 0 hx_at_FA rfl g5 d_X_sumFromLeft_17 ?_
    refine lv_astore (lv' := [(4, .ref (ad (2 + (hx_format σ k1).toNatClampNeg))), (0, .ref (ad 0)), (1, .ref (ad (6 + 2 * k1))), (2, .ref (ad (2 + k2))), (3, .int x3)]) hx hb d_X_sumFromLeft_18 hl (by decide) rfl (fun ls hl => ?_)
    refine lv_aload_n hx hb d_X_sumFromLeft_20 rfl (lv_at hl 1 rfl) ?_
    refine va_get (D := D) (ci := 0) (v := .ref (ad 12)) (C := "HalfFloats") (T := T_X) (N := 9) hx hb hts (hx_up in_X) hown hK hP (0) hx_at_X rfl 4 (by decide) (hts _ (hx_cons _ k_208)) (fun _ h9 => h9) rfl d_X_sumFromLeft_21 ?_
    refine lv_aload hx hb d_X_sumFromLeft_24 (lv_at hl 0 rfl) ?_
    refine lv_aload_n hx hb d_X_sumFromLeft_26 rfl (lv_at hl 2 rfl) ?_
    refine va_get (D := D) (ci := 2) (v := .ref (ad (7 + 2 * k1))) (C := "HalfFloats$Row") (T := T_R) (N := 3) hx hb hts (hx_up in_R) hown hK hP (6 + 2 * k1) (hx_at_R hk1) rfl 0 (by decide) (hts _ (hx_cons _ k_123)) (fun _ h9 => h9) rfl d_X_sumFromLeft_27 ?_
    refine lv_iconst (v := 0) hx hb d_X_sumFromLeft_30 (by decide) ?_
    obtain ⟨g6, h⟩ := hx_gs h
    refine va_iald hx hb hK hP (7 + 2 * k1) 1 (hx_at_RP hk1) rfl g6 d_X_sumFromLeft_31 ?_
    refine lv_iconst (v := 0) hx hb d_X_sumFromLeft_32 (by decide) ?_
    refine lv_aload_n hx hb d_X_sumFromLeft_33 rfl (lv_at hl 3 rfl) ?_
    refine lv_iload_n hx hb d_X_sumFromLeft_34 rfl (lv_at hl 4 rfl) ?_
    obtain ⟨r8, q7, eq7, h⟩ := hx_b2s h
    refine hx_wi (va_runV (As := [.ref (ad (2 + (hx_format σ k1).toNatClampNeg)), .int (hx_pat σ k1 (0 : Int32).toNatClampNeg), .int (0 : Int32), .ref (ad (2 + k2)), .int x3]) (rest := []) ⟨hx, hb, hml, hown, hts⟩ (c_D_turned l D T3 ad _ σ ((hx_format σ k1).toNatClampNeg) (hx_pat σ k1 (0 : Int32).toNatClampNeg) (0 : Int32) k2 x3 (hx_lt g5) hk2 _ _ eq7) (cwV 5 hts (hx_gV hx_cons k_292 k_293 k_294 k_54 k_295) rfl rfl rfl (by decide +kernel) ⟨Nat.le_of_ble_eq_true rfl, Nat.le_of_ble_eq_true rfl⟩) (hx_preVw (va_recv hK hP (ci := 4) (q0 := 12) rfl hx_at_D) hP hK hD) rfl rfl hl.1 rfl (lv_room (Nat.le_of_ble_eq_true rfl)) d_X_sumFromLeft_35 ⟨Nat.zero_le _, Nat.zero_le _⟩) hD hS hA (fun H locs hP hD hS => ?_)
    refine lv_istore (lv' := [(5, .int r8), (4, .ref (ad (2 + (hx_format σ k1).toNatClampNeg))), (0, .ref (ad 0)), (1, .ref (ad (6 + 2 * k1))), (2, .ref (ad (2 + k2))), (3, .int x3)]) hx hb d_X_sumFromLeft_38 hl (by decide) rfl (fun ls hl => ?_)
    refine lv_iconst (v := 1) hx hb d_X_sumFromLeft_40 (by decide) ?_
    refine lv_istore (lv' := [(6, .int (1 : Int32)), (5, .int r8), (4, .ref (ad (2 + (hx_format σ k1).toNatClampNeg))), (0, .ref (ad 0)), (1, .ref (ad (6 + 2 * k1))), (2, .ref (ad (2 + k2))), (3, .int x3)]) hx hb d_X_sumFromLeft_41 hl (by decide) rfl (fun ls hl => ?_)
    exact B_43 hx_fuel q7 k1 k2 x3 ((hx_format σ k1).toNatClampNeg) r8 (1 : Int32) _ _ ls hP hD hS hk1 hk2 (hx_lt g5) (lv_sub hl [3, 4, 5, 6, 2, 1, 0] rfl) h
  · replace h := hx_ip c4 h
    refine lv_iconst (v := 0) hx hb d_X_sumFromLeft_7 (by decide) ?_
    exact W.iret hx hb hr (fun t ht hW => hx_endi h ht hW hP hK hD hS) hS.2.2 d_X_sumFromLeft_8
abbrev m_X_pairUp : Room := { frames := 6, cells := 0, slots := 0, locals := 137 }
set_option maxHeartbeats 4000000 in
set_option maxRecDepth 100000 in
theorem c_X_pairUp (l : Launch) (D : va_G) (T3 : hx_T3) (ad : Nat → Nat) (sz : Nat) (σ : hx_S) (x1 : Int32) (k2 : Nat) (x3 : Int32) (hk2 : k2 < 4)  (σ0 : hx_S) (h : f_X_pairUp σ x1 k2 x3 = some σ0) : hx_Wv l D (hx_ty T3) y_X_pairUp w_X_pairUp m_X_pairUp [.ref (ad 0), .int x1, .ref (ad (2 + k2)), .int x3] sz (hx_W T3 ad σ) (hx_W T3 ad σ0) := by
  refine Met.ofW (cc := b_X_pairUp) (maxL := 5) (ret := none) (by decide) rfl ?_
  intro p e s m args below meth c s₁ B hml hv
  obtain ⟨hargs, hsz, hP, hK, hD0⟩ := hv
  have hx := B.exec
  have hb := B.bytes
  have hr := B.returns
  have hts := atoms_spec (ws := w_X_pairUp) B.pre
  have hown : s.vm.findClass "HalfFloats" = some m.cls := findClass_of_methodNamed B.named
  have hlocks := B.notSynchronized
  subst hsz
  have hD := hD0.self (sz := s.heap.size)
  generalize hAe : va_A (hx_W T3 ad σ) s.heap.size = A at hD ⊢
  have hA : ∀ q : Nat, s.heap.size ≤ q → A q := fun q h => by rw [← hAe]; exact Or.inr h
  have hS : va_S A s.heap s.heap [] := va_S.rf
  have B_3 : ∀ (n : Nat), ∀ (σ : hx_S) (x4 : Int32) (k5 : Nat) (x6 : Int32) (x7 : Int32) (H : Heap) (locs : List Loc) (ls : Array Slot), va_P D vwCl (hx_W T3 ad σ) H → va_D A (hx_W T3 ad σ) → va_S A s.heap H locs → k5 < 4 → lv_has ls 5 [(0, .ref (ad 0)), (1, .int x4), (2, .ref (ad (2 + k5))), (3, .int x6), (4, .int x7)] → f_X_pairUp_3 n σ x4 k5 x6 x7 = some σ0 → W p l e (headSpec w_X_pairUp m_X_pairUp).room s m args below meth c H locs 0 0 (MQ below (hx_Qv D (hx_ty T3) A (hx_W T3 ad σ0)) args s 0 0 A) (F0 m 3 ls []) := by
    intro n
    induction n with
    | zero =>
      intro σ x4 k5 x6 x7 H locs ls hP hD hS hk5 hl h
      rw [f_X_pairUp_3] at h
      cases h
    | succ n ih =>
        intro σ x4 k5 x6 x7 H locs ls hP hD hS hk5 hl h
        rw [f_X_pairUp_3] at h
        refine lv_iload hx hb d_X_pairUp_3 (lv_at hl 4 rfl) ?_
        refine lv_iconst (v := 1) hx hb d_X_pairUp_5 (by decide) ?_
        refine lv_iadd hx hb d_X_pairUp_6 ?_
        refine lv_iload_n hx hb d_X_pairUp_7 rfl (lv_at hl 1 rfl) ?_
        refine lv_icmp_ge (tgt := 49) hx hb d_X_pairUp_8 (by decide) (fun c8 => ?_) (fun c8 => ?_)
        · replace h := hx_ip c8 h
          refine lv_iload_n hx hb d_X_pairUp_49 rfl (lv_at hl 1 rfl) ?_
          refine lv_iconst (v := 2) hx hb d_X_pairUp_50 (by decide) ?_
          refine lv_irem hx hb d_X_pairUp_51 (by decide) ?_
          refine lv_iconst (v := 1) hx hb d_X_pairUp_52 (by decide) ?_
          refine lv_icmp_ne (tgt := 72) hx hb d_X_pairUp_53 (by decide) (fun c9 => ?_) (fun c9 => ?_)
          · replace h := hx_in c9 h
            exact W.vret hx hb hr (fun t ht hW => hx_endv h ht hW hP hK hD hS) hS.2.2 d_X_pairUp_72
          · replace h := hx_ip c9 h
            refine lv_aload_n hx hb d_X_pairUp_56 rfl (lv_at hl 0 rfl) ?_
            refine va_get (D := D) (ci := 0) (v := .ref (ad 13)) (C := "HalfFloats") (T := T_X) (N := 9) hx hb hts (hx_up in_X) hown hK hP (0) hx_at_X rfl 5 (by decide) (hts _ (hx_cons _ k_209)) (fun _ h9 => h9) rfl d_X_pairUp_57 ?_
            refine lv_iload_n hx hb d_X_pairUp_60 rfl (lv_at hl 1 rfl) ?_
            refine lv_iconst (v := 2) hx hb d_X_pairUp_61 (by decide) ?_
            refine lv_idiv hx hb d_X_pairUp_62 (by decide) ?_
            refine lv_aload_n hx hb d_X_pairUp_63 rfl (lv_at hl 0 rfl) ?_
            refine va_get (D := D) (ci := 0) (v := .ref (ad 13)) (C := "HalfFloats") (T := T_X) (N := 9) hx hb hts (hx_up in_X) hown hK hP (0) hx_at_X rfl 5 (by decide) (hts _ (hx_cons _ k_209)) (fun _ h9 => h9) rfl d_X_pairUp_64 ?_
            refine lv_iload_n hx hb d_X_pairUp_67 rfl (lv_at hl 1 rfl) ?_
            refine lv_iconst (v := 1) hx hb d_X_pairUp_68 (by decide) ?_
            refine lv_isub hx hb d_X_pairUp_69 ?_
            obtain ⟨g10, h⟩ := hx_gs h
            refine va_iald hx hb hK hP (13) 1 hx_at_T rfl g10 d_X_pairUp_70 ?_
            refine lv_topi (fun x11 ex11 => ?_)
            replace h := hx_ns ex11 h
            clear ex11
            obtain ⟨g12, h⟩ := hx_gs h
            refine va_iast hx hb hK hP hD hS (13) 1 hx_at_T rfl g12 d_X_pairUp_71 (fun H locs hP hD hS => ?_)
            obtain ⟨σ13, eσ13⟩ : ∃ y : hx_S, y = (hx_tr_s σ (x4 / (2 : Int32)).toNatClampNeg x11) := ⟨_, rfl⟩
            replace hP : va_P D vwCl (hx_W T3 ad σ13) H := by rw [eσ13]; exact hP
            replace hD : va_D A (hx_W T3 ad σ13) := by rw [eσ13]; exact hD
            replace h := hx_ns eσ13 h
            clear eσ13
            exact W.vret hx hb hr (fun t ht hW => hx_endv h ht hW hP hK hD hS) hS.2.2 d_X_pairUp_72
        · replace h := hx_in c8 h
          refine lv_aload_n hx hb d_X_pairUp_11 rfl (lv_at hl 0 rfl) ?_
          refine va_get (D := D) (ci := 0) (v := .ref (ad 13)) (C := "HalfFloats") (T := T_X) (N := 9) hx hb hts (hx_up in_X) hown hK hP (0) hx_at_X rfl 5 (by decide) (hts _ (hx_cons _ k_209)) (fun _ h9 => h9) rfl d_X_pairUp_12 ?_
          refine lv_iload hx hb d_X_pairUp_15 (lv_at hl 4 rfl) ?_
          refine lv_iconst (v := 2) hx hb d_X_pairUp_17 (by decide) ?_
          refine lv_idiv hx hb d_X_pairUp_18 (by decide) ?_
          refine lv_aload_n hx hb d_X_pairUp_19 rfl (lv_at hl 0 rfl) ?_
          refine lv_aload_n hx hb d_X_pairUp_20 rfl (lv_at hl 2 rfl) ?_
          refine lv_aload_n hx hb d_X_pairUp_21 rfl (lv_at hl 0 rfl) ?_
          refine va_get (D := D) (ci := 0) (v := .ref (ad 13)) (C := "HalfFloats") (T := T_X) (N := 9) hx hb hts (hx_up in_X) hown hK hP (0) hx_at_X rfl 5 (by decide) (hts _ (hx_cons _ k_209)) (fun _ h9 => h9) rfl d_X_pairUp_22 ?_
          refine lv_iload hx hb d_X_pairUp_25 (lv_at hl 4 rfl) ?_
          obtain ⟨g14, h⟩ := hx_gs h
          refine va_iald hx hb hK hP (13) 1 hx_at_T rfl g14 d_X_pairUp_27 ?_
          refine lv_aload_n hx hb d_X_pairUp_28 rfl (lv_at hl 2 rfl) ?_
          refine lv_aload_n hx hb d_X_pairUp_29 rfl (lv_at hl 0 rfl) ?_
          refine va_get (D := D) (ci := 0) (v := .ref (ad 13)) (C := "HalfFloats") (T := T_X) (N := 9) hx hb hts (hx_up in_X) hown hK hP (0) hx_at_X rfl 5 (by decide) (hts _ (hx_cons _ k_209)) (fun _ h9 => h9) rfl d_X_pairUp_30 ?_
          refine lv_iload hx hb d_X_pairUp_33 (lv_at hl 4 rfl) ?_
          refine lv_iconst (v := 1) hx hb d_X_pairUp_35 (by decide) ?_
          refine lv_iadd hx hb d_X_pairUp_36 ?_
          obtain ⟨g15, h⟩ := hx_gs h
          refine va_iald hx hb hK hP (13) 1 hx_at_T rfl g15 d_X_pairUp_37 ?_
          refine lv_iload_n hx hb d_X_pairUp_38 rfl (lv_at hl 3 rfl) ?_
          obtain ⟨r17, q16, eq16, h⟩ := hx_b2s h
          refine hx_wi (va_runV (As := [.ref (ad (2 + k5)), .int (hx_tr σ x7.toNatClampNeg), .ref (ad (2 + k5)), .int (hx_tr σ (x7 + (1 : Int32)).toNatClampNeg), .int x6]) (rest := [.int (x7 / (2 : Int32)), .ref (ad 13)]) ⟨hx, hb, hml, hown, hts⟩ (c_X_plus l D T3 ad _ σ k5 (hx_tr σ x7.toNatClampNeg) k5 (hx_tr σ (x7 + (1 : Int32)).toNatClampNeg) x6 hk5 hk5 _ _ eq16) (cwV 5 hts (hx_gV hx_cons k_462 k_464 k_11 k_50 k_465) rfl rfl rfl (by decide +kernel) ⟨Nat.le_of_ble_eq_true rfl, Nat.le_of_ble_eq_true rfl⟩) (hx_preVw (va_recv hK hP (ci := 0) (q0 := 0) rfl hx_at_X) hP hK hD) rfl rfl hl.1 rfl (lv_room (Nat.le_of_ble_eq_true rfl)) d_X_pairUp_39 ⟨Nat.zero_le _, Nat.zero_le _⟩) hD hS hA (fun H locs hP hD hS => ?_)
          obtain ⟨g18, h⟩ := hx_gs h
          refine va_iast hx hb hK hP hD hS (13) 1 hx_at_T rfl g18 d_X_pairUp_42 (fun H locs hP hD hS => ?_)
          obtain ⟨σ19, eσ19⟩ : ∃ y : hx_S, y = (hx_tr_s q16 (x7 / (2 : Int32)).toNatClampNeg r17) := ⟨_, rfl⟩
          replace hP : va_P D vwCl (hx_W T3 ad σ19) H := by rw [eσ19]; exact hP
          replace hD : va_D A (hx_W T3 ad σ19) := by rw [eσ19]; exact hD
          replace h := hx_ns eσ19 h
          clear eσ19
          obtain ⟨x20, ex20⟩ : ∃ y : Int32, y = x7 + 2 := ⟨_, rfl⟩
          replace h := hx_ns ex20 h
          refine lv_iinc (v := x20) (lv' := [(4, .int x20), (0, .ref (ad 0)), (1, .int x4), (2, .ref (ad (2 + k5))), (3, .int x6)]) hx hb d_X_pairUp_43 hl (k := 4) rfl (by rw [ex20]; rfl) (by decide) rfl (fun ls hl => ?_)
          clear ex20
          refine lv_goto (tgt := 3) hx hb d_X_pairUp_46 (by decide) ?_
          exact ih σ19 x4 k5 x6 x20 _ _ ls hP hD hS hk5 (lv_sub hl [1, 2, 3, 4, 0] rfl) h
  refine W.eq (g2 := F0 m 0 ((lg_sl [.ref (ad 0), .int x1, .ref (ad (2 + k2)), .int x3] ++ List.replicate (5 - (lg_sl [.ref (ad 0), .int x1, .ref (ad (2 + k2)), .int x3]).length) Slot.unset).toArray) []) (by rw [hargs, lg_entry_eq]) ?_
  have hl := lv_entry ([.ref (ad 0), .int x1, .ref (ad (2 + k2)), .int x3]) (n := 5) (Nat.le_of_ble_eq_true rfl)
  generalize (lg_sl ([.ref (ad 0), .int x1, .ref (ad (2 + k2)), .int x3]) ++ List.replicate (5 - (lg_sl ([.ref (ad 0), .int x1, .ref (ad (2 + k2)), .int x3])).length) Slot.unset).toArray = ls at hl ⊢
  have hl : lv_has ls 5 [(0, .ref (ad 0)), (1, .int x1), (2, .ref (ad (2 + k2))), (3, .int x3)] := hl
  rw [f_X_pairUp] at h
  refine lv_iconst (v := 0) hx hb d_X_pairUp_0 (by decide) ?_
  refine lv_istore (lv' := [(4, .int (0 : Int32)), (0, .ref (ad 0)), (1, .int x1), (2, .ref (ad (2 + k2))), (3, .int x3)]) hx hb d_X_pairUp_1 hl (by decide) rfl (fun ls hl => ?_)
  exact B_3 hx_fuel σ x1 k2 x3 (0 : Int32) _ _ ls hP hD hS hk2 (lv_sub hl [1, 2, 3, 4, 0] rfl) h
abbrev m_X_sumAsTree : Room := { frames := 7, cells := 0, slots := 0, locals := 161 }
set_option maxHeartbeats 4000000 in
set_option maxRecDepth 100000 in
theorem c_X_sumAsTree (l : Launch) (D : va_G) (T3 : hx_T3) (ad : Nat → Nat) (sz : Nat) (σ : hx_S) (k1 : Nat) (k2 : Nat) (x3 : Int32) (hk1 : k1 < 2) (hk2 : k2 < 4) (r0 : Int32) (σ0 : hx_S) (h : f_X_sumAsTree σ k1 k2 x3 = some (r0, σ0)) : hx_Wi l D (hx_ty T3) y_X_sumAsTree w_X_sumAsTree m_X_sumAsTree [.ref (ad 0), .ref (ad (6 + 2 * k1)), .ref (ad (2 + k2)), .int x3] sz (hx_W T3 ad σ) r0 (hx_W T3 ad σ0) := by
  refine Met.ofW (cc := b_X_sumAsTree) (maxL := 5) (ret := (some .int)) (by decide) rfl ?_
  intro p e s m args below meth c s₁ B hml hv
  obtain ⟨hargs, hsz, hP, hK, hD0⟩ := hv
  have hx := B.exec
  have hb := B.bytes
  have hr := B.returns
  have hts := atoms_spec (ws := w_X_sumAsTree) B.pre
  have hown : s.vm.findClass "HalfFloats" = some m.cls := findClass_of_methodNamed B.named
  have hlocks := B.notSynchronized
  subst hsz
  have hD := hD0.self (sz := s.heap.size)
  generalize hAe : va_A (hx_W T3 ad σ) s.heap.size = A at hD ⊢
  have hA : ∀ q : Nat, s.heap.size ≤ q → A q := fun q h => by rw [← hAe]; exact Or.inr h
  have hS : va_S A s.heap s.heap [] := va_S.rf
  have B_66 : ∀ (n : Nat), ∀ (σ : hx_S) (k11 : Nat) (x12 : Int32) (x13 : Int32) (H : Heap) (locs : List Loc) (ls : Array Slot), va_P D vwCl (hx_W T3 ad σ) H → va_D A (hx_W T3 ad σ) → va_S A s.heap H locs → k11 < 4 → lv_has ls 5 [(0, .ref (ad 0)), (2, .ref (ad (2 + k11))), (3, .int x12), (4, .int x13)] → f_X_sumAsTree_66 n σ k11 x12 x13 = some (r0, σ0) → W p l e (headSpec w_X_sumAsTree m_X_sumAsTree).room s m args below meth c H locs 0 0 (MQ below (hx_Qi D (hx_ty T3) A r0 (hx_W T3 ad σ0)) args s 0 0 A) (F0 m 66 ls []) := by
    intro n
    induction n with
    | zero =>
      intro σ k11 x12 x13 H locs ls hP hD hS hk11 hl h
      rw [f_X_sumAsTree_66] at h
      cases h
    | succ n ih =>
        intro σ k11 x12 x13 H locs ls hP hD hS hk11 hl h
        rw [f_X_sumAsTree_66] at h
        refine lv_iload hx hb d_X_sumAsTree_66 (lv_at hl 3 rfl) ?_
        refine lv_iconst (v := 1) hx hb d_X_sumAsTree_68 (by decide) ?_
        refine lv_icmp_le (tgt := 91) hx hb d_X_sumAsTree_69 (by decide) (fun c14 => ?_) (fun c14 => ?_)
        · replace h := hx_ip c14 h
          refine lv_aload_n hx hb d_X_sumAsTree_91 rfl (lv_at hl 0 rfl) ?_
          refine va_get (D := D) (ci := 0) (v := .ref (ad 13)) (C := "HalfFloats") (T := T_X) (N := 9) hx hb hts (hx_up in_X) hown hK hP (0) hx_at_X rfl 5 (by decide) (hts _ (hx_cons _ k_209)) (fun _ h9 => h9) rfl d_X_sumAsTree_92 ?_
          refine lv_iconst (v := 0) hx hb d_X_sumAsTree_95 (by decide) ?_
          obtain ⟨g15, h⟩ := hx_gs h
          refine va_iald hx hb hK hP (13) 1 hx_at_T rfl g15 d_X_sumAsTree_96 ?_
          exact W.iret hx hb hr (fun t ht hW => hx_endi h ht hW hP hK hD hS) hS.2.2 d_X_sumAsTree_97
        · replace h := hx_in c14 h
          refine lv_aload_n hx hb d_X_sumAsTree_72 rfl (lv_at hl 0 rfl) ?_
          refine lv_iload hx hb d_X_sumAsTree_73 (lv_at hl 3 rfl) ?_
          refine lv_aload_n hx hb d_X_sumAsTree_75 rfl (lv_at hl 1 rfl) ?_
          refine lv_iload_n hx hb d_X_sumAsTree_76 rfl (lv_at hl 2 rfl) ?_
          obtain ⟨q16, eq16, h⟩ := hx_b1s h
          refine hx_wv (va_runV (As := [.int x13, .ref (ad (2 + k11)), .int x12]) (rest := []) ⟨hx, hb, hml, hown, hts⟩ (c_X_pairUp l D T3 ad _ σ x13 k11 x12 hk11 _ eq16) (cwV 3 hts (hx_gV hx_cons k_470 k_472 k_13 k_50 k_473) rfl rfl rfl (by decide +kernel) ⟨Nat.le_of_ble_eq_true rfl, Nat.le_of_ble_eq_true rfl⟩) (hx_preVw (va_recv hK hP (ci := 0) (q0 := 0) rfl hx_at_X) hP hK hD) rfl rfl hl.1 rfl (lv_room (Nat.le_of_ble_eq_true rfl)) d_X_sumAsTree_77 ⟨Nat.zero_le _, Nat.zero_le _⟩) hD hS hA (fun H locs hP hD hS => ?_)
          refine lv_iload hx hb d_X_sumAsTree_80 (lv_at hl 3 rfl) ?_
          refine lv_iconst (v := 1) hx hb d_X_sumAsTree_82 (by decide) ?_
          refine lv_iadd hx hb d_X_sumAsTree_83 ?_
          refine lv_iconst (v := 2) hx hb d_X_sumAsTree_84 (by decide) ?_
          refine lv_idiv hx hb d_X_sumAsTree_85 (by decide) ?_
          refine lv_topi (fun x17 ex17 => ?_)
          replace h := hx_ns ex17 h
          clear ex17
          refine lv_istore (lv' := [(4, .int x17), (0, .ref (ad 0)), (2, .ref (ad (2 + k11))), (3, .int x12)]) hx hb d_X_sumAsTree_86 hl (by decide) rfl (fun ls hl => ?_)
          refine lv_goto (tgt := 66) hx hb d_X_sumAsTree_88 (by decide) ?_
          exact ih q16 k11 x12 x17 _ _ ls hP hD hS hk11 (lv_sub hl [1, 2, 3, 0] rfl) h
  have B_12 : ∀ (n : Nat), ∀ (σ : hx_S) (k5 : Nat) (k6 : Nat) (x7 : Int32) (x8 : Int32) (H : Heap) (locs : List Loc) (ls : Array Slot), va_P D vwCl (hx_W T3 ad σ) H → va_D A (hx_W T3 ad σ) → va_S A s.heap H locs → k5 < 2 → k6 < 4 → lv_has ls 5 [(0, .ref (ad 0)), (1, .ref (ad (6 + 2 * k5))), (2, .ref (ad (2 + k6))), (3, .int x7), (4, .int x8)] → f_X_sumAsTree_12 n σ k5 k6 x7 x8 = some (r0, σ0) → W p l e (headSpec w_X_sumAsTree m_X_sumAsTree).room s m args below meth c H locs 0 0 (MQ below (hx_Qi D (hx_ty T3) A r0 (hx_W T3 ad σ0)) args s 0 0 A) (F0 m 12 ls []) := by
    intro n
    induction n with
    | zero =>
      intro σ k5 k6 x7 x8 H locs ls hP hD hS hk5 hk6 hl h
      rw [f_X_sumAsTree_12] at h
      cases h
    | succ n ih =>
        intro σ k5 k6 x7 x8 H locs ls hP hD hS hk5 hk6 hl h
        rw [f_X_sumAsTree_12] at h
        refine lv_iload hx hb d_X_sumAsTree_12 (lv_at hl 4 rfl) ?_
        refine lv_aload_n hx hb d_X_sumAsTree_14 rfl (lv_at hl 1 rfl) ?_
        refine va_get (D := D) (ci := 2) (v := .int (hx_size σ k5)) (C := "HalfFloats$Row") (T := T_R) (N := 3) hx hb hts (hx_up in_R) hown hK hP (6 + 2 * k5) (hx_at_R hk5) rfl 1 (by decide) (hts _ (hx_cons _ k_125)) (fun _ h9 => h9) rfl d_X_sumAsTree_15 ?_
        refine lv_icmp_ge (tgt := 60) hx hb d_X_sumAsTree_18 (by decide) (fun c9 => ?_) (fun c9 => ?_)
        · replace h := hx_ip c9 h
          refine lv_aload_n hx hb d_X_sumAsTree_60 rfl (lv_at hl 1 rfl) ?_
          refine va_get (D := D) (ci := 2) (v := .int (hx_size σ k5)) (C := "HalfFloats$Row") (T := T_R) (N := 3) hx hb hts (hx_up in_R) hown hK hP (6 + 2 * k5) (hx_at_R hk5) rfl 1 (by decide) (hts _ (hx_cons _ k_125)) (fun _ h9 => h9) rfl d_X_sumAsTree_61 ?_
          refine lv_topi (fun x10 ex10 => ?_)
          replace h := hx_ns ex10 h
          clear ex10
          refine lv_istore (lv' := [(4, .int x10), (0, .ref (ad 0)), (1, .ref (ad (6 + 2 * k5))), (2, .ref (ad (2 + k6))), (3, .int x7)]) hx hb d_X_sumAsTree_64 hl (by decide) rfl (fun ls hl => ?_)
          exact B_66 hx_fuel σ k6 x7 x10 _ _ ls hP hD hS hk6 (lv_sub hl [1, 3, 4, 0] rfl) h
        · replace h := hx_in c9 h
          refine lv_aload_n hx hb d_X_sumAsTree_21 rfl (lv_at hl 0 rfl) ?_
          refine va_get (D := D) (ci := 0) (v := .ref (ad 13)) (C := "HalfFloats") (T := T_X) (N := 9) hx hb hts (hx_up in_X) hown hK hP (0) hx_at_X rfl 5 (by decide) (hts _ (hx_cons _ k_209)) (fun _ h9 => h9) rfl d_X_sumAsTree_22 ?_
          refine lv_iload hx hb d_X_sumAsTree_25 (lv_at hl 4 rfl) ?_
          refine lv_aload_n hx hb d_X_sumAsTree_27 rfl (lv_at hl 0 rfl) ?_
          refine va_get (D := D) (ci := 0) (v := .ref (ad 12)) (C := "HalfFloats") (T := T_X) (N := 9) hx hb hts (hx_up in_X) hown hK hP (0) hx_at_X rfl 4 (by decide) (hts _ (hx_cons _ k_208)) (fun _ h9 => h9) rfl d_X_sumAsTree_28 ?_
          refine lv_aload_n hx hb d_X_sumAsTree_31 rfl (lv_at hl 0 rfl) ?_
          refine va_get (D := D) (ci := 0) (v := .ref (ad 1)) (C := "HalfFloats") (T := T_X) (N := 9) hx hb hts (hx_up in_X) hown hK hP (0) hx_at_X rfl 0 (by decide) (hts _ (hx_cons _ k_204)) (fun _ h9 => h9) rfl d_X_sumAsTree_32 ?_
          refine lv_aload_n hx hb d_X_sumAsTree_35 rfl (lv_at hl 1 rfl) ?_
          refine va_get (D := D) (ci := 2) (v := .int (hx_format σ k5)) (C := "HalfFloats$Row") (T := T_R) (N := 3) hx hb hts (hx_up in_R) hown hK hP (6 + 2 * k5) (hx_at_R hk5) rfl 2 (by decide) (hts _ (hx_cons _ k_127)) (fun _ h9 => h9) rfl d_X_sumAsTree_36 ?_
          obtain ⟨g18, h⟩ := hx_gs h
          refine va_aldq hx hb hK hP (1) 0 hx_at_FA rfl g18 d_X_sumAsTree_39 ?_
          refine lv_aload_n hx hb d_X_sumAsTree_40 rfl (lv_at hl 1 rfl) ?_
          refine va_get (D := D) (ci := 2) (v := .ref (ad (7 + 2 * k5))) (C := "HalfFloats$Row") (T := T_R) (N := 3) hx hb hts (hx_up in_R) hown hK hP (6 + 2 * k5) (hx_at_R hk5) rfl 0 (by decide) (hts _ (hx_cons _ k_123)) (fun _ h9 => h9) rfl d_X_sumAsTree_41 ?_
          refine lv_iload hx hb d_X_sumAsTree_44 (lv_at hl 4 rfl) ?_
          obtain ⟨g19, h⟩ := hx_gs h
          refine va_iald hx hb hK hP (7 + 2 * k5) 1 (hx_at_RP hk5) rfl g19 d_X_sumAsTree_46 ?_
          refine lv_iconst (v := 0) hx hb d_X_sumAsTree_47 (by decide) ?_
          refine lv_aload_n hx hb d_X_sumAsTree_48 rfl (lv_at hl 2 rfl) ?_
          refine lv_iload_n hx hb d_X_sumAsTree_49 rfl (lv_at hl 3 rfl) ?_
          obtain ⟨r21, q20, eq20, h⟩ := hx_b2s h
          refine hx_wi (va_runV (As := [.ref (ad (2 + (hx_format σ k5).toNatClampNeg)), .int (hx_pat σ k5 x8.toNatClampNeg), .int (0 : Int32), .ref (ad (2 + k6)), .int x7]) (rest := [.int x8, .ref (ad 13)]) ⟨hx, hb, hml, hown, hts⟩ (c_D_turned l D T3 ad _ σ ((hx_format σ k5).toNatClampNeg) (hx_pat σ k5 x8.toNatClampNeg) (0 : Int32) k6 x7 (hx_lt g18) hk6 _ _ eq20) (cwV 5 hts (hx_gV hx_cons k_292 k_293 k_294 k_54 k_295) rfl rfl rfl (by decide +kernel) ⟨Nat.le_of_ble_eq_true rfl, Nat.le_of_ble_eq_true rfl⟩) (hx_preVw (va_recv hK hP (ci := 4) (q0 := 12) rfl hx_at_D) hP hK hD) rfl rfl hl.1 rfl (lv_room (Nat.le_of_ble_eq_true rfl)) d_X_sumAsTree_50 ⟨Nat.zero_le _, Nat.zero_le _⟩) hD hS hA (fun H locs hP hD hS => ?_)
          obtain ⟨g22, h⟩ := hx_gs h
          refine va_iast hx hb hK hP hD hS (13) 1 hx_at_T rfl g22 d_X_sumAsTree_53 (fun H locs hP hD hS => ?_)
          obtain ⟨σ23, eσ23⟩ : ∃ y : hx_S, y = (hx_tr_s q20 x8.toNatClampNeg r21) := ⟨_, rfl⟩
          replace hP : va_P D vwCl (hx_W T3 ad σ23) H := by rw [eσ23]; exact hP
          replace hD : va_D A (hx_W T3 ad σ23) := by rw [eσ23]; exact hD
          replace h := hx_ns eσ23 h
          clear eσ23
          obtain ⟨x24, ex24⟩ : ∃ y : Int32, y = x8 + 1 := ⟨_, rfl⟩
          replace h := hx_ns ex24 h
          refine lv_iinc (v := x24) (lv' := [(4, .int x24), (0, .ref (ad 0)), (1, .ref (ad (6 + 2 * k5))), (2, .ref (ad (2 + k6))), (3, .int x7)]) hx hb d_X_sumAsTree_54 hl (k := 4) rfl (by rw [ex24]; rfl) (by decide) rfl (fun ls hl => ?_)
          clear ex24
          refine lv_goto (tgt := 12) hx hb d_X_sumAsTree_57 (by decide) ?_
          exact ih σ23 k5 k6 x7 x24 _ _ ls hP hD hS hk5 hk6 (lv_sub hl [1, 2, 3, 4, 0] rfl) h
  refine W.eq (g2 := F0 m 0 ((lg_sl [.ref (ad 0), .ref (ad (6 + 2 * k1)), .ref (ad (2 + k2)), .int x3] ++ List.replicate (5 - (lg_sl [.ref (ad 0), .ref (ad (6 + 2 * k1)), .ref (ad (2 + k2)), .int x3]).length) Slot.unset).toArray) []) (by rw [hargs, lg_entry_eq]) ?_
  have hl := lv_entry ([.ref (ad 0), .ref (ad (6 + 2 * k1)), .ref (ad (2 + k2)), .int x3]) (n := 5) (Nat.le_of_ble_eq_true rfl)
  generalize (lg_sl ([.ref (ad 0), .ref (ad (6 + 2 * k1)), .ref (ad (2 + k2)), .int x3]) ++ List.replicate (5 - (lg_sl ([.ref (ad 0), .ref (ad (6 + 2 * k1)), .ref (ad (2 + k2)), .int x3])).length) Slot.unset).toArray = ls at hl ⊢
  have hl : lv_has ls 5 [(0, .ref (ad 0)), (1, .ref (ad (6 + 2 * k1))), (2, .ref (ad (2 + k2))), (3, .int x3)] := hl
  rw [f_X_sumAsTree] at h
  refine lv_aload_n hx hb d_X_sumAsTree_0 rfl (lv_at hl 1 rfl) ?_
  refine va_get (D := D) (ci := 2) (v := .int (hx_size σ k1)) (C := "HalfFloats$Row") (T := T_R) (N := 3) hx hb hts (hx_up in_R) hown hK hP (6 + 2 * k1) (hx_at_R hk1) rfl 1 (by decide) (hts _ (hx_cons _ k_125)) (fun _ h9 => h9) rfl d_X_sumAsTree_1 ?_
  refine lv_if_ne (tgt := 9) hx hb d_X_sumAsTree_4 (by decide) (fun c4 => ?_) (fun c4 => ?_)
  · replace h := hx_in c4 h
    refine lv_iconst (v := 0) hx hb d_X_sumAsTree_9 (by decide) ?_
    refine lv_istore (lv' := [(4, .int (0 : Int32)), (0, .ref (ad 0)), (1, .ref (ad (6 + 2 * k1))), (2, .ref (ad (2 + k2))), (3, .int x3)]) hx hb d_X_sumAsTree_10 hl (by decide) rfl (fun ls hl => ?_)
    exact B_12 hx_fuel σ k1 k2 x3 (0 : Int32) _ _ ls hP hD hS hk1 hk2 (lv_sub hl [1, 2, 3, 4, 0] rfl) h
  · replace h := hx_ip c4 h
    refine lv_iconst (v := 0) hx hb d_X_sumAsTree_7 (by decide) ?_
    exact W.iret hx hb hr (fun t ht hW => hx_endi h ht hW hP hK hD hS) hS.2.2 d_X_sumAsTree_8
abbrev m_X_sumAtOnce : Room := { frames := 5, cells := 0, slots := 0, locals := 112 }
set_option maxHeartbeats 4000000 in
set_option maxRecDepth 100000 in
theorem c_X_sumAtOnce (l : Launch) (D : va_G) (T3 : hx_T3) (ad : Nat → Nat) (sz : Nat) (σ : hx_S) (k1 : Nat) (k2 : Nat) (x3 : Int32) (hk1 : k1 < 2) (hk2 : k2 < 4) (r0 : Int32) (σ0 : hx_S) (h : f_X_sumAtOnce σ k1 k2 x3 = some (r0, σ0)) : hx_Wi l D (hx_ty T3) y_X_sumAtOnce w_X_sumAtOnce m_X_sumAtOnce [.ref (ad 0), .ref (ad (6 + 2 * k1)), .ref (ad (2 + k2)), .int x3] sz (hx_W T3 ad σ) r0 (hx_W T3 ad σ0) := by
  refine Met.ofW (cc := b_X_sumAtOnce) (maxL := 5) (ret := (some .int)) (by decide) rfl ?_
  intro p e s m args below meth c s₁ B hml hv
  obtain ⟨hargs, hsz, hP, hK, hD0⟩ := hv
  have hx := B.exec
  have hb := B.bytes
  have hr := B.returns
  have hts := atoms_spec (ws := w_X_sumAtOnce) B.pre
  have hown : s.vm.findClass "HalfFloats" = some m.cls := findClass_of_methodNamed B.named
  have hlocks := B.notSynchronized
  subst hsz
  have hD := hD0.self (sz := s.heap.size)
  generalize hAe : va_A (hx_W T3 ad σ) s.heap.size = A at hD ⊢
  have hA : ∀ q : Nat, s.heap.size ≤ q → A q := fun q h => by rw [← hAe]; exact Or.inr h
  have hS : va_S A s.heap s.heap [] := va_S.rf
  have B_10 : ∀ (n : Nat), ∀ (σ : hx_S) (k5 : Nat) (k6 : Nat) (x7 : Int32) (x8 : Int32) (H : Heap) (locs : List Loc) (ls : Array Slot), va_P D vwCl (hx_W T3 ad σ) H → va_D A (hx_W T3 ad σ) → va_S A s.heap H locs → k5 < 2 → k6 < 4 → lv_has ls 5 [(0, .ref (ad 0)), (1, .ref (ad (6 + 2 * k5))), (2, .ref (ad (2 + k6))), (3, .int x7), (4, .int x8)] → f_X_sumAtOnce_10 n σ k5 k6 x7 x8 = some (r0, σ0) → W p l e (headSpec w_X_sumAtOnce m_X_sumAtOnce).room s m args below meth c H locs 0 0 (MQ below (hx_Qi D (hx_ty T3) A r0 (hx_W T3 ad σ0)) args s 0 0 A) (F0 m 10 ls []) := by
    intro n
    induction n with
    | zero =>
      intro σ k5 k6 x7 x8 H locs ls hP hD hS hk5 hk6 hl h
      rw [f_X_sumAtOnce_10] at h
      cases h
    | succ n ih =>
        intro σ k5 k6 x7 x8 H locs ls hP hD hS hk5 hk6 hl h
        rw [f_X_sumAtOnce_10] at h
        refine lv_iload hx hb d_X_sumAtOnce_10 (lv_at hl 4 rfl) ?_
        refine lv_aload_n hx hb d_X_sumAtOnce_12 rfl (lv_at hl 1 rfl) ?_
        refine va_get (D := D) (ci := 2) (v := .int (hx_size σ k5)) (C := "HalfFloats$Row") (T := T_R) (N := 3) hx hb hts (hx_up in_R) hown hK hP (6 + 2 * k5) (hx_at_R hk5) rfl 1 (by decide) (hts _ (hx_cons _ k_125)) (fun _ h9 => h9) rfl d_X_sumAtOnce_13 ?_
        refine lv_icmp_ge (tgt := 49) hx hb d_X_sumAtOnce_16 (by decide) (fun c9 => ?_) (fun c9 => ?_)
        · replace h := hx_ip c9 h
          refine lv_aload_n hx hb d_X_sumAtOnce_49 rfl (lv_at hl 0 rfl) ?_
          refine va_get (D := D) (ci := 0) (v := .ref (ad 12)) (C := "HalfFloats") (T := T_X) (N := 9) hx hb hts (hx_up in_X) hown hK hP (0) hx_at_X rfl 4 (by decide) (hts _ (hx_cons _ k_208)) (fun _ h9 => h9) rfl d_X_sumAtOnce_50 ?_
          refine lv_aload_n hx hb d_X_sumAtOnce_53 rfl (lv_at hl 0 rfl) ?_
          refine va_get (D := D) (ci := 0) (v := .ref (ad 10)) (C := "HalfFloats") (T := T_X) (N := 9) hx hb hts (hx_up in_X) hown hK hP (0) hx_at_X rfl 3 (by decide) (hts _ (hx_cons _ k_207)) (fun _ h9 => h9) rfl d_X_sumAtOnce_54 ?_
          refine lv_aload_n hx hb d_X_sumAtOnce_57 rfl (lv_at hl 2 rfl) ?_
          refine lv_iload_n hx hb d_X_sumAtOnce_58 rfl (lv_at hl 3 rfl) ?_
          obtain ⟨r11, q10, eq10, h⟩ := hx_b2s h
          refine hx_wi (va_runV (As := [.ref (ad 10), .ref (ad (2 + k6)), .int x7]) (rest := []) ⟨hx, hb, hml, hown, hts⟩ (c_D_rounded l D T3 ad _ σ k6 x7 hk6 _ _ eq10) (cwV 3 hts (hx_gV hx_cons k_383 k_384 k_385 k_54 k_386) rfl rfl rfl (by decide +kernel) ⟨Nat.le_of_ble_eq_true rfl, Nat.le_of_ble_eq_true rfl⟩) (hx_preVw (va_recv hK hP (ci := 4) (q0 := 12) rfl hx_at_D) hP hK hD) rfl rfl hl.1 rfl (lv_room (Nat.le_of_ble_eq_true rfl)) d_X_sumAtOnce_59 ⟨Nat.zero_le _, Nat.zero_le _⟩) hD hS hA (fun H locs hP hD hS => ?_)
          exact W.iret hx hb hr (fun t ht hW => hx_endi h ht hW hP hK hD hS) hS.2.2 d_X_sumAtOnce_62
        · replace h := hx_in c9 h
          refine lv_aload_n hx hb d_X_sumAtOnce_19 rfl (lv_at hl 0 rfl) ?_
          refine va_get (D := D) (ci := 0) (v := .ref (ad 10)) (C := "HalfFloats") (T := T_X) (N := 9) hx hb hts (hx_up in_X) hown hK hP (0) hx_at_X rfl 3 (by decide) (hts _ (hx_cons _ k_207)) (fun _ h9 => h9) rfl d_X_sumAtOnce_20 ?_
          refine lv_aload_n hx hb d_X_sumAtOnce_23 rfl (lv_at hl 0 rfl) ?_
          refine va_get (D := D) (ci := 0) (v := .ref (ad 1)) (C := "HalfFloats") (T := T_X) (N := 9) hx hb hts (hx_up in_X) hown hK hP (0) hx_at_X rfl 0 (by decide) (hts _ (hx_cons _ k_204)) (fun _ h9 => h9) rfl d_X_sumAtOnce_24 ?_
          refine lv_aload_n hx hb d_X_sumAtOnce_27 rfl (lv_at hl 1 rfl) ?_
          refine va_get (D := D) (ci := 2) (v := .int (hx_format σ k5)) (C := "HalfFloats$Row") (T := T_R) (N := 3) hx hb hts (hx_up in_R) hown hK hP (6 + 2 * k5) (hx_at_R hk5) rfl 2 (by decide) (hts _ (hx_cons _ k_127)) (fun _ h9 => h9) rfl d_X_sumAtOnce_28 ?_
          obtain ⟨g12, h⟩ := hx_gs h
          refine va_aldq hx hb hK hP (1) 0 hx_at_FA rfl g12 d_X_sumAtOnce_31 ?_
          refine lv_aload_n hx hb d_X_sumAtOnce_32 rfl (lv_at hl 1 rfl) ?_
          refine va_get (D := D) (ci := 2) (v := .ref (ad (7 + 2 * k5))) (C := "HalfFloats$Row") (T := T_R) (N := 3) hx hb hts (hx_up in_R) hown hK hP (6 + 2 * k5) (hx_at_R hk5) rfl 0 (by decide) (hts _ (hx_cons _ k_123)) (fun _ h9 => h9) rfl d_X_sumAtOnce_33 ?_
          refine lv_iload hx hb d_X_sumAtOnce_36 (lv_at hl 4 rfl) ?_
          obtain ⟨g13, h⟩ := hx_gs h
          refine va_iald hx hb hK hP (7 + 2 * k5) 1 (hx_at_RP hk5) rfl g13 d_X_sumAtOnce_38 ?_
          refine lv_iconst (v := 0) hx hb d_X_sumAtOnce_39 (by decide) ?_
          obtain ⟨q14, eq14, h⟩ := hx_b1s h
          refine hx_wv (va_runV (As := [.ref (ad (2 + (hx_format σ k5).toNatClampNeg)), .int (hx_pat σ k5 x8.toNatClampNeg), .int (0 : Int32)]) (rest := []) ⟨hx, hb, hml, hown, hts⟩ (c_E_addValue l D T3 ad _ σ ((hx_format σ k5).toNatClampNeg) (hx_pat σ k5 x8.toNatClampNeg) (0 : Int32) (hx_lt g12) _ eq14) (cwV 3 hts (hx_gV hx_cons k_379 k_380 k_381 k_53 k_382) rfl rfl rfl (by decide +kernel) ⟨Nat.le_of_ble_eq_true rfl, Nat.le_of_ble_eq_true rfl⟩) (hx_preVw (va_recv hK hP (ci := 3) (q0 := 10) rfl hx_at_E) hP hK hD) rfl rfl hl.1 rfl (lv_room (Nat.le_of_ble_eq_true rfl)) d_X_sumAtOnce_40 ⟨Nat.zero_le _, Nat.zero_le _⟩) hD hS hA (fun H locs hP hD hS => ?_)
          obtain ⟨x15, ex15⟩ : ∃ y : Int32, y = x8 + 1 := ⟨_, rfl⟩
          replace h := hx_ns ex15 h
          refine lv_iinc (v := x15) (lv' := [(4, .int x15), (0, .ref (ad 0)), (1, .ref (ad (6 + 2 * k5))), (2, .ref (ad (2 + k6))), (3, .int x7)]) hx hb d_X_sumAtOnce_43 hl (k := 4) rfl (by rw [ex15]; rfl) (by decide) rfl (fun ls hl => ?_)
          clear ex15
          refine lv_goto (tgt := 10) hx hb d_X_sumAtOnce_46 (by decide) ?_
          exact ih q14 k5 k6 x7 x15 _ _ ls hP hD hS hk5 hk6 (lv_sub hl [1, 2, 3, 4, 0] rfl) h
  refine W.eq (g2 := F0 m 0 ((lg_sl [.ref (ad 0), .ref (ad (6 + 2 * k1)), .ref (ad (2 + k2)), .int x3] ++ List.replicate (5 - (lg_sl [.ref (ad 0), .ref (ad (6 + 2 * k1)), .ref (ad (2 + k2)), .int x3]).length) Slot.unset).toArray) []) (by rw [hargs, lg_entry_eq]) ?_
  have hl := lv_entry ([.ref (ad 0), .ref (ad (6 + 2 * k1)), .ref (ad (2 + k2)), .int x3]) (n := 5) (Nat.le_of_ble_eq_true rfl)
  generalize (lg_sl ([.ref (ad 0), .ref (ad (6 + 2 * k1)), .ref (ad (2 + k2)), .int x3]) ++ List.replicate (5 - (lg_sl ([.ref (ad 0), .ref (ad (6 + 2 * k1)), .ref (ad (2 + k2)), .int x3])).length) Slot.unset).toArray = ls at hl ⊢
  have hl : lv_has ls 5 [(0, .ref (ad 0)), (1, .ref (ad (6 + 2 * k1))), (2, .ref (ad (2 + k2))), (3, .int x3)] := hl
  rw [f_X_sumAtOnce] at h
  refine lv_aload_n hx hb d_X_sumAtOnce_0 rfl (lv_at hl 0 rfl) ?_
  refine va_get (D := D) (ci := 0) (v := .ref (ad 10)) (C := "HalfFloats") (T := T_X) (N := 9) hx hb hts (hx_up in_X) hown hK hP (0) hx_at_X rfl 3 (by decide) (hts _ (hx_cons _ k_207)) (fun _ h9 => h9) rfl d_X_sumAtOnce_1 ?_
  obtain ⟨q4, eq4, h⟩ := hx_b1s h
  refine hx_wv (va_runV (As := []) (rest := []) ⟨hx, hb, hml, hown, hts⟩ (c_E_begin l D T3 ad _ σ _ eq4) (cwV 0 hts (hx_gV hx_cons k_350 k_351 k_352 k_53 k_353) rfl rfl rfl (by decide +kernel) ⟨Nat.le_of_ble_eq_true rfl, Nat.le_of_ble_eq_true rfl⟩) (hx_preVw (va_recv hK hP (ci := 3) (q0 := 10) rfl hx_at_E) hP hK hD) rfl rfl hl.1 rfl (lv_room (Nat.le_of_ble_eq_true rfl)) d_X_sumAtOnce_4 ⟨Nat.zero_le _, Nat.zero_le _⟩) hD hS hA (fun H locs hP hD hS => ?_)
  refine lv_iconst (v := 0) hx hb d_X_sumAtOnce_7 (by decide) ?_
  refine lv_istore (lv' := [(4, .int (0 : Int32)), (0, .ref (ad 0)), (1, .ref (ad (6 + 2 * k1))), (2, .ref (ad (2 + k2))), (3, .int x3)]) hx hb d_X_sumAtOnce_8 hl (by decide) rfl (fun ls hl => ?_)
  exact B_10 hx_fuel q4 k1 k2 x3 (0 : Int32) _ _ ls hP hD hS hk1 hk2 (lv_sub hl [1, 2, 3, 4, 0] rfl) h
abbrev m_X_sum : Room := { frames := 8, cells := 0, slots := 0, locals := 185 }
set_option maxHeartbeats 4000000 in
set_option maxRecDepth 100000 in
theorem c_X_sum (l : Launch) (D : va_G) (T3 : hx_T3) (ad : Nat → Nat) (sz : Nat) (σ : hx_S) (x1 : Int32) (x2 : Int32) (x3 : Int32) (x4 : Int32) (r0 : Int64) (σ0 : hx_S) (h : f_X_sum σ x1 x2 x3 x4 = some (r0, σ0)) : hx_Wj l D (hx_ty T3) y_X_sum w_X_sum m_X_sum [.ref (ad 0), .int x1, .int x2, .int x3, .int x4] sz (hx_W T3 ad σ) r0 (hx_W T3 ad σ0) := by
  refine Met.ofW (cc := b_X_sum) (maxL := 7) (ret := (some .long)) (by decide) rfl ?_
  intro p e s m args below meth c s₁ B hml hv
  obtain ⟨hargs, hsz, hP, hK, hD0⟩ := hv
  have hx := B.exec
  have hb := B.bytes
  have hr := B.returns
  have hts := atoms_spec (ws := w_X_sum) B.pre
  have hown : s.vm.findClass "HalfFloats" = some m.cls := findClass_of_methodNamed B.named
  have hlocks := B.notSynchronized
  subst hsz
  have hD := hD0.self (sz := s.heap.size)
  generalize hAe : va_A (hx_W T3 ad σ) s.heap.size = A at hD ⊢
  have hA : ∀ q : Nat, s.heap.size ≤ q → A q := fun q h => by rw [← hAe]; exact Or.inr h
  have hS : va_S A s.heap s.heap [] := va_S.rf
  have B_96 : ∀ (σ : hx_S) (x20 : Int32) (H : Heap) (locs : List Loc) (ls : Array Slot), va_P D vwCl (hx_W T3 ad σ) H → va_D A (hx_W T3 ad σ) → va_S A s.heap H locs → lv_has ls 7 [] → f_X_sum_96 σ x20 = some (r0, σ0) → W p l e (headSpec w_X_sum m_X_sum).room s m args below meth c H locs 0 0 (MQ below (hx_Qj D (hx_ty T3) A r0 (hx_W T3 ad σ0)) args s 0 0 A) (F0 m 96 ls [.int x20]) := by
      intro σ x20 H locs ls hP hD hS hl h
      rw [f_X_sum_96] at h
      obtain ⟨r21, er21, h⟩ := hx_b1s h
      refine hx_rd (va_runS (As := [.int x20]) (rest := []) ⟨hx, hb, hml, hown, hts⟩ (c_X_bits l D T3 x20 _ er21) (va_cwS 1 hts (hx_gS hx_cons k_342 k_343 k_50 k_344) rfl rfl rfl (by decide +kernel) ⟨Nat.le_of_ble_eq_true rfl, Nat.le_of_ble_eq_true rfl⟩) (hx_preS hx_nil hK) rfl rfl hl.1 rfl (lv_room (Nat.le_of_ble_eq_true rfl)) d_X_sum_96 ⟨Nat.zero_le _, Nat.zero_le _⟩) ?_
      exact W.lret hx hb hr (fun t ht hW => hx_endj h ht hW hP hK hD hS) hS.2.2 d_X_sum_99
  refine W.eq (g2 := F0 m 0 ((lg_sl [.ref (ad 0), .int x1, .int x2, .int x3, .int x4] ++ List.replicate (7 - (lg_sl [.ref (ad 0), .int x1, .int x2, .int x3, .int x4]).length) Slot.unset).toArray) []) (by rw [hargs, lg_entry_eq]) ?_
  have hl := lv_entry ([.ref (ad 0), .int x1, .int x2, .int x3, .int x4]) (n := 7) (Nat.le_of_ble_eq_true rfl)
  generalize (lg_sl ([.ref (ad 0), .int x1, .int x2, .int x3, .int x4]) ++ List.replicate (7 - (lg_sl ([.ref (ad 0), .int x1, .int x2, .int x3, .int x4])).length) Slot.unset).toArray = ls at hl ⊢
  have hl : lv_has ls 7 [(0, .ref (ad 0)), (1, .int x1), (2, .int x2), (3, .int x3), (4, .int x4)] := hl
  rw [f_X_sum] at h
  refine lv_iload_n hx hb d_X_sum_0 rfl (lv_at hl 1 rfl) ?_
  obtain ⟨r5, er5, h⟩ := hx_b1s h
  refine hx_rd (va_runS (As := [.int x1]) (rest := []) ⟨hx, hb, hml, hown, hts⟩ (c_X_isRow l D T3 x1 _ er5) (va_cwS 1 hts (hx_gS hx_cons k_431 k_432 k_50 k_433) rfl rfl rfl (by decide +kernel) ⟨Nat.le_of_ble_eq_true rfl, Nat.le_of_ble_eq_true rfl⟩) (hx_preS hx_nil hK) rfl rfl hl.1 rfl (lv_room (Nat.le_of_ble_eq_true rfl)) d_X_sum_1 ⟨Nat.zero_le _, Nat.zero_le _⟩) ?_
  refine lv_if_eq (tgt := 31) hx hb d_X_sum_4 (by decide) (fun c6 => ?_) (fun c6 => ?_)
  · replace h := hx_ip c6 h
    refine lv_ldc2 (v := -2) hx hb hown (hts _ (hx_cons _ k_291)) d_X_sum_31 ?_
    exact W.lret hx hb hr (fun t ht hW => hx_endj h ht hW hP hK hD hS) hS.2.2 d_X_sum_34
  · replace h := hx_in c6 h
    refine lv_iload_n hx hb d_X_sum_7 rfl (lv_at hl 2 rfl) ?_
    refine lv_if_lt (tgt := 31) hx hb d_X_sum_8 (by decide) (fun c7 => ?_) (fun c7 => ?_)
    · replace h := hx_ip c7 h
      refine lv_ldc2 (v := -2) hx hb hown (hts _ (hx_cons _ k_291)) d_X_sum_31 ?_
      exact W.lret hx hb hr (fun t ht hW => hx_endj h ht hW hP hK hD hS) hS.2.2 d_X_sum_34
    · replace h := hx_in c7 h
      refine lv_iload_n hx hb d_X_sum_11 rfl (lv_at hl 2 rfl) ?_
      refine lv_iconst (v := 2) hx hb d_X_sum_12 (by decide) ?_
      refine lv_icmp_gt (tgt := 31) hx hb d_X_sum_13 (by decide) (fun c8 => ?_) (fun c8 => ?_)
      · replace h := hx_ip c8 h
        refine lv_ldc2 (v := -2) hx hb hown (hts _ (hx_cons _ k_291)) d_X_sum_31 ?_
        exact W.lret hx hb hr (fun t ht hW => hx_endj h ht hW hP hK hD hS) hS.2.2 d_X_sum_34
      · replace h := hx_in c8 h
        refine lv_iload_n hx hb d_X_sum_16 rfl (lv_at hl 3 rfl) ?_
        obtain ⟨r9, er9, h⟩ := hx_b1s h
        refine hx_rd (va_runS (As := [.int x3]) (rest := []) ⟨hx, hb, hml, hown, hts⟩ (c_X_isFormat l D T3 x3 _ er9) (va_cwS 1 hts (hx_gS hx_cons k_236 k_237 k_50 k_238) rfl rfl rfl (by decide +kernel) ⟨Nat.le_of_ble_eq_true rfl, Nat.le_of_ble_eq_true rfl⟩) (hx_preS hx_nil hK) rfl rfl hl.1 rfl (lv_room (Nat.le_of_ble_eq_true rfl)) d_X_sum_17 ⟨Nat.zero_le _, Nat.zero_le _⟩) ?_
        refine lv_if_eq (tgt := 31) hx hb d_X_sum_20 (by decide) (fun c10 => ?_) (fun c10 => ?_)
        · replace h := hx_ip c10 h
          refine lv_ldc2 (v := -2) hx hb hown (hts _ (hx_cons _ k_291)) d_X_sum_31 ?_
          exact W.lret hx hb hr (fun t ht hW => hx_endj h ht hW hP hK hD hS) hS.2.2 d_X_sum_34
        · replace h := hx_in c10 h
          refine lv_iload hx hb d_X_sum_23 (lv_at hl 4 rfl) ?_
          obtain ⟨r11, er11, h⟩ := hx_b1s h
          refine hx_rd (va_runS (As := [.int x4]) (rest := []) ⟨hx, hb, hml, hown, hts⟩ (c_X_isWay l D T3 x4 _ er11) (va_cwS 1 hts (hx_gS hx_cons k_288 k_289 k_50 k_290) rfl rfl rfl (by decide +kernel) ⟨Nat.le_of_ble_eq_true rfl, Nat.le_of_ble_eq_true rfl⟩) (hx_preS hx_nil hK) rfl rfl hl.1 rfl (lv_room (Nat.le_of_ble_eq_true rfl)) d_X_sum_25 ⟨Nat.zero_le _, Nat.zero_le _⟩) ?_
          refine lv_if_ne (tgt := 35) hx hb d_X_sum_28 (by decide) (fun c12 => ?_) (fun c12 => ?_)
          · replace h := hx_in c12 h
            refine lv_aload_n hx hb d_X_sum_35 rfl (lv_at hl 0 rfl) ?_
            refine lv_iload_n hx hb d_X_sum_36 rfl (lv_at hl 1 rfl) ?_
            obtain ⟨r13, er13, h⟩ := hx_b1s h
            obtain ⟨g14, h⟩ := hx_gt h
            refine hx_rd (va_runV (As := [.int x1]) (rest := []) ⟨hx, hb, hml, hown, hts⟩ (c_X_rowOf l D T3 ad σ x1 _ er13) (cwV 1 hts (hx_gV hx_cons k_434 k_436 k_9 k_50 k_437) rfl rfl rfl (by decide +kernel) ⟨Nat.le_of_ble_eq_true rfl, Nat.le_of_ble_eq_true rfl⟩) (hx_preV (va_recv hK hP (ci := 0) (q0 := 0) rfl hx_at_X) hP hK) rfl rfl hl.1 rfl (lv_room (Nat.le_of_ble_eq_true rfl)) d_X_sum_37 ⟨Nat.zero_le _, Nat.zero_le _⟩) ?_
            refine lv_astore (lv' := [(5, .ref (ad (6 + 2 * r13))), (0, .ref (ad 0)), (1, .int x1), (2, .int x2), (3, .int x3), (4, .int x4)]) hx hb d_X_sum_40 hl (by decide) rfl (fun ls hl => ?_)
            refine lv_aload_n hx hb d_X_sum_42 rfl (lv_at hl 1 rfl) ?_
            refine va_get (D := D) (ci := 0) (v := .ref (ad 1)) (C := "HalfFloats") (T := T_X) (N := 9) hx hb hts (hx_up in_X) hown hK hP (0) hx_at_X rfl 0 (by decide) (hts _ (hx_cons _ k_204)) (fun _ h9 => h9) rfl d_X_sum_43 ?_
            refine lv_iload_n hx hb d_X_sum_46 rfl (lv_at hl 4 rfl) ?_
            obtain ⟨g15, h⟩ := hx_gs h
            refine va_aldq hx hb hK hP (1) 0 hx_at_FA rfl g15 d_X_sum_47 ?_
            refine lv_astore (lv' := [(6, .ref (ad (2 + x3.toNatClampNeg))), (5, .ref (ad (6 + 2 * r13))), (0, .ref (ad 0)), (1, .int x1), (2, .int x2), (3, .int x3), (4, .int x4)]) hx hb d_X_sum_48 hl (by decide) rfl (fun ls hl => ?_)
            refine lv_iload_n hx hb d_X_sum_50 rfl (lv_at hl 4 rfl) ?_
            refine lv_if_ne (tgt := 68) hx hb d_X_sum_51 (by decide) (fun c16 => ?_) (fun c16 => ?_)
            · replace h := hx_in c16 h
              refine lv_iload_n hx hb d_X_sum_68 rfl (lv_at hl 4 rfl) ?_
              refine lv_iconst (v := 1) hx hb d_X_sum_69 (by decide) ?_
              refine lv_icmp_ne (tgt := 86) hx hb d_X_sum_70 (by decide) (fun c17 => ?_) (fun c17 => ?_)
              · replace h := hx_in c17 h
                refine lv_aload_n hx hb d_X_sum_86 rfl (lv_at hl 2 rfl) ?_
                refine lv_aload hx hb d_X_sum_87 (lv_at hl 1 rfl) ?_
                refine lv_aload hx hb d_X_sum_89 (lv_at hl 0 rfl) ?_
                refine lv_iload hx hb d_X_sum_91 (lv_at hl 6 rfl) ?_
                obtain ⟨r19, q18, eq18, h⟩ := hx_b2s h
                refine hx_wi (va_runV (As := [.ref (ad (6 + 2 * r13)), .ref (ad (2 + x3.toNatClampNeg)), .int x4]) (rest := []) ⟨hx, hb, hml, hown, hts⟩ (c_X_sumAtOnce l D T3 ad _ σ r13 x3.toNatClampNeg x4 g14 (hx_lt g15) _ _ eq18) (cwV 3 hts (hx_gV hx_cons k_474 k_476 k_14 k_50 k_477) rfl rfl rfl (by decide +kernel) ⟨Nat.le_of_ble_eq_true rfl, Nat.le_of_ble_eq_true rfl⟩) (hx_preVw (va_recv hK hP (ci := 0) (q0 := 0) rfl hx_at_X) hP hK hD) rfl rfl hl.1 rfl (lv_room (Nat.le_of_ble_eq_true rfl)) d_X_sum_93 ⟨Nat.zero_le _, Nat.zero_le _⟩) hD hS hA (fun H locs hP hD hS => ?_)
                exact B_96 q18 r19 _ _ ls hP hD hS (lv_sub hl [] rfl) h
              · replace h := hx_ip c17 h
                refine lv_aload_n hx hb d_X_sum_73 rfl (lv_at hl 2 rfl) ?_
                refine lv_aload hx hb d_X_sum_74 (lv_at hl 1 rfl) ?_
                refine lv_aload hx hb d_X_sum_76 (lv_at hl 0 rfl) ?_
                refine lv_iload hx hb d_X_sum_78 (lv_at hl 6 rfl) ?_
                obtain ⟨r23, q22, eq22, h⟩ := hx_b2s h
                refine hx_wi (va_runV (As := [.ref (ad (6 + 2 * r13)), .ref (ad (2 + x3.toNatClampNeg)), .int x4]) (rest := []) ⟨hx, hb, hml, hown, hts⟩ (c_X_sumAsTree l D T3 ad _ σ r13 x3.toNatClampNeg x4 g14 (hx_lt g15) _ _ eq22) (cwV 3 hts (hx_gV hx_cons k_466 k_468 k_12 k_50 k_469) rfl rfl rfl (by decide +kernel) ⟨Nat.le_of_ble_eq_true rfl, Nat.le_of_ble_eq_true rfl⟩) (hx_preVw (va_recv hK hP (ci := 0) (q0 := 0) rfl hx_at_X) hP hK hD) rfl rfl hl.1 rfl (lv_room (Nat.le_of_ble_eq_true rfl)) d_X_sum_80 ⟨Nat.zero_le _, Nat.zero_le _⟩) hD hS hA (fun H locs hP hD hS => ?_)
                refine lv_goto (tgt := 96) hx hb d_X_sum_83 (by decide) ?_
                exact B_96 q22 r23 _ _ ls hP hD hS (lv_sub hl [] rfl) h
            · replace h := hx_ip c16 h
              refine lv_aload_n hx hb d_X_sum_54 rfl (lv_at hl 2 rfl) ?_
              refine lv_aload hx hb d_X_sum_55 (lv_at hl 1 rfl) ?_
              refine lv_aload hx hb d_X_sum_57 (lv_at hl 0 rfl) ?_
              refine lv_iload hx hb d_X_sum_59 (lv_at hl 6 rfl) ?_
              obtain ⟨r25, q24, eq24, h⟩ := hx_b2s h
              refine hx_wi (va_runV (As := [.ref (ad (6 + 2 * r13)), .ref (ad (2 + x3.toNatClampNeg)), .int x4]) (rest := []) ⟨hx, hb, hml, hown, hts⟩ (c_X_sumFromLeft l D T3 ad _ σ r13 x3.toNatClampNeg x4 g14 (hx_lt g15) _ _ eq24) (cwV 3 hts (hx_gV hx_cons k_458 k_460 k_10 k_50 k_461) rfl rfl rfl (by decide +kernel) ⟨Nat.le_of_ble_eq_true rfl, Nat.le_of_ble_eq_true rfl⟩) (hx_preVw (va_recv hK hP (ci := 0) (q0 := 0) rfl hx_at_X) hP hK hD) rfl rfl hl.1 rfl (lv_room (Nat.le_of_ble_eq_true rfl)) d_X_sum_61 ⟨Nat.zero_le _, Nat.zero_le _⟩) hD hS hA (fun H locs hP hD hS => ?_)
              obtain ⟨r26, er26, h⟩ := hx_b1s h
              refine hx_rd (va_runS (As := [.int r25]) (rest := []) ⟨hx, hb, hml, hown, hts⟩ (c_X_bits l D T3 r25 _ er26) (va_cwS 1 hts (hx_gS hx_cons k_342 k_343 k_50 k_344) rfl rfl rfl (by decide +kernel) ⟨Nat.le_of_ble_eq_true rfl, Nat.le_of_ble_eq_true rfl⟩) (hx_preS hx_nil hK) rfl rfl hl.1 rfl (lv_room (Nat.le_of_ble_eq_true rfl)) d_X_sum_64 ⟨Nat.zero_le _, Nat.zero_le _⟩) ?_
              exact W.lret hx hb hr (fun t ht hW => hx_endj h ht hW hP hK hD hS) hS.2.2 d_X_sum_67
          · replace h := hx_ip c12 h
            refine lv_ldc2 (v := -2) hx hb hown (hts _ (hx_cons _ k_291)) d_X_sum_31 ?_
            exact W.lret hx hb hr (fun t ht hW => hx_endj h ht hW hP hK hD hS) hS.2.2 d_X_sum_34
abbrev m_X_addProductAt : Room := { frames := 3, cells := 0, slots := 0, locals := 84 }
set_option maxHeartbeats 4000000 in
set_option maxRecDepth 100000 in
theorem c_X_addProductAt (l : Launch) (D : va_G) (T3 : hx_T3) (ad : Nat → Nat) (sz : Nat) (σ : hx_S) (x1 : Int32)  (σ0 : hx_S) (h : f_X_addProductAt σ x1 = some σ0) : hx_Wv l D (hx_ty T3) y_X_addProductAt w_X_addProductAt m_X_addProductAt [.ref (ad 0), .int x1] sz (hx_W T3 ad σ) (hx_W T3 ad σ0) := by
  refine Met.ofW (cc := b_X_addProductAt) (maxL := 2) (ret := none) (by decide) rfl ?_
  intro p e s m args below meth c s₁ B hml hv
  obtain ⟨hargs, hsz, hP, hK, hD0⟩ := hv
  have hx := B.exec
  have hb := B.bytes
  have hr := B.returns
  have hts := atoms_spec (ws := w_X_addProductAt) B.pre
  have hown : s.vm.findClass "HalfFloats" = some m.cls := findClass_of_methodNamed B.named
  have hlocks := B.notSynchronized
  subst hsz
  have hD := hD0.self (sz := s.heap.size)
  generalize hAe : va_A (hx_W T3 ad σ) s.heap.size = A at hD ⊢
  have hA : ∀ q : Nat, s.heap.size ≤ q → A q := fun q h => by rw [← hAe]; exact Or.inr h
  have hS : va_S A s.heap s.heap [] := va_S.rf
  refine W.eq (g2 := F0 m 0 ((lg_sl [.ref (ad 0), .int x1] ++ List.replicate (2 - (lg_sl [.ref (ad 0), .int x1]).length) Slot.unset).toArray) []) (by rw [hargs, lg_entry_eq]) ?_
  have hl := lv_entry ([.ref (ad 0), .int x1]) (n := 2) (Nat.le_of_ble_eq_true rfl)
  generalize (lg_sl ([.ref (ad 0), .int x1]) ++ List.replicate (2 - (lg_sl ([.ref (ad 0), .int x1])).length) Slot.unset).toArray = ls at hl ⊢
  have hl : lv_has ls 2 [(0, .ref (ad 0)), (1, .int x1)] := hl
  rw [f_X_addProductAt] at h
  refine lv_aload_n hx hb d_X_addProductAt_0 rfl (lv_at hl 0 rfl) ?_
  refine va_get (D := D) (ci := 0) (v := .ref (ad 10)) (C := "HalfFloats") (T := T_X) (N := 9) hx hb hts (hx_up in_X) hown hK hP (0) hx_at_X rfl 3 (by decide) (hts _ (hx_cons _ k_207)) (fun _ h9 => h9) rfl d_X_addProductAt_1 ?_
  refine lv_aload_n hx hb d_X_addProductAt_4 rfl (lv_at hl 0 rfl) ?_
  refine va_get (D := D) (ci := 0) (v := .ref (ad 1)) (C := "HalfFloats") (T := T_X) (N := 9) hx hb hts (hx_up in_X) hown hK hP (0) hx_at_X rfl 0 (by decide) (hts _ (hx_cons _ k_204)) (fun _ h9 => h9) rfl d_X_addProductAt_5 ?_
  refine lv_aload_n hx hb d_X_addProductAt_8 rfl (lv_at hl 0 rfl) ?_
  refine va_get (D := D) (ci := 0) (v := .ref (ad (6 + 2 * 0))) (C := "HalfFloats") (T := T_X) (N := 9) hx hb hts (hx_up in_X) hown hK hP (0) hx_at_X rfl 1 (by decide) (hts _ (hx_cons _ k_205)) (fun _ h9 => h9) rfl d_X_addProductAt_9 ?_
  refine va_get (D := D) (ci := 2) (v := .int (hx_format σ 0)) (C := "HalfFloats$Row") (T := T_R) (N := 3) hx hb hts (hx_up in_R) hown hK hP (6 + 2 * 0) (hx_at_R (by decide)) rfl 2 (by decide) (hts _ (hx_cons _ k_127)) (fun _ h9 => h9) rfl d_X_addProductAt_12 ?_
  obtain ⟨g2, h⟩ := hx_gs h
  refine va_aldq hx hb hK hP (1) 0 hx_at_FA rfl g2 d_X_addProductAt_15 ?_
  refine lv_aload_n hx hb d_X_addProductAt_16 rfl (lv_at hl 0 rfl) ?_
  refine va_get (D := D) (ci := 0) (v := .ref (ad (6 + 2 * 0))) (C := "HalfFloats") (T := T_X) (N := 9) hx hb hts (hx_up in_X) hown hK hP (0) hx_at_X rfl 1 (by decide) (hts _ (hx_cons _ k_205)) (fun _ h9 => h9) rfl d_X_addProductAt_17 ?_
  refine va_get (D := D) (ci := 2) (v := .ref (ad (7 + 2 * 0))) (C := "HalfFloats$Row") (T := T_R) (N := 3) hx hb hts (hx_up in_R) hown hK hP (6 + 2 * 0) (hx_at_R (by decide)) rfl 0 (by decide) (hts _ (hx_cons _ k_123)) (fun _ h9 => h9) rfl d_X_addProductAt_20 ?_
  refine lv_iload_n hx hb d_X_addProductAt_23 rfl (lv_at hl 1 rfl) ?_
  obtain ⟨g3, h⟩ := hx_gs h
  refine va_iald hx hb hK hP (7 + 2 * 0) 1 (hx_at_RP (by decide)) rfl g3 d_X_addProductAt_24 ?_
  refine lv_aload_n hx hb d_X_addProductAt_25 rfl (lv_at hl 0 rfl) ?_
  refine va_get (D := D) (ci := 0) (v := .ref (ad 1)) (C := "HalfFloats") (T := T_X) (N := 9) hx hb hts (hx_up in_X) hown hK hP (0) hx_at_X rfl 0 (by decide) (hts _ (hx_cons _ k_204)) (fun _ h9 => h9) rfl d_X_addProductAt_26 ?_
  refine lv_aload_n hx hb d_X_addProductAt_29 rfl (lv_at hl 0 rfl) ?_
  refine va_get (D := D) (ci := 0) (v := .ref (ad (6 + 2 * 1))) (C := "HalfFloats") (T := T_X) (N := 9) hx hb hts (hx_up in_X) hown hK hP (0) hx_at_X rfl 2 (by decide) (hts _ (hx_cons _ k_206)) (fun _ h9 => h9) rfl d_X_addProductAt_30 ?_
  refine va_get (D := D) (ci := 2) (v := .int (hx_format σ 1)) (C := "HalfFloats$Row") (T := T_R) (N := 3) hx hb hts (hx_up in_R) hown hK hP (6 + 2 * 1) (hx_at_R (by decide)) rfl 2 (by decide) (hts _ (hx_cons _ k_127)) (fun _ h9 => h9) rfl d_X_addProductAt_33 ?_
  obtain ⟨g4, h⟩ := hx_gs h
  refine va_aldq hx hb hK hP (1) 0 hx_at_FA rfl g4 d_X_addProductAt_36 ?_
  refine lv_aload_n hx hb d_X_addProductAt_37 rfl (lv_at hl 0 rfl) ?_
  refine va_get (D := D) (ci := 0) (v := .ref (ad (6 + 2 * 1))) (C := "HalfFloats") (T := T_X) (N := 9) hx hb hts (hx_up in_X) hown hK hP (0) hx_at_X rfl 2 (by decide) (hts _ (hx_cons _ k_206)) (fun _ h9 => h9) rfl d_X_addProductAt_38 ?_
  refine va_get (D := D) (ci := 2) (v := .ref (ad (7 + 2 * 1))) (C := "HalfFloats$Row") (T := T_R) (N := 3) hx hb hts (hx_up in_R) hown hK hP (6 + 2 * 1) (hx_at_R (by decide)) rfl 0 (by decide) (hts _ (hx_cons _ k_123)) (fun _ h9 => h9) rfl d_X_addProductAt_41 ?_
  refine lv_iload_n hx hb d_X_addProductAt_44 rfl (lv_at hl 1 rfl) ?_
  obtain ⟨g5, h⟩ := hx_gs h
  refine va_iald hx hb hK hP (7 + 2 * 1) 1 (hx_at_RP (by decide)) rfl g5 d_X_addProductAt_45 ?_
  obtain ⟨q6, eq6, h⟩ := hx_b1s h
  refine hx_wv (va_runV (As := [.ref (ad (2 + (hx_format σ 0).toNatClampNeg)), .int (hx_pat σ 0 x1.toNatClampNeg), .ref (ad (2 + (hx_format σ 1).toNatClampNeg)), .int (hx_pat σ 1 x1.toNatClampNeg)]) (rest := []) ⟨hx, hb, hml, hown, hts⟩ (c_E_addProduct l D T3 ad _ σ ((hx_format σ 0).toNatClampNeg) (hx_pat σ 0 x1.toNatClampNeg) ((hx_format σ 1).toNatClampNeg) (hx_pat σ 1 x1.toNatClampNeg) (hx_lt g2) (hx_lt g4) _ eq6) (cwV 4 hts (hx_gV hx_cons k_354 k_355 k_356 k_53 k_357) rfl rfl rfl (by decide +kernel) ⟨Nat.le_of_ble_eq_true rfl, Nat.le_of_ble_eq_true rfl⟩) (hx_preVw (va_recv hK hP (ci := 3) (q0 := 10) rfl hx_at_E) hP hK hD) rfl rfl hl.1 rfl (lv_room (Nat.le_of_ble_eq_true rfl)) d_X_addProductAt_46 ⟨Nat.zero_le _, Nat.zero_le _⟩) hD hS hA (fun H locs hP hD hS => ?_)
  exact W.vret hx hb hr (fun t ht hW => hx_endv h ht hW hP hK hD hS) hS.2.2 d_X_addProductAt_49
abbrev m_X_productsAtOnce : Room := { frames := 5, cells := 0, slots := 0, locals := 112 }
set_option maxHeartbeats 4000000 in
set_option maxRecDepth 100000 in
theorem c_X_productsAtOnce (l : Launch) (D : va_G) (T3 : hx_T3) (ad : Nat → Nat) (sz : Nat) (σ : hx_S) (k1 : Nat) (x2 : Int32) (hk1 : k1 < 4) (r0 : Int32) (σ0 : hx_S) (h : f_X_productsAtOnce σ k1 x2 = some (r0, σ0)) : hx_Wi l D (hx_ty T3) y_X_productsAtOnce w_X_productsAtOnce m_X_productsAtOnce [.ref (ad 0), .ref (ad (2 + k1)), .int x2] sz (hx_W T3 ad σ) r0 (hx_W T3 ad σ0) := by
  refine Met.ofW (cc := b_X_productsAtOnce) (maxL := 5) (ret := (some .int)) (by decide) rfl ?_
  intro p e s m args below meth c s₁ B hml hv
  obtain ⟨hargs, hsz, hP, hK, hD0⟩ := hv
  have hx := B.exec
  have hb := B.bytes
  have hr := B.returns
  have hts := atoms_spec (ws := w_X_productsAtOnce) B.pre
  have hown : s.vm.findClass "HalfFloats" = some m.cls := findClass_of_methodNamed B.named
  have hlocks := B.notSynchronized
  subst hsz
  have hD := hD0.self (sz := s.heap.size)
  generalize hAe : va_A (hx_W T3 ad σ) s.heap.size = A at hD ⊢
  have hA : ∀ q : Nat, s.heap.size ≤ q → A q := fun q h => by rw [← hAe]; exact Or.inr h
  have hS : va_S A s.heap s.heap [] := va_S.rf
  have B_28 : ∀ (n : Nat), ∀ (σ : hx_S) (k5 : Nat) (x6 : Int32) (x7 : Int32) (x8 : Int32) (H : Heap) (locs : List Loc) (ls : Array Slot), va_P D vwCl (hx_W T3 ad σ) H → va_D A (hx_W T3 ad σ) → va_S A s.heap H locs → k5 < 4 → lv_has ls 5 [(0, .ref (ad 0)), (1, .ref (ad (2 + k5))), (2, .int x6), (3, .int x7), (4, .int x8)] → f_X_productsAtOnce_28 n σ k5 x6 x7 x8 = some (r0, σ0) → W p l e (headSpec w_X_productsAtOnce m_X_productsAtOnce).room s m args below meth c H locs 0 0 (MQ below (hx_Qi D (hx_ty T3) A r0 (hx_W T3 ad σ0)) args s 0 0 A) (F0 m 28 ls []) := by
    intro n
    induction n with
    | zero =>
      intro σ k5 x6 x7 x8 H locs ls hP hD hS hk5 hl h
      rw [f_X_productsAtOnce_28] at h
      cases h
    | succ n ih =>
        intro σ k5 x6 x7 x8 H locs ls hP hD hS hk5 hl h
        rw [f_X_productsAtOnce_28] at h
        refine lv_iload hx hb d_X_productsAtOnce_28 (lv_at hl 4 rfl) ?_
        refine lv_iload_n hx hb d_X_productsAtOnce_30 rfl (lv_at hl 3 rfl) ?_
        refine lv_icmp_ge (tgt := 46) hx hb d_X_productsAtOnce_31 (by decide) (fun c9 => ?_) (fun c9 => ?_)
        · replace h := hx_ip c9 h
          refine lv_aload_n hx hb d_X_productsAtOnce_46 rfl (lv_at hl 0 rfl) ?_
          refine va_get (D := D) (ci := 0) (v := .ref (ad 12)) (C := "HalfFloats") (T := T_X) (N := 9) hx hb hts (hx_up in_X) hown hK hP (0) hx_at_X rfl 4 (by decide) (hts _ (hx_cons _ k_208)) (fun _ h9 => h9) rfl d_X_productsAtOnce_47 ?_
          refine lv_aload_n hx hb d_X_productsAtOnce_50 rfl (lv_at hl 0 rfl) ?_
          refine va_get (D := D) (ci := 0) (v := .ref (ad 10)) (C := "HalfFloats") (T := T_X) (N := 9) hx hb hts (hx_up in_X) hown hK hP (0) hx_at_X rfl 3 (by decide) (hts _ (hx_cons _ k_207)) (fun _ h9 => h9) rfl d_X_productsAtOnce_51 ?_
          refine lv_aload_n hx hb d_X_productsAtOnce_54 rfl (lv_at hl 1 rfl) ?_
          refine lv_iload_n hx hb d_X_productsAtOnce_55 rfl (lv_at hl 2 rfl) ?_
          obtain ⟨r11, q10, eq10, h⟩ := hx_b2s h
          refine hx_wi (va_runV (As := [.ref (ad 10), .ref (ad (2 + k5)), .int x6]) (rest := []) ⟨hx, hb, hml, hown, hts⟩ (c_D_rounded l D T3 ad _ σ k5 x6 hk5 _ _ eq10) (cwV 3 hts (hx_gV hx_cons k_383 k_384 k_385 k_54 k_386) rfl rfl rfl (by decide +kernel) ⟨Nat.le_of_ble_eq_true rfl, Nat.le_of_ble_eq_true rfl⟩) (hx_preVw (va_recv hK hP (ci := 4) (q0 := 12) rfl hx_at_D) hP hK hD) rfl rfl hl.1 rfl (lv_room (Nat.le_of_ble_eq_true rfl)) d_X_productsAtOnce_56 ⟨Nat.zero_le _, Nat.zero_le _⟩) hD hS hA (fun H locs hP hD hS => ?_)
          exact W.iret hx hb hr (fun t ht hW => hx_endi h ht hW hP hK hD hS) hS.2.2 d_X_productsAtOnce_59
        · replace h := hx_in c9 h
          refine lv_aload_n hx hb d_X_productsAtOnce_34 rfl (lv_at hl 0 rfl) ?_
          refine lv_iload hx hb d_X_productsAtOnce_35 (lv_at hl 4 rfl) ?_
          obtain ⟨q12, eq12, h⟩ := hx_b1s h
          refine hx_wv (va_runV (As := [.int x8]) (rest := []) ⟨hx, hb, hml, hown, hts⟩ (c_X_addProductAt l D T3 ad _ σ x8 _ eq12) (cwV 1 hts (hx_gV hx_cons k_489 k_491 k_16 k_50 k_492) rfl rfl rfl (by decide +kernel) ⟨Nat.le_of_ble_eq_true rfl, Nat.le_of_ble_eq_true rfl⟩) (hx_preVw (va_recv hK hP (ci := 0) (q0 := 0) rfl hx_at_X) hP hK hD) rfl rfl hl.1 rfl (lv_room (Nat.le_of_ble_eq_true rfl)) d_X_productsAtOnce_37 ⟨Nat.zero_le _, Nat.zero_le _⟩) hD hS hA (fun H locs hP hD hS => ?_)
          obtain ⟨x13, ex13⟩ : ∃ y : Int32, y = x8 + 1 := ⟨_, rfl⟩
          replace h := hx_ns ex13 h
          refine lv_iinc (v := x13) (lv' := [(4, .int x13), (0, .ref (ad 0)), (1, .ref (ad (2 + k5))), (2, .int x6), (3, .int x7)]) hx hb d_X_productsAtOnce_40 hl (k := 4) rfl (by rw [ex13]; rfl) (by decide) rfl (fun ls hl => ?_)
          clear ex13
          refine lv_goto (tgt := 28) hx hb d_X_productsAtOnce_43 (by decide) ?_
          exact ih q12 k5 x6 x7 x13 _ _ ls hP hD hS hk5 (lv_sub hl [1, 2, 3, 4, 0] rfl) h
  refine W.eq (g2 := F0 m 0 ((lg_sl [.ref (ad 0), .ref (ad (2 + k1)), .int x2] ++ List.replicate (5 - (lg_sl [.ref (ad 0), .ref (ad (2 + k1)), .int x2]).length) Slot.unset).toArray) []) (by rw [hargs, lg_entry_eq]) ?_
  have hl := lv_entry ([.ref (ad 0), .ref (ad (2 + k1)), .int x2]) (n := 5) (Nat.le_of_ble_eq_true rfl)
  generalize (lg_sl ([.ref (ad 0), .ref (ad (2 + k1)), .int x2]) ++ List.replicate (5 - (lg_sl ([.ref (ad 0), .ref (ad (2 + k1)), .int x2])).length) Slot.unset).toArray = ls at hl ⊢
  have hl : lv_has ls 5 [(0, .ref (ad 0)), (1, .ref (ad (2 + k1))), (2, .int x2)] := hl
  rw [f_X_productsAtOnce] at h
  refine lv_aload_n hx hb d_X_productsAtOnce_0 rfl (lv_at hl 0 rfl) ?_
  refine va_get (D := D) (ci := 0) (v := .ref (ad (6 + 2 * 0))) (C := "HalfFloats") (T := T_X) (N := 9) hx hb hts (hx_up in_X) hown hK hP (0) hx_at_X rfl 1 (by decide) (hts _ (hx_cons _ k_205)) (fun _ h9 => h9) rfl d_X_productsAtOnce_1 ?_
  refine va_get (D := D) (ci := 2) (v := .int (hx_size σ 0)) (C := "HalfFloats$Row") (T := T_R) (N := 3) hx hb hts (hx_up in_R) hown hK hP (6 + 2 * 0) (hx_at_R (by decide)) rfl 1 (by decide) (hts _ (hx_cons _ k_125)) (fun _ h9 => h9) rfl d_X_productsAtOnce_4 ?_
  refine lv_aload_n hx hb d_X_productsAtOnce_7 rfl (lv_at hl 0 rfl) ?_
  refine va_get (D := D) (ci := 0) (v := .ref (ad (6 + 2 * 1))) (C := "HalfFloats") (T := T_X) (N := 9) hx hb hts (hx_up in_X) hown hK hP (0) hx_at_X rfl 2 (by decide) (hts _ (hx_cons _ k_206)) (fun _ h9 => h9) rfl d_X_productsAtOnce_8 ?_
  refine va_get (D := D) (ci := 2) (v := .int (hx_size σ 1)) (C := "HalfFloats$Row") (T := T_R) (N := 3) hx hb hts (hx_up in_R) hown hK hP (6 + 2 * 1) (hx_at_R (by decide)) rfl 1 (by decide) (hts _ (hx_cons _ k_125)) (fun _ h9 => h9) rfl d_X_productsAtOnce_11 ?_
  refine va_mmin hx hb (hml.trans hl.1.symm) hown (hts _ (hx_cons _ k_486)) (hts _ (hx_cons _ k_487)) (hts _ (hx_cons _ k_56)) (hts _ (hx_cons _ k_488)) (Nat.le_of_ble_eq_true rfl) (Nat.le_of_ble_eq_true rfl) (Nat.zero_le _) (Nat.zero_le _) d_X_productsAtOnce_14 ?_
  refine lv_topi (fun x3 ex3 => ?_)
  replace h := hx_ns ex3 h
  clear ex3
  refine lv_istore_n (lv' := [(3, .int x3), (0, .ref (ad 0)), (1, .ref (ad (2 + k1))), (2, .int x2)]) hx hb d_X_productsAtOnce_17 rfl hl (by decide) rfl (fun ls hl => ?_)
  refine lv_aload_n hx hb d_X_productsAtOnce_18 rfl (lv_at hl 1 rfl) ?_
  refine va_get (D := D) (ci := 0) (v := .ref (ad 10)) (C := "HalfFloats") (T := T_X) (N := 9) hx hb hts (hx_up in_X) hown hK hP (0) hx_at_X rfl 3 (by decide) (hts _ (hx_cons _ k_207)) (fun _ h9 => h9) rfl d_X_productsAtOnce_19 ?_
  obtain ⟨q4, eq4, h⟩ := hx_b1s h
  refine hx_wv (va_runV (As := []) (rest := []) ⟨hx, hb, hml, hown, hts⟩ (c_E_begin l D T3 ad _ σ _ eq4) (cwV 0 hts (hx_gV hx_cons k_350 k_351 k_352 k_53 k_353) rfl rfl rfl (by decide +kernel) ⟨Nat.le_of_ble_eq_true rfl, Nat.le_of_ble_eq_true rfl⟩) (hx_preVw (va_recv hK hP (ci := 3) (q0 := 10) rfl hx_at_E) hP hK hD) rfl rfl hl.1 rfl (lv_room (Nat.le_of_ble_eq_true rfl)) d_X_productsAtOnce_22 ⟨Nat.zero_le _, Nat.zero_le _⟩) hD hS hA (fun H locs hP hD hS => ?_)
  refine lv_iconst (v := 0) hx hb d_X_productsAtOnce_25 (by decide) ?_
  refine lv_istore (lv' := [(4, .int (0 : Int32)), (3, .int x3), (0, .ref (ad 0)), (1, .ref (ad (2 + k1))), (2, .int x2)]) hx hb d_X_productsAtOnce_26 hl (by decide) rfl (fun ls hl => ?_)
  exact B_28 hx_fuel q4 k1 x2 x3 (0 : Int32) _ _ ls hP hD hS hk1 (lv_sub hl [2, 3, 4, 1, 0] rfl) h
abbrev m_X_productsInPieces : Room := { frames := 6, cells := 0, slots := 0, locals := 137 }
set_option maxHeartbeats 4000000 in
set_option maxRecDepth 100000 in
theorem c_X_productsInPieces (l : Launch) (D : va_G) (T3 : hx_T3) (ad : Nat → Nat) (sz : Nat) (σ : hx_S) (x1 : Int32) (k2 : Nat) (k3 : Nat) (x4 : Int32) (hk2 : k2 < 4) (hk3 : k3 < 4) (r0 : Int32) (σ0 : hx_S) (h : f_X_productsInPieces σ x1 k2 k3 x4 = some (r0, σ0)) : hx_Wi l D (hx_ty T3) y_X_productsInPieces w_X_productsInPieces m_X_productsInPieces [.ref (ad 0), .int x1, .ref (ad (2 + k2)), .ref (ad (2 + k3)), .int x4] sz (hx_W T3 ad σ) r0 (hx_W T3 ad σ0) := by
  refine Met.ofW (cc := b_X_productsInPieces) (maxL := 10) (ret := (some .int)) (by decide) rfl ?_
  intro p e s m args below meth c s₁ B hml hv
  obtain ⟨hargs, hsz, hP, hK, hD0⟩ := hv
  have hx := B.exec
  have hb := B.bytes
  have hr := B.returns
  have hts := atoms_spec (ws := w_X_productsInPieces) B.pre
  have hown : s.vm.findClass "HalfFloats" = some m.cls := findClass_of_methodNamed B.named
  have hlocks := B.notSynchronized
  subst hsz
  have hD := hD0.self (sz := s.heap.size)
  generalize hAe : va_A (hx_W T3 ad σ) s.heap.size = A at hD ⊢
  have hA : ∀ q : Nat, s.heap.size ≤ q → A q := fun q h => by rw [← hAe]; exact Or.inr h
  have hS : va_S A s.heap s.heap [] := va_S.rf
  have B_116 : ∀ (K31 : hx_S → Int32 → Nat → Nat → Int32 → Int32 → Int32 → Int32 → Int32 → Int32 → Option (Int32 × hx_S)) (hK31 : ∀ (σ : hx_S) (x6 : Int32) (k7 : Nat) (k8 : Nat) (x9 : Int32) (x10 : Int32) (x11 : Int32) (x12 : Int32) (x13 : Int32) (x14 : Int32) (H : Heap) (locs : List Loc) (ls : Array Slot), va_P D vwCl (hx_W T3 ad σ) H → va_D A (hx_W T3 ad σ) → va_S A s.heap H locs → k7 < 4 → k8 < 4 → lv_has ls 10 [(0, .ref (ad 0)), (1, .int x6), (2, .ref (ad (2 + k7))), (3, .ref (ad (2 + k8))), (4, .int x9), (5, .int x10), (6, .int x11), (7, .int x12), (8, .int x13), (9, .int x14)] → K31 σ x6 k7 k8 x9 x10 x11 x12 x13 x14 = some (r0, σ0) → W p l e (headSpec w_X_productsInPieces m_X_productsInPieces).room s m args below meth c H locs 0 0 (MQ below (hx_Qi D (hx_ty T3) A r0 (hx_W T3 ad σ0)) args s 0 0 A) (F0 m 31 ls [])), ∀ (σ : hx_S) (x33 : Int32) (k34 : Nat) (k35 : Nat) (x36 : Int32) (x37 : Int32) (x38 : Int32) (x39 : Int32) (x40 : Int32) (x41 : Int32) (H : Heap) (locs : List Loc) (ls : Array Slot), va_P D vwCl (hx_W T3 ad σ) H → va_D A (hx_W T3 ad σ) → va_S A s.heap H locs → k34 < 4 → k35 < 4 → lv_has ls 10 [(0, .ref (ad 0)), (1, .int x33), (2, .ref (ad (2 + k34))), (3, .ref (ad (2 + k35))), (4, .int x36), (5, .int x37), (6, .int x38), (7, .int x39), (8, .int x40), (9, .int x41)] → f_X_productsInPieces_116 K31 σ x33 k34 k35 x36 x37 x38 x39 x40 x41 = some (r0, σ0) → W p l e (headSpec w_X_productsInPieces m_X_productsInPieces).room s m args below meth c H locs 0 0 (MQ below (hx_Qi D (hx_ty T3) A r0 (hx_W T3 ad σ0)) args s 0 0 A) (F0 m 116 ls []) := by
      intro K31 hK31
      intro σ x33 k34 k35 x36 x37 x38 x39 x40 x41 H locs ls hP hD hS hk34 hk35 hl h
      rw [f_X_productsInPieces_116] at h
      obtain ⟨x42, ex42⟩ : ∃ y : Int32, y = x41 + 1 := ⟨_, rfl⟩
      replace h := hx_ns ex42 h
      refine lv_iinc (v := x42) (lv' := [(9, .int x42), (0, .ref (ad 0)), (1, .int x33), (2, .ref (ad (2 + k34))), (3, .ref (ad (2 + k35))), (4, .int x36), (5, .int x37), (6, .int x38), (7, .int x39), (8, .int x40)]) hx hb d_X_productsInPieces_116 hl (k := 9) rfl (by rw [ex42]; rfl) (by decide) rfl (fun ls hl => ?_)
      clear ex42
      refine lv_goto (tgt := 31) hx hb d_X_productsInPieces_119 (by decide) ?_
      exact hK31 σ x33 k34 k35 x36 x37 x38 x39 x40 x42 _ _ ls hP hD hS hk34 hk35 (lv_sub hl [1, 2, 3, 4, 5, 6, 7, 8, 9, 0] rfl) h
  have B_96 : ∀ (K31 : hx_S → Int32 → Nat → Nat → Int32 → Int32 → Int32 → Int32 → Int32 → Int32 → Option (Int32 × hx_S)) (hK31 : ∀ (σ : hx_S) (x6 : Int32) (k7 : Nat) (k8 : Nat) (x9 : Int32) (x10 : Int32) (x11 : Int32) (x12 : Int32) (x13 : Int32) (x14 : Int32) (H : Heap) (locs : List Loc) (ls : Array Slot), va_P D vwCl (hx_W T3 ad σ) H → va_D A (hx_W T3 ad σ) → va_S A s.heap H locs → k7 < 4 → k8 < 4 → lv_has ls 10 [(0, .ref (ad 0)), (1, .int x6), (2, .ref (ad (2 + k7))), (3, .ref (ad (2 + k8))), (4, .int x9), (5, .int x10), (6, .int x11), (7, .int x12), (8, .int x13), (9, .int x14)] → K31 σ x6 k7 k8 x9 x10 x11 x12 x13 x14 = some (r0, σ0) → W p l e (headSpec w_X_productsInPieces m_X_productsInPieces).room s m args below meth c H locs 0 0 (MQ below (hx_Qi D (hx_ty T3) A r0 (hx_W T3 ad σ0)) args s 0 0 A) (F0 m 31 ls [])), ∀ (σ : hx_S) (x23 : Int32) (k24 : Nat) (k25 : Nat) (x26 : Int32) (x27 : Int32) (x28 : Int32) (x29 : Int32) (x30 : Int32) (H : Heap) (locs : List Loc) (ls : Array Slot), va_P D vwCl (hx_W T3 ad σ) H → va_D A (hx_W T3 ad σ) → va_S A s.heap H locs → k24 < 4 → k25 < 4 → lv_has ls 10 [(0, .ref (ad 0)), (1, .int x23), (2, .ref (ad (2 + k24))), (3, .ref (ad (2 + k25))), (4, .int x26), (5, .int x27), (6, .int x28), (7, .int x29), (9, .int x30)] → f_X_productsInPieces_96 K31 σ x23 k24 k25 x26 x27 x28 x29 x30 = some (r0, σ0) → W p l e (headSpec w_X_productsInPieces m_X_productsInPieces).room s m args below meth c H locs 0 0 (MQ below (hx_Qi D (hx_ty T3) A r0 (hx_W T3 ad σ0)) args s 0 0 A) (F0 m 96 ls []) := by
      intro K31 hK31
      intro σ x23 k24 k25 x26 x27 x28 x29 x30 H locs ls hP hD hS hk24 hk25 hl h
      rw [f_X_productsInPieces_96] at h
      refine lv_aload_n hx hb d_X_productsInPieces_96 rfl (lv_at hl 0 rfl) ?_
      refine lv_aload_n hx hb d_X_productsInPieces_97 rfl (lv_at hl 2 rfl) ?_
      refine lv_iload hx hb d_X_productsInPieces_98 (lv_at hl 7 rfl) ?_
      refine lv_aload_n hx hb d_X_productsInPieces_100 rfl (lv_at hl 3 rfl) ?_
      refine lv_iload hx hb d_X_productsInPieces_101 (lv_at hl 6 rfl) ?_
      refine lv_iload hx hb d_X_productsInPieces_103 (lv_at hl 4 rfl) ?_
      obtain ⟨r32, q31, eq31, h⟩ := hx_b2s h
      refine hx_wi (va_runV (As := [.ref (ad (2 + k24)), .int x29, .ref (ad (2 + k25)), .int x28, .int x26]) (rest := []) ⟨hx, hb, hml, hown, hts⟩ (c_X_plus l D T3 ad _ σ k24 x29 k25 x28 x26 hk24 hk25 _ _ eq31) (cwV 5 hts (hx_gV hx_cons k_462 k_464 k_11 k_50 k_465) rfl rfl rfl (by decide +kernel) ⟨Nat.le_of_ble_eq_true rfl, Nat.le_of_ble_eq_true rfl⟩) (hx_preVw (va_recv hK hP (ci := 0) (q0 := 0) rfl hx_at_X) hP hK hD) rfl rfl hl.1 rfl (lv_room (Nat.le_of_ble_eq_true rfl)) d_X_productsInPieces_105 ⟨Nat.zero_le _, Nat.zero_le _⟩) hD hS hA (fun H locs hP hD hS => ?_)
      refine lv_istore (lv' := [(6, .int r32), (0, .ref (ad 0)), (1, .int x23), (2, .ref (ad (2 + k24))), (3, .ref (ad (2 + k25))), (4, .int x26), (5, .int x27), (7, .int x29), (9, .int x30)]) hx hb d_X_productsInPieces_108 hl (by decide) rfl (fun ls hl => ?_)
      refine lv_iconst (v := 0) hx hb d_X_productsInPieces_110 (by decide) ?_
      refine lv_istore (lv' := [(7, .int (0 : Int32)), (6, .int r32), (0, .ref (ad 0)), (1, .int x23), (2, .ref (ad (2 + k24))), (3, .ref (ad (2 + k25))), (4, .int x26), (5, .int x27), (9, .int x30)]) hx hb d_X_productsInPieces_111 hl (by decide) rfl (fun ls hl => ?_)
      refine lv_iconst (v := 0) hx hb d_X_productsInPieces_113 (by decide) ?_
      refine lv_istore (lv' := [(8, .int (0 : Int32)), (7, .int (0 : Int32)), (6, .int r32), (0, .ref (ad 0)), (1, .int x23), (2, .ref (ad (2 + k24))), (3, .ref (ad (2 + k25))), (4, .int x26), (5, .int x27), (9, .int x30)]) hx hb d_X_productsInPieces_114 hl (by decide) rfl (fun ls hl => ?_)
      exact B_116 K31 hK31 q31 x23 k24 k25 x26 x27 r32 (0 : Int32) (0 : Int32) x30 _ _ ls hP hD hS hk24 hk25 (lv_sub hl [3, 4, 5, 6, 7, 8, 2, 1, 0, 9] rfl) h
  have B_31 : ∀ (n : Nat), ∀ (σ : hx_S) (x6 : Int32) (k7 : Nat) (k8 : Nat) (x9 : Int32) (x10 : Int32) (x11 : Int32) (x12 : Int32) (x13 : Int32) (x14 : Int32) (H : Heap) (locs : List Loc) (ls : Array Slot), va_P D vwCl (hx_W T3 ad σ) H → va_D A (hx_W T3 ad σ) → va_S A s.heap H locs → k7 < 4 → k8 < 4 → lv_has ls 10 [(0, .ref (ad 0)), (1, .int x6), (2, .ref (ad (2 + k7))), (3, .ref (ad (2 + k8))), (4, .int x9), (5, .int x10), (6, .int x11), (7, .int x12), (8, .int x13), (9, .int x14)] → f_X_productsInPieces_31 n σ x6 k7 k8 x9 x10 x11 x12 x13 x14 = some (r0, σ0) → W p l e (headSpec w_X_productsInPieces m_X_productsInPieces).room s m args below meth c H locs 0 0 (MQ below (hx_Qi D (hx_ty T3) A r0 (hx_W T3 ad σ0)) args s 0 0 A) (F0 m 31 ls []) := by
    intro n
    induction n with
    | zero =>
      intro σ x6 k7 k8 x9 x10 x11 x12 x13 x14 H locs ls hP hD hS hk7 hk8 hl h
      rw [f_X_productsInPieces_31] at h
      cases h
    | succ n ih =>
        intro σ x6 k7 k8 x9 x10 x11 x12 x13 x14 H locs ls hP hD hS hk7 hk8 hl h
        rw [f_X_productsInPieces_31] at h
        refine lv_iload hx hb d_X_productsInPieces_31 (lv_at hl 9 rfl) ?_
        refine lv_iload hx hb d_X_productsInPieces_33 (lv_at hl 5 rfl) ?_
        refine lv_icmp_ge (tgt := 122) hx hb d_X_productsInPieces_35 (by decide) (fun c15 => ?_) (fun c15 => ?_)
        · replace h := hx_ip c15 h
          refine lv_iload hx hb d_X_productsInPieces_122 (lv_at hl 6 rfl) ?_
          exact W.iret hx hb hr (fun t ht hW => hx_endi h ht hW hP hK hD hS) hS.2.2 d_X_productsInPieces_124
        · replace h := hx_in c15 h
          refine lv_aload_n hx hb d_X_productsInPieces_38 rfl (lv_at hl 0 rfl) ?_
          refine va_get (D := D) (ci := 0) (v := .ref (ad 10)) (C := "HalfFloats") (T := T_X) (N := 9) hx hb hts (hx_up in_X) hown hK hP (0) hx_at_X rfl 3 (by decide) (hts _ (hx_cons _ k_207)) (fun _ h9 => h9) rfl d_X_productsInPieces_39 ?_
          obtain ⟨q16, eq16, h⟩ := hx_b1s h
          refine hx_wv (va_runV (As := []) (rest := []) ⟨hx, hb, hml, hown, hts⟩ (c_E_begin l D T3 ad _ σ _ eq16) (cwV 0 hts (hx_gV hx_cons k_350 k_351 k_352 k_53 k_353) rfl rfl rfl (by decide +kernel) ⟨Nat.le_of_ble_eq_true rfl, Nat.le_of_ble_eq_true rfl⟩) (hx_preVw (va_recv hK hP (ci := 3) (q0 := 10) rfl hx_at_E) hP hK hD) rfl rfl hl.1 rfl (lv_room (Nat.le_of_ble_eq_true rfl)) d_X_productsInPieces_42 ⟨Nat.zero_le _, Nat.zero_le _⟩) hD hS hA (fun H locs hP hD hS => ?_)
          refine lv_aload_n hx hb d_X_productsInPieces_45 rfl (lv_at hl 0 rfl) ?_
          refine va_get (D := D) (ci := 0) (v := .ref (ad 10)) (C := "HalfFloats") (T := T_X) (N := 9) hx hb hts (hx_up in_X) hown hK hP (0) hx_at_X rfl 3 (by decide) (hts _ (hx_cons _ k_207)) (fun _ h9 => h9) rfl d_X_productsInPieces_46 ?_
          refine lv_aload_n hx hb d_X_productsInPieces_49 rfl (lv_at hl 2 rfl) ?_
          refine lv_iload hx hb d_X_productsInPieces_50 (lv_at hl 7 rfl) ?_
          refine lv_iconst (v := 0) hx hb d_X_productsInPieces_52 (by decide) ?_
          obtain ⟨q17, eq17, h⟩ := hx_b1s h
          refine hx_wv (va_runV (As := [.ref (ad (2 + k7)), .int x12, .int (0 : Int32)]) (rest := []) ⟨hx, hb, hml, hown, hts⟩ (c_E_addValue l D T3 ad _ q16 k7 x12 (0 : Int32) hk7 _ eq17) (cwV 3 hts (hx_gV hx_cons k_379 k_380 k_381 k_53 k_382) rfl rfl rfl (by decide +kernel) ⟨Nat.le_of_ble_eq_true rfl, Nat.le_of_ble_eq_true rfl⟩) (hx_preVw (va_recv hK hP (ci := 3) (q0 := 10) rfl hx_at_E) hP hK hD) rfl rfl hl.1 rfl (lv_room (Nat.le_of_ble_eq_true rfl)) d_X_productsInPieces_53 ⟨Nat.zero_le _, Nat.zero_le _⟩) hD hS hA (fun H locs hP hD hS => ?_)
          refine lv_aload_n hx hb d_X_productsInPieces_56 rfl (lv_at hl 0 rfl) ?_
          refine lv_iload hx hb d_X_productsInPieces_57 (lv_at hl 9 rfl) ?_
          obtain ⟨q18, eq18, h⟩ := hx_b1s h
          refine hx_wv (va_runV (As := [.int x14]) (rest := []) ⟨hx, hb, hml, hown, hts⟩ (c_X_addProductAt l D T3 ad _ q17 x14 _ eq18) (cwV 1 hts (hx_gV hx_cons k_489 k_491 k_16 k_50 k_492) rfl rfl rfl (by decide +kernel) ⟨Nat.le_of_ble_eq_true rfl, Nat.le_of_ble_eq_true rfl⟩) (hx_preVw (va_recv hK hP (ci := 0) (q0 := 0) rfl hx_at_X) hP hK hD) rfl rfl hl.1 rfl (lv_room (Nat.le_of_ble_eq_true rfl)) d_X_productsInPieces_59 ⟨Nat.zero_le _, Nat.zero_le _⟩) hD hS hA (fun H locs hP hD hS => ?_)
          refine lv_aload_n hx hb d_X_productsInPieces_62 rfl (lv_at hl 0 rfl) ?_
          refine va_get (D := D) (ci := 0) (v := .ref (ad 12)) (C := "HalfFloats") (T := T_X) (N := 9) hx hb hts (hx_up in_X) hown hK hP (0) hx_at_X rfl 4 (by decide) (hts _ (hx_cons _ k_208)) (fun _ h9 => h9) rfl d_X_productsInPieces_63 ?_
          refine lv_aload_n hx hb d_X_productsInPieces_66 rfl (lv_at hl 0 rfl) ?_
          refine va_get (D := D) (ci := 0) (v := .ref (ad 10)) (C := "HalfFloats") (T := T_X) (N := 9) hx hb hts (hx_up in_X) hown hK hP (0) hx_at_X rfl 3 (by decide) (hts _ (hx_cons _ k_207)) (fun _ h9 => h9) rfl d_X_productsInPieces_67 ?_
          refine lv_aload_n hx hb d_X_productsInPieces_70 rfl (lv_at hl 2 rfl) ?_
          refine lv_iload hx hb d_X_productsInPieces_71 (lv_at hl 4 rfl) ?_
          obtain ⟨r20, q19, eq19, h⟩ := hx_b2s h
          refine hx_wi (va_runV (As := [.ref (ad 10), .ref (ad (2 + k7)), .int x9]) (rest := []) ⟨hx, hb, hml, hown, hts⟩ (c_D_rounded l D T3 ad _ q18 k7 x9 hk7 _ _ eq19) (cwV 3 hts (hx_gV hx_cons k_383 k_384 k_385 k_54 k_386) rfl rfl rfl (by decide +kernel) ⟨Nat.le_of_ble_eq_true rfl, Nat.le_of_ble_eq_true rfl⟩) (hx_preVw (va_recv hK hP (ci := 4) (q0 := 12) rfl hx_at_D) hP hK hD) rfl rfl hl.1 rfl (lv_room (Nat.le_of_ble_eq_true rfl)) d_X_productsInPieces_73 ⟨Nat.zero_le _, Nat.zero_le _⟩) hD hS hA (fun H locs hP hD hS => ?_)
          refine lv_istore (lv' := [(7, .int r20), (0, .ref (ad 0)), (1, .int x6), (2, .ref (ad (2 + k7))), (3, .ref (ad (2 + k8))), (4, .int x9), (5, .int x10), (6, .int x11), (8, .int x13), (9, .int x14)]) hx hb d_X_productsInPieces_76 hl (by decide) rfl (fun ls hl => ?_)
          obtain ⟨x21, ex21⟩ : ∃ y : Int32, y = x13 + 1 := ⟨_, rfl⟩
          replace h := hx_ns ex21 h
          refine lv_iinc (v := x21) (lv' := [(8, .int x21), (7, .int r20), (0, .ref (ad 0)), (1, .int x6), (2, .ref (ad (2 + k7))), (3, .ref (ad (2 + k8))), (4, .int x9), (5, .int x10), (6, .int x11), (9, .int x14)]) hx hb d_X_productsInPieces_78 hl (k := 8) rfl (by rw [ex21]; rfl) (by decide) rfl (fun ls hl => ?_)
          clear ex21
          refine lv_iload hx hb d_X_productsInPieces_81 (lv_at hl 0 rfl) ?_
          refine lv_iload_n hx hb d_X_productsInPieces_83 rfl (lv_at hl 3 rfl) ?_
          refine lv_icmp_eq (tgt := 96) hx hb d_X_productsInPieces_84 (by decide) (fun c22 => ?_) (fun c22 => ?_)
          · replace h := hx_ip c22 h
            exact B_96 (f_X_productsInPieces_31 n) ih q19 x6 k7 k8 x9 x10 x11 r20 x14 _ _ ls hP hD hS hk7 hk8 (lv_sub hl [2, 3, 4, 5, 6, 7, 8, 1, 9] rfl) h
          · replace h := hx_in c22 h
            refine lv_iload hx hb d_X_productsInPieces_87 (lv_at hl 9 rfl) ?_
            refine lv_iload hx hb d_X_productsInPieces_89 (lv_at hl 7 rfl) ?_
            refine lv_iconst (v := 1) hx hb d_X_productsInPieces_91 (by decide) ?_
            refine lv_isub hx hb d_X_productsInPieces_92 ?_
            refine lv_icmp_ne (tgt := 116) hx hb d_X_productsInPieces_93 (by decide) (fun c43 => ?_) (fun c43 => ?_)
            · replace h := hx_in c43 h
              exact B_116 (f_X_productsInPieces_31 n) ih q19 x6 k7 k8 x9 x10 x11 r20 x21 x14 _ _ ls hP hD hS hk7 hk8 (lv_sub hl [2, 3, 4, 5, 6, 7, 8, 1, 0, 9] rfl) h
            · replace h := hx_ip c43 h
              exact B_96 (f_X_productsInPieces_31 n) ih q19 x6 k7 k8 x9 x10 x11 r20 x14 _ _ ls hP hD hS hk7 hk8 (lv_sub hl [2, 3, 4, 5, 6, 7, 8, 1, 9] rfl) h
  refine W.eq (g2 := F0 m 0 ((lg_sl [.ref (ad 0), .int x1, .ref (ad (2 + k2)), .ref (ad (2 + k3)), .int x4] ++ List.replicate (10 - (lg_sl [.ref (ad 0), .int x1, .ref (ad (2 + k2)), .ref (ad (2 + k3)), .int x4]).length) Slot.unset).toArray) []) (by rw [hargs, lg_entry_eq]) ?_
  have hl := lv_entry ([.ref (ad 0), .int x1, .ref (ad (2 + k2)), .ref (ad (2 + k3)), .int x4]) (n := 10) (Nat.le_of_ble_eq_true rfl)
  generalize (lg_sl ([.ref (ad 0), .int x1, .ref (ad (2 + k2)), .ref (ad (2 + k3)), .int x4]) ++ List.replicate (10 - (lg_sl ([.ref (ad 0), .int x1, .ref (ad (2 + k2)), .ref (ad (2 + k3)), .int x4])).length) Slot.unset).toArray = ls at hl ⊢
  have hl : lv_has ls 10 [(0, .ref (ad 0)), (1, .int x1), (2, .ref (ad (2 + k2))), (3, .ref (ad (2 + k3))), (4, .int x4)] := hl
  rw [f_X_productsInPieces] at h
  refine lv_aload_n hx hb d_X_productsInPieces_0 rfl (lv_at hl 0 rfl) ?_
  refine va_get (D := D) (ci := 0) (v := .ref (ad (6 + 2 * 0))) (C := "HalfFloats") (T := T_X) (N := 9) hx hb hts (hx_up in_X) hown hK hP (0) hx_at_X rfl 1 (by decide) (hts _ (hx_cons _ k_205)) (fun _ h9 => h9) rfl d_X_productsInPieces_1 ?_
  refine va_get (D := D) (ci := 2) (v := .int (hx_size σ 0)) (C := "HalfFloats$Row") (T := T_R) (N := 3) hx hb hts (hx_up in_R) hown hK hP (6 + 2 * 0) (hx_at_R (by decide)) rfl 1 (by decide) (hts _ (hx_cons _ k_125)) (fun _ h9 => h9) rfl d_X_productsInPieces_4 ?_
  refine lv_aload_n hx hb d_X_productsInPieces_7 rfl (lv_at hl 0 rfl) ?_
  refine va_get (D := D) (ci := 0) (v := .ref (ad (6 + 2 * 1))) (C := "HalfFloats") (T := T_X) (N := 9) hx hb hts (hx_up in_X) hown hK hP (0) hx_at_X rfl 2 (by decide) (hts _ (hx_cons _ k_206)) (fun _ h9 => h9) rfl d_X_productsInPieces_8 ?_
  refine va_get (D := D) (ci := 2) (v := .int (hx_size σ 1)) (C := "HalfFloats$Row") (T := T_R) (N := 3) hx hb hts (hx_up in_R) hown hK hP (6 + 2 * 1) (hx_at_R (by decide)) rfl 1 (by decide) (hts _ (hx_cons _ k_125)) (fun _ h9 => h9) rfl d_X_productsInPieces_11 ?_
  refine va_mmin hx hb (hml.trans hl.1.symm) hown (hts _ (hx_cons _ k_486)) (hts _ (hx_cons _ k_487)) (hts _ (hx_cons _ k_56)) (hts _ (hx_cons _ k_488)) (Nat.le_of_ble_eq_true rfl) (Nat.le_of_ble_eq_true rfl) (Nat.zero_le _) (Nat.zero_le _) d_X_productsInPieces_14 ?_
  refine lv_topi (fun x5 ex5 => ?_)
  replace h := hx_ns ex5 h
  clear ex5
  refine lv_istore (lv' := [(5, .int x5), (0, .ref (ad 0)), (1, .int x1), (2, .ref (ad (2 + k2))), (3, .ref (ad (2 + k3))), (4, .int x4)]) hx hb d_X_productsInPieces_17 hl (by decide) rfl (fun ls hl => ?_)
  refine lv_iconst (v := 0) hx hb d_X_productsInPieces_19 (by decide) ?_
  refine lv_istore (lv' := [(6, .int (0 : Int32)), (5, .int x5), (0, .ref (ad 0)), (1, .int x1), (2, .ref (ad (2 + k2))), (3, .ref (ad (2 + k3))), (4, .int x4)]) hx hb d_X_productsInPieces_20 hl (by decide) rfl (fun ls hl => ?_)
  refine lv_iconst (v := 0) hx hb d_X_productsInPieces_22 (by decide) ?_
  refine lv_istore (lv' := [(7, .int (0 : Int32)), (6, .int (0 : Int32)), (5, .int x5), (0, .ref (ad 0)), (1, .int x1), (2, .ref (ad (2 + k2))), (3, .ref (ad (2 + k3))), (4, .int x4)]) hx hb d_X_productsInPieces_23 hl (by decide) rfl (fun ls hl => ?_)
  refine lv_iconst (v := 0) hx hb d_X_productsInPieces_25 (by decide) ?_
  refine lv_istore (lv' := [(8, .int (0 : Int32)), (7, .int (0 : Int32)), (6, .int (0 : Int32)), (5, .int x5), (0, .ref (ad 0)), (1, .int x1), (2, .ref (ad (2 + k2))), (3, .ref (ad (2 + k3))), (4, .int x4)]) hx hb d_X_productsInPieces_26 hl (by decide) rfl (fun ls hl => ?_)
  refine lv_iconst (v := 0) hx hb d_X_productsInPieces_28 (by decide) ?_
  refine lv_istore (lv' := [(9, .int (0 : Int32)), (8, .int (0 : Int32)), (7, .int (0 : Int32)), (6, .int (0 : Int32)), (5, .int x5), (0, .ref (ad 0)), (1, .int x1), (2, .ref (ad (2 + k2))), (3, .ref (ad (2 + k3))), (4, .int x4)]) hx hb d_X_productsInPieces_29 hl (by decide) rfl (fun ls hl => ?_)
  exact B_31 hx_fuel σ x1 k2 k3 x4 x5 (0 : Int32) (0 : Int32) (0 : Int32) (0 : Int32) _ _ ls hP hD hS hk2 hk3 (lv_sub hl [5, 6, 7, 8, 9, 4, 3, 2, 1, 0] rfl) h
abbrev m_X_dot : Room := { frames := 7, cells := 0, slots := 0, locals := 166 }
set_option maxHeartbeats 4000000 in
set_option maxRecDepth 100000 in
theorem c_X_dot (l : Launch) (D : va_G) (T3 : hx_T3) (ad : Nat → Nat) (sz : Nat) (σ : hx_S) (x1 : Int32) (x2 : Int32) (x3 : Int32) (x4 : Int32) (r0 : Int64) (σ0 : hx_S) (h : f_X_dot σ x1 x2 x3 x4 = some (r0, σ0)) : hx_Wj l D (hx_ty T3) y_X_dot w_X_dot m_X_dot [.ref (ad 0), .int x1, .int x2, .int x3, .int x4] sz (hx_W T3 ad σ) r0 (hx_W T3 ad σ0) := by
  refine Met.ofW (cc := b_X_dot) (maxL := 5) (ret := (some .long)) (by decide) rfl ?_
  intro p e s m args below meth c s₁ B hml hv
  obtain ⟨hargs, hsz, hP, hK, hD0⟩ := hv
  have hx := B.exec
  have hb := B.bytes
  have hr := B.returns
  have hts := atoms_spec (ws := w_X_dot) B.pre
  have hown : s.vm.findClass "HalfFloats" = some m.cls := findClass_of_methodNamed B.named
  have hlocks := B.notSynchronized
  subst hsz
  have hD := hD0.self (sz := s.heap.size)
  generalize hAe : va_A (hx_W T3 ad σ) s.heap.size = A at hD ⊢
  have hA : ∀ q : Nat, s.heap.size ≤ q → A q := fun q h => by rw [← hAe]; exact Or.inr h
  have hS : va_S A s.heap s.heap [] := va_S.rf
  refine W.eq (g2 := F0 m 0 ((lg_sl [.ref (ad 0), .int x1, .int x2, .int x3, .int x4] ++ List.replicate (5 - (lg_sl [.ref (ad 0), .int x1, .int x2, .int x3, .int x4]).length) Slot.unset).toArray) []) (by rw [hargs, lg_entry_eq]) ?_
  have hl := lv_entry ([.ref (ad 0), .int x1, .int x2, .int x3, .int x4]) (n := 5) (Nat.le_of_ble_eq_true rfl)
  generalize (lg_sl ([.ref (ad 0), .int x1, .int x2, .int x3, .int x4]) ++ List.replicate (5 - (lg_sl ([.ref (ad 0), .int x1, .int x2, .int x3, .int x4])).length) Slot.unset).toArray = ls at hl ⊢
  have hl : lv_has ls 5 [(0, .ref (ad 0)), (1, .int x1), (2, .int x2), (3, .int x3), (4, .int x4)] := hl
  rw [f_X_dot] at h
  refine lv_iload_n hx hb d_X_dot_0 rfl (lv_at hl 1 rfl) ?_
  refine lv_if_lt (tgt := 32) hx hb d_X_dot_1 (by decide) (fun c5 => ?_) (fun c5 => ?_)
  · replace h := hx_ip c5 h
    refine lv_ldc2 (v := -2) hx hb hown (hts _ (hx_cons _ k_291)) d_X_dot_32 ?_
    exact W.lret hx hb hr (fun t ht hW => hx_endj h ht hW hP hK hD hS) hS.2.2 d_X_dot_35
  · replace h := hx_in c5 h
    refine lv_iload_n hx hb d_X_dot_4 rfl (lv_at hl 1 rfl) ?_
    refine lv_bipush (v := 32) hx hb d_X_dot_5 (by decide) ?_
    refine lv_icmp_gt (tgt := 32) hx hb d_X_dot_7 (by decide) (fun c6 => ?_) (fun c6 => ?_)
    · replace h := hx_ip c6 h
      refine lv_ldc2 (v := -2) hx hb hown (hts _ (hx_cons _ k_291)) d_X_dot_32 ?_
      exact W.lret hx hb hr (fun t ht hW => hx_endj h ht hW hP hK hD hS) hS.2.2 d_X_dot_35
    · replace h := hx_in c6 h
      refine lv_iload_n hx hb d_X_dot_10 rfl (lv_at hl 2 rfl) ?_
      obtain ⟨r7, er7, h⟩ := hx_b1s h
      refine hx_rd (va_runS (As := [.int x2]) (rest := []) ⟨hx, hb, hml, hown, hts⟩ (c_X_isFormat l D T3 x2 _ er7) (va_cwS 1 hts (hx_gS hx_cons k_236 k_237 k_50 k_238) rfl rfl rfl (by decide +kernel) ⟨Nat.le_of_ble_eq_true rfl, Nat.le_of_ble_eq_true rfl⟩) (hx_preS hx_nil hK) rfl rfl hl.1 rfl (lv_room (Nat.le_of_ble_eq_true rfl)) d_X_dot_11 ⟨Nat.zero_le _, Nat.zero_le _⟩) ?_
      refine lv_if_eq (tgt := 32) hx hb d_X_dot_14 (by decide) (fun c8 => ?_) (fun c8 => ?_)
      · replace h := hx_ip c8 h
        refine lv_ldc2 (v := -2) hx hb hown (hts _ (hx_cons _ k_291)) d_X_dot_32 ?_
        exact W.lret hx hb hr (fun t ht hW => hx_endj h ht hW hP hK hD hS) hS.2.2 d_X_dot_35
      · replace h := hx_in c8 h
        refine lv_iload_n hx hb d_X_dot_17 rfl (lv_at hl 3 rfl) ?_
        obtain ⟨r9, er9, h⟩ := hx_b1s h
        refine hx_rd (va_runS (As := [.int x3]) (rest := []) ⟨hx, hb, hml, hown, hts⟩ (c_X_isFormat l D T3 x3 _ er9) (va_cwS 1 hts (hx_gS hx_cons k_236 k_237 k_50 k_238) rfl rfl rfl (by decide +kernel) ⟨Nat.le_of_ble_eq_true rfl, Nat.le_of_ble_eq_true rfl⟩) (hx_preS hx_nil hK) rfl rfl hl.1 rfl (lv_room (Nat.le_of_ble_eq_true rfl)) d_X_dot_18 ⟨Nat.zero_le _, Nat.zero_le _⟩) ?_
        refine lv_if_eq (tgt := 32) hx hb d_X_dot_21 (by decide) (fun c10 => ?_) (fun c10 => ?_)
        · replace h := hx_ip c10 h
          refine lv_ldc2 (v := -2) hx hb hown (hts _ (hx_cons _ k_291)) d_X_dot_32 ?_
          exact W.lret hx hb hr (fun t ht hW => hx_endj h ht hW hP hK hD hS) hS.2.2 d_X_dot_35
        · replace h := hx_in c10 h
          refine lv_iload hx hb d_X_dot_24 (lv_at hl 4 rfl) ?_
          obtain ⟨r11, er11, h⟩ := hx_b1s h
          refine hx_rd (va_runS (As := [.int x4]) (rest := []) ⟨hx, hb, hml, hown, hts⟩ (c_X_isWay l D T3 x4 _ er11) (va_cwS 1 hts (hx_gS hx_cons k_288 k_289 k_50 k_290) rfl rfl rfl (by decide +kernel) ⟨Nat.le_of_ble_eq_true rfl, Nat.le_of_ble_eq_true rfl⟩) (hx_preS hx_nil hK) rfl rfl hl.1 rfl (lv_room (Nat.le_of_ble_eq_true rfl)) d_X_dot_26 ⟨Nat.zero_le _, Nat.zero_le _⟩) ?_
          refine lv_if_ne (tgt := 36) hx hb d_X_dot_29 (by decide) (fun c12 => ?_) (fun c12 => ?_)
          · replace h := hx_in c12 h
            refine lv_iload_n hx hb d_X_dot_36 rfl (lv_at hl 1 rfl) ?_
            refine lv_if_ne (tgt := 56) hx hb d_X_dot_37 (by decide) (fun c13 => ?_) (fun c13 => ?_)
            · replace h := hx_in c13 h
              refine lv_aload_n hx hb d_X_dot_56 rfl (lv_at hl 0 rfl) ?_
              refine lv_iload_n hx hb d_X_dot_57 rfl (lv_at hl 1 rfl) ?_
              refine lv_aload_n hx hb d_X_dot_58 rfl (lv_at hl 0 rfl) ?_
              refine va_get (D := D) (ci := 0) (v := .ref (ad 1)) (C := "HalfFloats") (T := T_X) (N := 9) hx hb hts (hx_up in_X) hown hK hP (0) hx_at_X rfl 0 (by decide) (hts _ (hx_cons _ k_204)) (fun _ h9 => h9) rfl d_X_dot_59 ?_
              refine lv_iload_n hx hb d_X_dot_62 rfl (lv_at hl 2 rfl) ?_
              obtain ⟨g14, h⟩ := hx_gs h
              refine va_aldq hx hb hK hP (1) 0 hx_at_FA rfl g14 d_X_dot_63 ?_
              refine lv_aload_n hx hb d_X_dot_64 rfl (lv_at hl 0 rfl) ?_
              refine va_get (D := D) (ci := 0) (v := .ref (ad 1)) (C := "HalfFloats") (T := T_X) (N := 9) hx hb hts (hx_up in_X) hown hK hP (0) hx_at_X rfl 0 (by decide) (hts _ (hx_cons _ k_204)) (fun _ h9 => h9) rfl d_X_dot_65 ?_
              refine lv_iload_n hx hb d_X_dot_68 rfl (lv_at hl 3 rfl) ?_
              obtain ⟨g15, h⟩ := hx_gs h
              refine va_aldq hx hb hK hP (1) 0 hx_at_FA rfl g15 d_X_dot_69 ?_
              refine lv_iload hx hb d_X_dot_70 (lv_at hl 4 rfl) ?_
              obtain ⟨r17, q16, eq16, h⟩ := hx_b2s h
              refine hx_wi (va_runV (As := [.int x1, .ref (ad (2 + x2.toNatClampNeg)), .ref (ad (2 + x3.toNatClampNeg)), .int x4]) (rest := []) ⟨hx, hb, hml, hown, hts⟩ (c_X_productsInPieces l D T3 ad _ σ x1 x2.toNatClampNeg x3.toNatClampNeg x4 (hx_lt g14) (hx_lt g15) _ _ eq16) (cwV 4 hts (hx_gV hx_cons k_493 k_495 k_17 k_50 k_496) rfl rfl rfl (by decide +kernel) ⟨Nat.le_of_ble_eq_true rfl, Nat.le_of_ble_eq_true rfl⟩) (hx_preVw (va_recv hK hP (ci := 0) (q0 := 0) rfl hx_at_X) hP hK hD) rfl rfl hl.1 rfl (lv_room (Nat.le_of_ble_eq_true rfl)) d_X_dot_72 ⟨Nat.zero_le _, Nat.zero_le _⟩) hD hS hA (fun H locs hP hD hS => ?_)
              obtain ⟨r18, er18, h⟩ := hx_b1s h
              refine hx_rd (va_runS (As := [.int r17]) (rest := []) ⟨hx, hb, hml, hown, hts⟩ (c_X_bits l D T3 r17 _ er18) (va_cwS 1 hts (hx_gS hx_cons k_342 k_343 k_50 k_344) rfl rfl rfl (by decide +kernel) ⟨Nat.le_of_ble_eq_true rfl, Nat.le_of_ble_eq_true rfl⟩) (hx_preS hx_nil hK) rfl rfl hl.1 rfl (lv_room (Nat.le_of_ble_eq_true rfl)) d_X_dot_75 ⟨Nat.zero_le _, Nat.zero_le _⟩) ?_
              exact W.lret hx hb hr (fun t ht hW => hx_endj h ht hW hP hK hD hS) hS.2.2 d_X_dot_78
            · replace h := hx_ip c13 h
              refine lv_aload_n hx hb d_X_dot_40 rfl (lv_at hl 0 rfl) ?_
              refine lv_aload_n hx hb d_X_dot_41 rfl (lv_at hl 0 rfl) ?_
              refine va_get (D := D) (ci := 0) (v := .ref (ad 1)) (C := "HalfFloats") (T := T_X) (N := 9) hx hb hts (hx_up in_X) hown hK hP (0) hx_at_X rfl 0 (by decide) (hts _ (hx_cons _ k_204)) (fun _ h9 => h9) rfl d_X_dot_42 ?_
              refine lv_iload_n hx hb d_X_dot_45 rfl (lv_at hl 3 rfl) ?_
              obtain ⟨g19, h⟩ := hx_gs h
              refine va_aldq hx hb hK hP (1) 0 hx_at_FA rfl g19 d_X_dot_46 ?_
              refine lv_iload hx hb d_X_dot_47 (lv_at hl 4 rfl) ?_
              obtain ⟨r21, q20, eq20, h⟩ := hx_b2s h
              refine hx_wi (va_runV (As := [.ref (ad (2 + x3.toNatClampNeg)), .int x4]) (rest := []) ⟨hx, hb, hml, hown, hts⟩ (c_X_productsAtOnce l D T3 ad _ σ x3.toNatClampNeg x4 (hx_lt g19) _ _ eq20) (cwV 2 hts (hx_gV hx_cons k_482 k_484 k_15 k_50 k_485) rfl rfl rfl (by decide +kernel) ⟨Nat.le_of_ble_eq_true rfl, Nat.le_of_ble_eq_true rfl⟩) (hx_preVw (va_recv hK hP (ci := 0) (q0 := 0) rfl hx_at_X) hP hK hD) rfl rfl hl.1 rfl (lv_room (Nat.le_of_ble_eq_true rfl)) d_X_dot_49 ⟨Nat.zero_le _, Nat.zero_le _⟩) hD hS hA (fun H locs hP hD hS => ?_)
              obtain ⟨r22, er22, h⟩ := hx_b1s h
              refine hx_rd (va_runS (As := [.int r21]) (rest := []) ⟨hx, hb, hml, hown, hts⟩ (c_X_bits l D T3 r21 _ er22) (va_cwS 1 hts (hx_gS hx_cons k_342 k_343 k_50 k_344) rfl rfl rfl (by decide +kernel) ⟨Nat.le_of_ble_eq_true rfl, Nat.le_of_ble_eq_true rfl⟩) (hx_preS hx_nil hK) rfl rfl hl.1 rfl (lv_room (Nat.le_of_ble_eq_true rfl)) d_X_dot_52 ⟨Nat.zero_le _, Nat.zero_le _⟩) ?_
              exact W.lret hx hb hr (fun t ht hW => hx_endj h ht hW hP hK hD hS) hS.2.2 d_X_dot_55
          · replace h := hx_ip c12 h
            refine lv_ldc2 (v := -2) hx hb hown (hts _ (hx_cons _ k_291)) d_X_dot_32 ?_
            exact W.lret hx hb hr (fun t ht hW => hx_endj h ht hW hP hK hD hS) hS.2.2 d_X_dot_35
abbrev m_X_blockScale : Room := { frames := 3, cells := 0, slots := 0, locals := 65 }
set_option maxHeartbeats 4000000 in
set_option maxRecDepth 100000 in
theorem c_X_blockScale (l : Launch) (D : va_G) (T3 : hx_T3) (ad : Nat → Nat) (σ : hx_S) (k1 : Nat) (hk1 : k1 < 4) (r0 : Int32) (h : f_X_blockScale σ k1 = some r0) : hx_R l D (hx_ty T3) (hx_W T3 ad σ) y_X_blockScale w_X_blockScale m_X_blockScale [.ref (ad 0), .ref (ad (2 + k1))] (.int r0) := by
  refine Met.ofW (cc := b_X_blockScale) (maxL := 6) (ret := (some .int)) (by decide) rfl ?_
  intro p e s m args below meth c s₁ B hml hv
  obtain ⟨hargs, hP, hK⟩ := hv
  have hx := B.exec
  have hb := B.bytes
  have hr := B.returns
  have hts := atoms_spec (ws := w_X_blockScale) B.pre
  have hown : s.vm.findClass "HalfFloats" = some m.cls := findClass_of_methodNamed B.named
  have hlocks := B.notSynchronized
  have B_63 : ∀ (K18 : hx_S → Nat → Nat → Int32 → Int32 → Option Int32) (hK18 : ∀ (k3 : Nat) (k4 : Nat) (x5 : Int32) (x6 : Int32) (ls : Array Slot), k3 < 4 → k4 < 4 → lv_has ls 6 [(0, .ref (ad 0)), (1, .ref (ad (2 + k3))), (2, .ref (ad (2 + k4))), (3, .int x5), (4, .int x6)] → K18 σ k3 k4 x5 x6 = some r0 → W p l e (headSpec w_X_blockScale m_X_blockScale).room s m args below meth c s.heap [] 0 0 (MQ below (hx_Q (.int r0)) args s 0 0 (fun _ => False)) (F0 m 18 ls [])), ∀ (k15 : Nat) (k16 : Nat) (x17 : Int32) (x18 : Int32) (ls : Array Slot), k15 < 4 → k16 < 4 → lv_has ls 6 [(0, .ref (ad 0)), (1, .ref (ad (2 + k15))), (2, .ref (ad (2 + k16))), (3, .int x17), (4, .int x18)] → f_X_blockScale_63 K18 σ k15 k16 x17 x18 = some r0 → W p l e (headSpec w_X_blockScale m_X_blockScale).room s m args below meth c s.heap [] 0 0 (MQ below (hx_Q (.int r0)) args s 0 0 (fun _ => False)) (F0 m 63 ls []) := by
      intro K18 hK18
      intro k15 k16 x17 x18 ls hk15 hk16 hl h
      rw [f_X_blockScale_63] at h
      obtain ⟨x19, ex19⟩ : ∃ y : Int32, y = x18 + 1 := ⟨_, rfl⟩
      replace h := hx_ns ex19 h
      refine lv_iinc (v := x19) (lv' := [(4, .int x19), (0, .ref (ad 0)), (1, .ref (ad (2 + k15))), (2, .ref (ad (2 + k16))), (3, .int x17)]) hx hb d_X_blockScale_63 hl (k := 4) rfl (by rw [ex19]; rfl) (by decide) rfl (fun ls hl => ?_)
      clear ex19
      refine lv_goto (tgt := 18) hx hb d_X_blockScale_66 (by decide) ?_
      exact hK18 k15 k16 x17 x19 ls hk15 hk16 (lv_sub hl [1, 2, 3, 4, 0] rfl) h
  have B_18 : ∀ (n : Nat), ∀ (k3 : Nat) (k4 : Nat) (x5 : Int32) (x6 : Int32) (ls : Array Slot), k3 < 4 → k4 < 4 → lv_has ls 6 [(0, .ref (ad 0)), (1, .ref (ad (2 + k3))), (2, .ref (ad (2 + k4))), (3, .int x5), (4, .int x6)] → f_X_blockScale_18 n σ k3 k4 x5 x6 = some r0 → W p l e (headSpec w_X_blockScale m_X_blockScale).room s m args below meth c s.heap [] 0 0 (MQ below (hx_Q (.int r0)) args s 0 0 (fun _ => False)) (F0 m 18 ls []) := by
    intro n
    induction n with
    | zero =>
      intro k3 k4 x5 x6 ls hk3 hk4 hl h
      rw [f_X_blockScale_18] at h
      cases h
    | succ n ih =>
        intro k3 k4 x5 x6 ls hk3 hk4 hl h
        rw [f_X_blockScale_18] at h
        refine lv_iload hx hb d_X_blockScale_18 (lv_at hl 4 rfl) ?_
        refine lv_aload_n hx hb d_X_blockScale_20 rfl (lv_at hl 0 rfl) ?_
        refine va_get (D := D) (ci := 0) (v := .ref (ad (6 + 2 * 0))) (C := "HalfFloats") (T := T_X) (N := 9) hx hb hts (hx_up in_X) hown hK hP (0) hx_at_X rfl 1 (by decide) (hts _ (hx_cons _ k_205)) (fun _ h9 => h9) rfl d_X_blockScale_21 ?_
        refine va_get (D := D) (ci := 2) (v := .int (hx_size σ 0)) (C := "HalfFloats$Row") (T := T_R) (N := 3) hx hb hts (hx_up in_R) hown hK hP (6 + 2 * 0) (hx_at_R (by decide)) rfl 1 (by decide) (hts _ (hx_cons _ k_125)) (fun _ h9 => h9) rfl d_X_blockScale_24 ?_
        refine lv_icmp_ge (tgt := 69) hx hb d_X_blockScale_27 (by decide) (fun c7 => ?_) (fun c7 => ?_)
        · replace h := hx_ip c7 h
          refine lv_iload_n hx hb d_X_blockScale_69 rfl (lv_at hl 3 rfl) ?_
          refine lv_if_ne (tgt := 77) hx hb d_X_blockScale_70 (by decide) (fun c8 => ?_) (fun c8 => ?_)
          · replace h := hx_in c8 h
            refine lv_aload_n hx hb d_X_blockScale_77 rfl (lv_at hl 2 rfl) ?_
            refine lv_iload_n hx hb d_X_blockScale_78 rfl (lv_at hl 3 rfl) ?_
            obtain ⟨r9, er9, h⟩ := hx_b1s h
            refine hx_rd (va_runV (As := [.int x5]) (rest := []) ⟨hx, hb, hml, hown, hts⟩ (c_F_topOf l D T3 (ad (2 + k4)) (hx_fm σ k4) x5 _ er9) (cwV 1 hts (hx_gV hx_cons k_507 k_508 k_509 k_51 k_510) rfl rfl rfl (by decide +kernel) ⟨Nat.le_of_ble_eq_true rfl, Nat.le_of_ble_eq_true rfl⟩) (hx_preV (va_recv hK hP (ci := 1) (q0 := 2 + k4) rfl (hx_at_F hk4)) (hx_one hP (hx_at_F hk4)) hK) rfl rfl hl.1 rfl (lv_room (Nat.le_of_ble_eq_true rfl)) d_X_blockScale_79 ⟨Nat.zero_le _, Nat.zero_le _⟩) ?_
            refine lv_aload_n hx hb d_X_blockScale_82 rfl (lv_at hl 1 rfl) ?_
            refine lv_aload_n hx hb d_X_blockScale_83 rfl (lv_at hl 1 rfl) ?_
            refine va_get (D := D) (ci := 1) (v := .int (hx_fm_limit (hx_fm σ k3))) (C := "HalfFloats$Format") (T := T_F) (N := 8) hx hb hts (hx_up in_F) hown hK hP (2 + k3) (hx_at_F hk3) rfl 4 (by decide) (hts _ (hx_cons _ k_90)) (fun _ h9 => h9) rfl d_X_blockScale_84 ?_
            refine lv_iconst (v := 1) hx hb d_X_blockScale_87 (by decide) ?_
            refine lv_isub hx hb d_X_blockScale_88 ?_
            obtain ⟨r10, er10, h⟩ := hx_b1s h
            refine hx_rd (va_runV (As := [.int ((hx_fm_limit (hx_fm σ k3)) - (1 : Int32))]) (rest := [.int r9]) ⟨hx, hb, hml, hown, hts⟩ (c_F_topOf l D T3 (ad (2 + k3)) (hx_fm σ k3) ((hx_fm_limit (hx_fm σ k3)) - (1 : Int32)) _ er10) (cwV 1 hts (hx_gV hx_cons k_507 k_508 k_509 k_51 k_510) rfl rfl rfl (by decide +kernel) ⟨Nat.le_of_ble_eq_true rfl, Nat.le_of_ble_eq_true rfl⟩) (hx_preV (va_recv hK hP (ci := 1) (q0 := 2 + k3) rfl (hx_at_F hk3)) (hx_one hP (hx_at_F hk3)) hK) rfl rfl hl.1 rfl (lv_room (Nat.le_of_ble_eq_true rfl)) d_X_blockScale_89 ⟨Nat.zero_le _, Nat.zero_le _⟩) ?_
            refine lv_isub hx hb d_X_blockScale_92 ?_
            exact W.iret hx hb hr (fun t ht hW => ⟨by rw [Option.some.inj h], ht⟩) (fun q hq => nomatch hq) d_X_blockScale_93
          · replace h := hx_ip c8 h
            refine lv_iconst (v := 0) hx hb d_X_blockScale_73 (by decide) ?_
            refine lv_goto (tgt := 93) hx hb d_X_blockScale_74 (by decide) ?_
            exact W.iret hx hb hr (fun t ht hW => ⟨by rw [Option.some.inj h], ht⟩) (fun q hq => nomatch hq) d_X_blockScale_93
        · replace h := hx_in c7 h
          refine lv_aload_n hx hb d_X_blockScale_30 rfl (lv_at hl 0 rfl) ?_
          refine va_get (D := D) (ci := 0) (v := .ref (ad (6 + 2 * 0))) (C := "HalfFloats") (T := T_X) (N := 9) hx hb hts (hx_up in_X) hown hK hP (0) hx_at_X rfl 1 (by decide) (hts _ (hx_cons _ k_205)) (fun _ h9 => h9) rfl d_X_blockScale_31 ?_
          refine va_get (D := D) (ci := 2) (v := .ref (ad (7 + 2 * 0))) (C := "HalfFloats$Row") (T := T_R) (N := 3) hx hb hts (hx_up in_R) hown hK hP (6 + 2 * 0) (hx_at_R (by decide)) rfl 0 (by decide) (hts _ (hx_cons _ k_123)) (fun _ h9 => h9) rfl d_X_blockScale_34 ?_
          refine lv_iload hx hb d_X_blockScale_37 (lv_at hl 4 rfl) ?_
          obtain ⟨g11, h⟩ := hx_gs h
          refine va_iald hx hb hK hP (7 + 2 * 0) 1 (hx_at_RP (by decide)) rfl g11 d_X_blockScale_39 ?_
          refine lv_topi (fun x12 ex12 => ?_)
          replace h := hx_ns ex12 h
          clear ex12
          refine lv_istore (lv' := [(5, .int x12), (0, .ref (ad 0)), (1, .ref (ad (2 + k3))), (2, .ref (ad (2 + k4))), (3, .int x5), (4, .int x6)]) hx hb d_X_blockScale_40 hl (by decide) rfl (fun ls hl => ?_)
          refine lv_aload_n hx hb d_X_blockScale_42 rfl (lv_at hl 3 rfl) ?_
          refine lv_iload hx hb d_X_blockScale_43 (lv_at hl 0 rfl) ?_
          obtain ⟨r13, er13, h⟩ := hx_b1s h
          refine hx_rd (va_runV (As := [.int x12]) (rest := []) ⟨hx, hb, hml, hown, hts⟩ (c_F_sortOf l D T3 (ad (2 + k4)) (hx_fm σ k4) x12 _ er13) (cwV 1 hts (hx_gV hx_cons k_261 k_262 k_263 k_51 k_264) rfl rfl rfl (by decide +kernel) ⟨Nat.le_of_ble_eq_true rfl, Nat.le_of_ble_eq_true rfl⟩) (hx_preV (va_recv hK hP (ci := 1) (q0 := 2 + k4) rfl (hx_at_F hk4)) (hx_one hP (hx_at_F hk4)) hK) rfl rfl hl.1 rfl (lv_room (Nat.le_of_ble_eq_true rfl)) d_X_blockScale_45 ⟨Nat.zero_le _, Nat.zero_le _⟩) ?_
          refine lv_iconst (v := 3) hx hb d_X_blockScale_48 (by decide) ?_
          refine lv_icmp_ge (tgt := 63) hx hb d_X_blockScale_49 (by decide) (fun c14 => ?_) (fun c14 => ?_)
          · replace h := hx_ip c14 h
            exact B_63 (f_X_blockScale_18 n) ih k3 k4 x5 x6 ls hk3 hk4 (lv_sub hl [1, 2, 3, 4, 5] rfl) h
          · replace h := hx_in c14 h
            refine lv_iload_n hx hb d_X_blockScale_52 rfl (lv_at hl 4 rfl) ?_
            refine lv_aload_n hx hb d_X_blockScale_53 rfl (lv_at hl 3 rfl) ?_
            refine lv_iload hx hb d_X_blockScale_54 (lv_at hl 0 rfl) ?_
            obtain ⟨r20, er20, h⟩ := hx_b1s h
            refine hx_rd (va_runV (As := [.int x12]) (rest := [.int x5]) ⟨hx, hb, hml, hown, hts⟩ (c_F_unsigned l D T3 (ad (2 + k4)) (hx_fm σ k4) x12 _ er20) (cwV 1 hts (hx_gV hx_cons k_505 k_266 k_267 k_51 k_268) rfl rfl rfl (by decide +kernel) ⟨Nat.le_of_ble_eq_true rfl, Nat.le_of_ble_eq_true rfl⟩) (hx_preV (va_recv hK hP (ci := 1) (q0 := 2 + k4) rfl (hx_at_F hk4)) (hx_one hP (hx_at_F hk4)) hK) rfl rfl hl.1 rfl (lv_room (Nat.le_of_ble_eq_true rfl)) d_X_blockScale_56 ⟨Nat.zero_le _, Nat.zero_le _⟩) ?_
            refine va_mmax hx hb (hml.trans hl.1.symm) hown (hts _ (hx_cons _ k_506)) (hts _ (hx_cons _ k_282)) (hts _ (hx_cons _ k_56)) (hts _ (hx_cons _ k_283)) (Nat.le_of_ble_eq_true rfl) (Nat.le_of_ble_eq_true rfl) (Nat.zero_le _) (Nat.zero_le _) d_X_blockScale_59 ?_
            refine lv_topi (fun x21 ex21 => ?_)
            replace h := hx_ns ex21 h
            clear ex21
            refine lv_istore_n (lv' := [(3, .int x21), (5, .int x12), (0, .ref (ad 0)), (1, .ref (ad (2 + k3))), (2, .ref (ad (2 + k4))), (4, .int x6)]) hx hb d_X_blockScale_62 rfl hl (by decide) rfl (fun ls hl => ?_)
            exact B_63 (f_X_blockScale_18 n) ih k3 k4 x21 x6 ls hk3 hk4 (lv_sub hl [2, 3, 4, 0, 5] rfl) h
  refine W.eq (g2 := F0 m 0 ((lg_sl [.ref (ad 0), .ref (ad (2 + k1))] ++ List.replicate (6 - (lg_sl [.ref (ad 0), .ref (ad (2 + k1))]).length) Slot.unset).toArray) []) (by rw [hargs, lg_entry_eq]) ?_
  have hl := lv_entry ([.ref (ad 0), .ref (ad (2 + k1))]) (n := 6) (Nat.le_of_ble_eq_true rfl)
  generalize (lg_sl ([.ref (ad 0), .ref (ad (2 + k1))]) ++ List.replicate (6 - (lg_sl ([.ref (ad 0), .ref (ad (2 + k1))])).length) Slot.unset).toArray = ls at hl ⊢
  have hl : lv_has ls 6 [(0, .ref (ad 0)), (1, .ref (ad (2 + k1)))] := hl
  rw [f_X_blockScale] at h
  refine lv_aload_n hx hb d_X_blockScale_0 rfl (lv_at hl 0 rfl) ?_
  refine va_get (D := D) (ci := 0) (v := .ref (ad 1)) (C := "HalfFloats") (T := T_X) (N := 9) hx hb hts (hx_up in_X) hown hK hP (0) hx_at_X rfl 0 (by decide) (hts _ (hx_cons _ k_204)) (fun _ h9 => h9) rfl d_X_blockScale_1 ?_
  refine lv_aload_n hx hb d_X_blockScale_4 rfl (lv_at hl 0 rfl) ?_
  refine va_get (D := D) (ci := 0) (v := .ref (ad (6 + 2 * 0))) (C := "HalfFloats") (T := T_X) (N := 9) hx hb hts (hx_up in_X) hown hK hP (0) hx_at_X rfl 1 (by decide) (hts _ (hx_cons _ k_205)) (fun _ h9 => h9) rfl d_X_blockScale_5 ?_
  refine va_get (D := D) (ci := 2) (v := .int (hx_format σ 0)) (C := "HalfFloats$Row") (T := T_R) (N := 3) hx hb hts (hx_up in_R) hown hK hP (6 + 2 * 0) (hx_at_R (by decide)) rfl 2 (by decide) (hts _ (hx_cons _ k_127)) (fun _ h9 => h9) rfl d_X_blockScale_8 ?_
  obtain ⟨g2, h⟩ := hx_gs h
  refine va_aldq hx hb hK hP (1) 0 hx_at_FA rfl g2 d_X_blockScale_11 ?_
  refine lv_astore_n (lv' := [(2, .ref (ad (2 + (hx_format σ 0).toNatClampNeg))), (0, .ref (ad 0)), (1, .ref (ad (2 + k1)))]) hx hb d_X_blockScale_12 rfl hl (by decide) rfl (fun ls hl => ?_)
  refine lv_iconst (v := 0) hx hb d_X_blockScale_13 (by decide) ?_
  refine lv_istore_n (lv' := [(3, .int (0 : Int32)), (2, .ref (ad (2 + (hx_format σ 0).toNatClampNeg))), (0, .ref (ad 0)), (1, .ref (ad (2 + k1)))]) hx hb d_X_blockScale_14 rfl hl (by decide) rfl (fun ls hl => ?_)
  refine lv_iconst (v := 0) hx hb d_X_blockScale_15 (by decide) ?_
  refine lv_istore (lv' := [(4, .int (0 : Int32)), (3, .int (0 : Int32)), (2, .ref (ad (2 + (hx_format σ 0).toNatClampNeg))), (0, .ref (ad 0)), (1, .ref (ad (2 + k1)))]) hx hb d_X_blockScale_16 hl (by decide) rfl (fun ls hl => ?_)
  exact B_18 hx_fuel k1 ((hx_format σ 0).toNatClampNeg) (0 : Int32) (0 : Int32) ls hk1 (hx_lt g2) (lv_sub hl [3, 4, 2, 1, 0] rfl) h
abbrev m_X_scale : Room := { frames := 4, cells := 0, slots := 0, locals := 90 }
set_option maxHeartbeats 4000000 in
set_option maxRecDepth 100000 in
theorem c_X_scale (l : Launch) (D : va_G) (T3 : hx_T3) (ad : Nat → Nat) (σ : hx_S) (x1 : Int32) (r0 : Int32) (h : f_X_scale σ x1 = some r0) : hx_R l D (hx_ty T3) (hx_W T3 ad σ) y_X_scale w_X_scale m_X_scale [.ref (ad 0), .int x1] (.int r0) := by
  refine Met.ofW (cc := b_X_scale) (maxL := 2) (ret := (some .int)) (by decide) rfl ?_
  intro p e s m args below meth c s₁ B hml hv
  obtain ⟨hargs, hP, hK⟩ := hv
  have hx := B.exec
  have hb := B.bytes
  have hr := B.returns
  have hts := atoms_spec (ws := w_X_scale) B.pre
  have hown : s.vm.findClass "HalfFloats" = some m.cls := findClass_of_methodNamed B.named
  have hlocks := B.notSynchronized
  refine W.eq (g2 := F0 m 0 ((lg_sl [.ref (ad 0), .int x1] ++ List.replicate (2 - (lg_sl [.ref (ad 0), .int x1]).length) Slot.unset).toArray) []) (by rw [hargs, lg_entry_eq]) ?_
  have hl := lv_entry ([.ref (ad 0), .int x1]) (n := 2) (Nat.le_of_ble_eq_true rfl)
  generalize (lg_sl ([.ref (ad 0), .int x1]) ++ List.replicate (2 - (lg_sl ([.ref (ad 0), .int x1])).length) Slot.unset).toArray = ls at hl ⊢
  have hl : lv_has ls 2 [(0, .ref (ad 0)), (1, .int x1)] := hl
  rw [f_X_scale] at h
  refine lv_iload_n hx hb d_X_scale_0 rfl (lv_at hl 1 rfl) ?_
  obtain ⟨r2, er2, h⟩ := hx_b1s h
  refine hx_rd (va_runS (As := [.int x1]) (rest := []) ⟨hx, hb, hml, hown, hts⟩ (c_X_isFormat l D T3 x1 _ er2) (va_cwS 1 hts (hx_gS hx_cons k_236 k_237 k_50 k_238) rfl rfl rfl (by decide +kernel) ⟨Nat.le_of_ble_eq_true rfl, Nat.le_of_ble_eq_true rfl⟩) (hx_preS hx_nil hK) rfl rfl hl.1 rfl (lv_room (Nat.le_of_ble_eq_true rfl)) d_X_scale_1 ⟨Nat.zero_le _, Nat.zero_le _⟩) ?_
  refine lv_if_eq (tgt := 20) hx hb d_X_scale_4 (by decide) (fun c3 => ?_) (fun c3 => ?_)
  · replace h := hx_ip c3 h
    refine lv_ldc (v := 1000000) hx hb hown (hts _ (hx_cons _ k_260)) d_X_scale_20 ?_
    exact W.iret hx hb hr (fun t ht hW => ⟨by rw [Option.some.inj h], ht⟩) (fun q hq => nomatch hq) d_X_scale_22
  · replace h := hx_in c3 h
    refine lv_aload_n hx hb d_X_scale_7 rfl (lv_at hl 0 rfl) ?_
    refine lv_aload_n hx hb d_X_scale_8 rfl (lv_at hl 0 rfl) ?_
    refine va_get (D := D) (ci := 0) (v := .ref (ad 1)) (C := "HalfFloats") (T := T_X) (N := 9) hx hb hts (hx_up in_X) hown hK hP (0) hx_at_X rfl 0 (by decide) (hts _ (hx_cons _ k_204)) (fun _ h9 => h9) rfl d_X_scale_9 ?_
    refine lv_iload_n hx hb d_X_scale_12 rfl (lv_at hl 1 rfl) ?_
    obtain ⟨g4, h⟩ := hx_gs h
    refine va_aldq hx hb hK hP (1) 0 hx_at_FA rfl g4 d_X_scale_13 ?_
    obtain ⟨r5, er5, h⟩ := hx_b1s h
    refine hx_rd (va_runV (As := [.ref (ad (2 + x1.toNatClampNeg))]) (rest := []) ⟨hx, hb, hml, hown, hts⟩ (c_X_blockScale l D T3 ad σ x1.toNatClampNeg (hx_lt g4) _ er5) (cwV 1 hts (hx_gV hx_cons k_501 k_503 k_18 k_50 k_504) rfl rfl rfl (by decide +kernel) ⟨Nat.le_of_ble_eq_true rfl, Nat.le_of_ble_eq_true rfl⟩) (hx_preV (va_recv hK hP (ci := 0) (q0 := 0) rfl hx_at_X) hP hK) rfl rfl hl.1 rfl (lv_room (Nat.le_of_ble_eq_true rfl)) d_X_scale_14 ⟨Nat.zero_le _, Nat.zero_le _⟩) ?_
    refine lv_goto (tgt := 22) hx hb d_X_scale_17 (by decide) ?_
    exact W.iret hx hb hr (fun t ht hW => ⟨by rw [Option.some.inj h], ht⟩) (fun q hq => nomatch hq) d_X_scale_22
abbrev m_X_element : Room := { frames := 4, cells := 0, slots := 0, locals := 111 }
set_option maxHeartbeats 4000000 in
set_option maxRecDepth 100000 in
theorem c_X_element (l : Launch) (D : va_G) (T3 : hx_T3) (ad : Nat → Nat) (sz : Nat) (σ : hx_S) (x1 : Int32) (x2 : Int32) (r0 : Int64) (σ0 : hx_S) (h : f_X_element σ x1 x2 = some (r0, σ0)) : hx_Wj l D (hx_ty T3) y_X_element w_X_element m_X_element [.ref (ad 0), .int x1, .int x2] sz (hx_W T3 ad σ) r0 (hx_W T3 ad σ0) := by
  refine Met.ofW (cc := b_X_element) (maxL := 4) (ret := (some .long)) (by decide) rfl ?_
  intro p e s m args below meth c s₁ B hml hv
  obtain ⟨hargs, hsz, hP, hK, hD0⟩ := hv
  have hx := B.exec
  have hb := B.bytes
  have hr := B.returns
  have hts := atoms_spec (ws := w_X_element) B.pre
  have hown : s.vm.findClass "HalfFloats" = some m.cls := findClass_of_methodNamed B.named
  have hlocks := B.notSynchronized
  subst hsz
  have hD := hD0.self (sz := s.heap.size)
  generalize hAe : va_A (hx_W T3 ad σ) s.heap.size = A at hD ⊢
  have hA : ∀ q : Nat, s.heap.size ≤ q → A q := fun q h => by rw [← hAe]; exact Or.inr h
  have hS : va_S A s.heap s.heap [] := va_S.rf
  refine W.eq (g2 := F0 m 0 ((lg_sl [.ref (ad 0), .int x1, .int x2] ++ List.replicate (4 - (lg_sl [.ref (ad 0), .int x1, .int x2]).length) Slot.unset).toArray) []) (by rw [hargs, lg_entry_eq]) ?_
  have hl := lv_entry ([.ref (ad 0), .int x1, .int x2]) (n := 4) (Nat.le_of_ble_eq_true rfl)
  generalize (lg_sl ([.ref (ad 0), .int x1, .int x2]) ++ List.replicate (4 - (lg_sl ([.ref (ad 0), .int x1, .int x2])).length) Slot.unset).toArray = ls at hl ⊢
  have hl : lv_has ls 4 [(0, .ref (ad 0)), (1, .int x1), (2, .int x2)] := hl
  rw [f_X_element] at h
  refine lv_iload_n hx hb d_X_element_0 rfl (lv_at hl 1 rfl) ?_
  obtain ⟨r3, er3, h⟩ := hx_b1s h
  refine hx_rd (va_runS (As := [.int x1]) (rest := []) ⟨hx, hb, hml, hown, hts⟩ (c_X_isFormat l D T3 x1 _ er3) (va_cwS 1 hts (hx_gS hx_cons k_236 k_237 k_50 k_238) rfl rfl rfl (by decide +kernel) ⟨Nat.le_of_ble_eq_true rfl, Nat.le_of_ble_eq_true rfl⟩) (hx_preS hx_nil hK) rfl rfl hl.1 rfl (lv_room (Nat.le_of_ble_eq_true rfl)) d_X_element_1 ⟨Nat.zero_le _, Nat.zero_le _⟩) ?_
  refine lv_if_eq (tgt := 18) hx hb d_X_element_4 (by decide) (fun c4 => ?_) (fun c4 => ?_)
  · replace h := hx_ip c4 h
    refine lv_ldc2 (v := -2) hx hb hown (hts _ (hx_cons _ k_291)) d_X_element_18 ?_
    exact W.lret hx hb hr (fun t ht hW => hx_endj h ht hW hP hK hD hS) hS.2.2 d_X_element_21
  · replace h := hx_in c4 h
    refine lv_aload_n hx hb d_X_element_7 rfl (lv_at hl 0 rfl) ?_
    refine va_get (D := D) (ci := 0) (v := .ref (ad (6 + 2 * 0))) (C := "HalfFloats") (T := T_X) (N := 9) hx hb hts (hx_up in_X) hown hK hP (0) hx_at_X rfl 1 (by decide) (hts _ (hx_cons _ k_205)) (fun _ h9 => h9) rfl d_X_element_8 ?_
    refine lv_iload_n hx hb d_X_element_11 rfl (lv_at hl 2 rfl) ?_
    obtain ⟨r5, er5, h⟩ := hx_b1s h
    refine hx_rd (va_runV (As := [.int x2]) (rest := []) ⟨hx, hb, hml, hown, hts⟩ (c_R_has l D T3 (ad (6 + 2 * 0)) (ad (7 + 2 * 0)) (hx_rw σ (0)) x2 _ er5) (cwV 1 hts (hx_gV hx_cons k_446 k_447 k_448 k_52 k_449) rfl rfl rfl (by decide +kernel) ⟨Nat.le_of_ble_eq_true rfl, Nat.le_of_ble_eq_true rfl⟩) (hx_preV (va_recv hK hP (ci := 2) (q0 := 6 + 2 * 0) rfl (hx_at_R (by decide))) (hx_one hP (hx_at_R (by decide))) hK) rfl rfl hl.1 rfl (lv_room (Nat.le_of_ble_eq_true rfl)) d_X_element_12 ⟨Nat.zero_le _, Nat.zero_le _⟩) ?_
    refine lv_if_ne (tgt := 22) hx hb d_X_element_15 (by decide) (fun c6 => ?_) (fun c6 => ?_)
    · replace h := hx_in c6 h
      refine lv_aload_n hx hb d_X_element_22 rfl (lv_at hl 0 rfl) ?_
      refine lv_aload_n hx hb d_X_element_23 rfl (lv_at hl 0 rfl) ?_
      refine va_get (D := D) (ci := 0) (v := .ref (ad 1)) (C := "HalfFloats") (T := T_X) (N := 9) hx hb hts (hx_up in_X) hown hK hP (0) hx_at_X rfl 0 (by decide) (hts _ (hx_cons _ k_204)) (fun _ h9 => h9) rfl d_X_element_24 ?_
      refine lv_iload_n hx hb d_X_element_27 rfl (lv_at hl 1 rfl) ?_
      obtain ⟨g7, h⟩ := hx_gs h
      refine va_aldq hx hb hK hP (1) 0 hx_at_FA rfl g7 d_X_element_28 ?_
      obtain ⟨r8, er8, h⟩ := hx_b1s h
      refine hx_rd (va_runV (As := [.ref (ad (2 + x1.toNatClampNeg))]) (rest := []) ⟨hx, hb, hml, hown, hts⟩ (c_X_blockScale l D T3 ad σ x1.toNatClampNeg (hx_lt g7) _ er8) (cwV 1 hts (hx_gV hx_cons k_501 k_503 k_18 k_50 k_504) rfl rfl rfl (by decide +kernel) ⟨Nat.le_of_ble_eq_true rfl, Nat.le_of_ble_eq_true rfl⟩) (hx_preV (va_recv hK hP (ci := 0) (q0 := 0) rfl hx_at_X) hP hK) rfl rfl hl.1 rfl (lv_room (Nat.le_of_ble_eq_true rfl)) d_X_element_29 ⟨Nat.zero_le _, Nat.zero_le _⟩) ?_
      refine lv_ineg hx hb d_X_element_32 ?_
      refine lv_topi (fun x9 ex9 => ?_)
      replace h := hx_ns ex9 h
      clear ex9
      refine lv_istore_n (lv' := [(3, .int x9), (0, .ref (ad 0)), (1, .int x1), (2, .int x2)]) hx hb d_X_element_33 rfl hl (by decide) rfl (fun ls hl => ?_)
      refine lv_aload_n hx hb d_X_element_34 rfl (lv_at hl 1 rfl) ?_
      refine va_get (D := D) (ci := 0) (v := .ref (ad 12)) (C := "HalfFloats") (T := T_X) (N := 9) hx hb hts (hx_up in_X) hown hK hP (0) hx_at_X rfl 4 (by decide) (hts _ (hx_cons _ k_208)) (fun _ h9 => h9) rfl d_X_element_35 ?_
      refine lv_aload_n hx hb d_X_element_38 rfl (lv_at hl 1 rfl) ?_
      refine va_get (D := D) (ci := 0) (v := .ref (ad 1)) (C := "HalfFloats") (T := T_X) (N := 9) hx hb hts (hx_up in_X) hown hK hP (0) hx_at_X rfl 0 (by decide) (hts _ (hx_cons _ k_204)) (fun _ h9 => h9) rfl d_X_element_39 ?_
      refine lv_aload_n hx hb d_X_element_42 rfl (lv_at hl 1 rfl) ?_
      refine va_get (D := D) (ci := 0) (v := .ref (ad (6 + 2 * 0))) (C := "HalfFloats") (T := T_X) (N := 9) hx hb hts (hx_up in_X) hown hK hP (0) hx_at_X rfl 1 (by decide) (hts _ (hx_cons _ k_205)) (fun _ h9 => h9) rfl d_X_element_43 ?_
      refine va_get (D := D) (ci := 2) (v := .int (hx_format σ 0)) (C := "HalfFloats$Row") (T := T_R) (N := 3) hx hb hts (hx_up in_R) hown hK hP (6 + 2 * 0) (hx_at_R (by decide)) rfl 2 (by decide) (hts _ (hx_cons _ k_127)) (fun _ h9 => h9) rfl d_X_element_46 ?_
      obtain ⟨g10, h⟩ := hx_gs h
      refine va_aldq hx hb hK hP (1) 0 hx_at_FA rfl g10 d_X_element_49 ?_
      refine lv_aload_n hx hb d_X_element_50 rfl (lv_at hl 1 rfl) ?_
      refine va_get (D := D) (ci := 0) (v := .ref (ad (6 + 2 * 0))) (C := "HalfFloats") (T := T_X) (N := 9) hx hb hts (hx_up in_X) hown hK hP (0) hx_at_X rfl 1 (by decide) (hts _ (hx_cons _ k_205)) (fun _ h9 => h9) rfl d_X_element_51 ?_
      refine va_get (D := D) (ci := 2) (v := .ref (ad (7 + 2 * 0))) (C := "HalfFloats$Row") (T := T_R) (N := 3) hx hb hts (hx_up in_R) hown hK hP (6 + 2 * 0) (hx_at_R (by decide)) rfl 0 (by decide) (hts _ (hx_cons _ k_123)) (fun _ h9 => h9) rfl d_X_element_54 ?_
      refine lv_iload_n hx hb d_X_element_57 rfl (lv_at hl 3 rfl) ?_
      obtain ⟨g11, h⟩ := hx_gs h
      refine va_iald hx hb hK hP (7 + 2 * 0) 1 (hx_at_RP (by decide)) rfl g11 d_X_element_58 ?_
      refine lv_iload_n hx hb d_X_element_59 rfl (lv_at hl 0 rfl) ?_
      refine lv_aload_n hx hb d_X_element_60 rfl (lv_at hl 1 rfl) ?_
      refine va_get (D := D) (ci := 0) (v := .ref (ad 1)) (C := "HalfFloats") (T := T_X) (N := 9) hx hb hts (hx_up in_X) hown hK hP (0) hx_at_X rfl 0 (by decide) (hts _ (hx_cons _ k_204)) (fun _ h9 => h9) rfl d_X_element_61 ?_
      refine lv_iload_n hx hb d_X_element_64 rfl (lv_at hl 2 rfl) ?_
      obtain ⟨g12, h⟩ := hx_gs h
      refine va_aldq hx hb hK hP (1) 0 hx_at_FA rfl g12 d_X_element_65 ?_
      refine lv_iconst (v := 0) hx hb d_X_element_66 (by decide) ?_
      obtain ⟨r14, q13, eq13, h⟩ := hx_b2s h
      refine hx_wi (va_runV (As := [.ref (ad (2 + (hx_format σ 0).toNatClampNeg)), .int (hx_pat σ 0 x2.toNatClampNeg), .int x9, .ref (ad (2 + x1.toNatClampNeg)), .int (0 : Int32)]) (rest := []) ⟨hx, hb, hml, hown, hts⟩ (c_D_turned l D T3 ad _ σ ((hx_format σ 0).toNatClampNeg) (hx_pat σ 0 x2.toNatClampNeg) x9 x1.toNatClampNeg (0 : Int32) (hx_lt g10) (hx_lt g12) _ _ eq13) (cwV 5 hts (hx_gV hx_cons k_292 k_293 k_294 k_54 k_295) rfl rfl rfl (by decide +kernel) ⟨Nat.le_of_ble_eq_true rfl, Nat.le_of_ble_eq_true rfl⟩) (hx_preVw (va_recv hK hP (ci := 4) (q0 := 12) rfl hx_at_D) hP hK hD) rfl rfl hl.1 rfl (lv_room (Nat.le_of_ble_eq_true rfl)) d_X_element_67 ⟨Nat.zero_le _, Nat.zero_le _⟩) hD hS hA (fun H locs hP hD hS => ?_)
      obtain ⟨r15, er15, h⟩ := hx_b1s h
      refine hx_rd (va_runS (As := [.int r14]) (rest := []) ⟨hx, hb, hml, hown, hts⟩ (c_X_bits l D T3 r14 _ er15) (va_cwS 1 hts (hx_gS hx_cons k_342 k_343 k_50 k_344) rfl rfl rfl (by decide +kernel) ⟨Nat.le_of_ble_eq_true rfl, Nat.le_of_ble_eq_true rfl⟩) (hx_preS hx_nil hK) rfl rfl hl.1 rfl (lv_room (Nat.le_of_ble_eq_true rfl)) d_X_element_70 ⟨Nat.zero_le _, Nat.zero_le _⟩) ?_
      exact W.lret hx hb hr (fun t ht hW => hx_endj h ht hW hP hK hD hS) hS.2.2 d_X_element_73
    · replace h := hx_ip c6 h
      refine lv_ldc2 (v := -2) hx hb hown (hts _ (hx_cons _ k_291)) d_X_element_18 ?_
      exact W.lret hx hb hr (fun t ht hW => hx_endj h ht hW hP hK hD hS) hS.2.2 d_X_element_21
abbrev m_X_scaler : Room := { frames := 0, cells := 0, slots := 0, locals := 0 }
set_option maxHeartbeats 4000000 in
set_option maxRecDepth 100000 in
theorem c_X_scaler (l : Launch) (D : va_G) (T3 : hx_T3) (ad : Nat → Nat) (sz : Nat) (σ : hx_S) (x1 : Int32) (x2 : Int32) (r0 : Int32) (σ0 : hx_S) (h : f_X_scaler σ x1 x2 = some (r0, σ0)) : hx_Wi l D (hx_ty T3) y_X_scaler w_X_scaler m_X_scaler [.ref (ad 0), .int x1, .int x2] sz (hx_W T3 ad σ) r0 (hx_W T3 ad σ0) := by
  refine Met.ofW (cc := b_X_scaler) (maxL := 3) (ret := (some .int)) (by decide) rfl ?_
  intro p e s m args below meth c s₁ B hml hv
  obtain ⟨hargs, hsz, hP, hK, hD0⟩ := hv
  have hx := B.exec
  have hb := B.bytes
  have hr := B.returns
  have hts := atoms_spec (ws := w_X_scaler) B.pre
  have hown : s.vm.findClass "HalfFloats" = some m.cls := findClass_of_methodNamed B.named
  have hlocks := B.notSynchronized
  subst hsz
  have hD := hD0.self (sz := s.heap.size)
  generalize hAe : va_A (hx_W T3 ad σ) s.heap.size = A at hD ⊢
  have hA : ∀ q : Nat, s.heap.size ≤ q → A q := fun q h => by rw [← hAe]; exact Or.inr h
  have hS : va_S A s.heap s.heap [] := va_S.rf
  refine W.eq (g2 := F0 m 0 ((lg_sl [.ref (ad 0), .int x1, .int x2] ++ List.replicate (3 - (lg_sl [.ref (ad 0), .int x1, .int x2]).length) Slot.unset).toArray) []) (by rw [hargs, lg_entry_eq]) ?_
  have hl := lv_entry ([.ref (ad 0), .int x1, .int x2]) (n := 3) (Nat.le_of_ble_eq_true rfl)
  generalize (lg_sl ([.ref (ad 0), .int x1, .int x2]) ++ List.replicate (3 - (lg_sl ([.ref (ad 0), .int x1, .int x2])).length) Slot.unset).toArray = ls at hl ⊢
  have hl : lv_has ls 3 [(0, .ref (ad 0)), (1, .int x1), (2, .int x2)] := hl
  rw [f_X_scaler] at h
  refine lv_iload_n hx hb d_X_scaler_0 rfl (lv_at hl 1 rfl) ?_
  refine lv_bipush (v := -60) hx hb d_X_scaler_1 (by decide) ?_
  refine lv_icmp_lt (tgt := 23) hx hb d_X_scaler_3 (by decide) (fun c3 => ?_) (fun c3 => ?_)
  · replace h := hx_ip c3 h
    refine lv_bipush (v := -2) hx hb d_X_scaler_23 (by decide) ?_
    exact W.iret hx hb hr (fun t ht hW => hx_endi h ht hW hP hK hD hS) hS.2.2 d_X_scaler_25
  · replace h := hx_in c3 h
    refine lv_iload_n hx hb d_X_scaler_6 rfl (lv_at hl 1 rfl) ?_
    refine lv_bipush (v := 60) hx hb d_X_scaler_7 (by decide) ?_
    refine lv_icmp_gt (tgt := 23) hx hb d_X_scaler_9 (by decide) (fun c4 => ?_) (fun c4 => ?_)
    · replace h := hx_ip c4 h
      refine lv_bipush (v := -2) hx hb d_X_scaler_23 (by decide) ?_
      exact W.iret hx hb hr (fun t ht hW => hx_endi h ht hW hP hK hD hS) hS.2.2 d_X_scaler_25
    · replace h := hx_in c4 h
      refine lv_iload_n hx hb d_X_scaler_12 rfl (lv_at hl 2 rfl) ?_
      refine lv_iconst (v := 1) hx hb d_X_scaler_13 (by decide) ?_
      refine lv_icmp_lt (tgt := 23) hx hb d_X_scaler_14 (by decide) (fun c5 => ?_) (fun c5 => ?_)
      · replace h := hx_ip c5 h
        refine lv_bipush (v := -2) hx hb d_X_scaler_23 (by decide) ?_
        exact W.iret hx hb hr (fun t ht hW => hx_endi h ht hW hP hK hD hS) hS.2.2 d_X_scaler_25
      · replace h := hx_in c5 h
        refine lv_iload_n hx hb d_X_scaler_17 rfl (lv_at hl 2 rfl) ?_
        refine lv_bipush (v := 100) hx hb d_X_scaler_18 (by decide) ?_
        refine lv_icmp_le (tgt := 26) hx hb d_X_scaler_20 (by decide) (fun c6 => ?_) (fun c6 => ?_)
        · replace h := hx_ip c6 h
          refine lv_aload_n hx hb d_X_scaler_26 rfl (lv_at hl 0 rfl) ?_
          refine lv_iload_n hx hb d_X_scaler_27 rfl (lv_at hl 1 rfl) ?_
          refine va_put (D := D) (ci := 0) (v := .int x1) (ty := .int) (C := "HalfFloats") (T := T_X) (N := 9) hx hb hts (hx_up in_X) ty_X tyok_X nm_X hown hK hP hD hS (0) hx_at_X rfl 6 (by decide) (hts _ (hx_cons _ k_210)) (fun _ h9 => h9) rfl (by decide +kernel) rfl rfl (Nat.le_of_ble_eq_true rfl) d_X_scaler_28 (fun H locs hP hD hS => ?_)
          obtain ⟨σ7, eσ7⟩ : ∃ y : hx_S, y = (hx_shift_s σ x1) := ⟨_, rfl⟩
          replace hP : va_P D vwCl (hx_W T3 ad σ7) H := by rw [eσ7]; exact hP
          replace hD : va_D A (hx_W T3 ad σ7) := by rw [eσ7]; exact hD
          replace h := hx_ns eσ7 h
          clear eσ7
          refine lv_aload_n hx hb d_X_scaler_31 rfl (lv_at hl 0 rfl) ?_
          refine lv_iload_n hx hb d_X_scaler_32 rfl (lv_at hl 2 rfl) ?_
          refine va_put (D := D) (ci := 0) (v := .int x2) (ty := .int) (C := "HalfFloats") (T := T_X) (N := 9) hx hb hts (hx_up in_X) ty_X tyok_X nm_X hown hK hP hD hS (0) hx_at_X rfl 8 (by decide) (hts _ (hx_cons _ k_212)) (fun _ h9 => h9) rfl (by decide +kernel) rfl rfl (Nat.le_of_ble_eq_true rfl) d_X_scaler_33 (fun H locs hP hD hS => ?_)
          obtain ⟨σ8, eσ8⟩ : ∃ y : hx_S, y = (hx_goal_s σ7 x2) := ⟨_, rfl⟩
          replace hP : va_P D vwCl (hx_W T3 ad σ8) H := by rw [eσ8]; exact hP
          replace hD : va_D A (hx_W T3 ad σ8) := by rw [eσ8]; exact hD
          replace h := hx_ns eσ8 h
          clear eσ8
          refine lv_aload_n hx hb d_X_scaler_36 rfl (lv_at hl 0 rfl) ?_
          refine lv_iconst (v := 0) hx hb d_X_scaler_37 (by decide) ?_
          refine va_put (D := D) (ci := 0) (v := .int (0 : Int32)) (ty := .int) (C := "HalfFloats") (T := T_X) (N := 9) hx hb hts (hx_up in_X) ty_X tyok_X nm_X hown hK hP hD hS (0) hx_at_X rfl 7 (by decide) (hts _ (hx_cons _ k_211)) (fun _ h9 => h9) rfl (by decide +kernel) rfl rfl (Nat.le_of_ble_eq_true rfl) d_X_scaler_38 (fun H locs hP hD hS => ?_)
          obtain ⟨σ9, eσ9⟩ : ∃ y : hx_S, y = (hx_streak_s σ8 (0 : Int32)) := ⟨_, rfl⟩
          replace hP : va_P D vwCl (hx_W T3 ad σ9) H := by rw [eσ9]; exact hP
          replace hD : va_D A (hx_W T3 ad σ9) := by rw [eσ9]; exact hD
          replace h := hx_ns eσ9 h
          clear eσ9
          refine lv_iconst (v := 1) hx hb d_X_scaler_41 (by decide) ?_
          exact W.iret hx hb hr (fun t ht hW => hx_endi h ht hW hP hK hD hS) hS.2.2 d_X_scaler_42
        · replace h := hx_in c6 h
          refine lv_bipush (v := -2) hx hb d_X_scaler_23 (by decide) ?_
          exact W.iret hx hb hr (fun t ht hW => hx_endi h ht hW hP hK hD hS) hS.2.2 d_X_scaler_25
abbrev m_X_slopesBroke : Room := { frames := 2, cells := 0, slots := 0, locals := 43 }
set_option maxHeartbeats 4000000 in
set_option maxRecDepth 100000 in
theorem c_X_slopesBroke (l : Launch) (D : va_G) (T3 : hx_T3) (ad : Nat → Nat) (σ : hx_S) (r0 : Int32) (h : f_X_slopesBroke σ = some r0) : hx_R l D (hx_ty T3) (hx_W T3 ad σ) y_X_slopesBroke w_X_slopesBroke m_X_slopesBroke [.ref (ad 0)] (.int r0) := by
  refine Met.ofW (cc := b_X_slopesBroke) (maxL := 3) (ret := (some .boolean)) (by decide) rfl ?_
  intro p e s m args below meth c s₁ B hml hv
  obtain ⟨hargs, hP, hK⟩ := hv
  have hx := B.exec
  have hb := B.bytes
  have hr := B.returns
  have hts := atoms_spec (ws := w_X_slopesBroke) B.pre
  have hown : s.vm.findClass "HalfFloats" = some m.cls := findClass_of_methodNamed B.named
  have hlocks := B.notSynchronized
  have B_15 : ∀ (n : Nat), ∀ (k2 : Nat) (x3 : Int32) (ls : Array Slot), k2 < 4 → lv_has ls 3 [(0, .ref (ad 0)), (1, .ref (ad (2 + k2))), (2, .int x3)] → f_X_slopesBroke_15 n σ k2 x3 = some r0 → W p l e (headSpec w_X_slopesBroke m_X_slopesBroke).room s m args below meth c s.heap [] 0 0 (MQ below (hx_Q (.int r0)) args s 0 0 (fun _ => False)) (F0 m 15 ls []) := by
    intro n
    induction n with
    | zero =>
      intro k2 x3 ls hk2 hl h
      rw [f_X_slopesBroke_15] at h
      cases h
    | succ n ih =>
        intro k2 x3 ls hk2 hl h
        rw [f_X_slopesBroke_15] at h
        refine lv_iload_n hx hb d_X_slopesBroke_15 rfl (lv_at hl 2 rfl) ?_
        refine lv_aload_n hx hb d_X_slopesBroke_16 rfl (lv_at hl 0 rfl) ?_
        refine va_get (D := D) (ci := 0) (v := .ref (ad (6 + 2 * 0))) (C := "HalfFloats") (T := T_X) (N := 9) hx hb hts (hx_up in_X) hown hK hP (0) hx_at_X rfl 1 (by decide) (hts _ (hx_cons _ k_205)) (fun _ h9 => h9) rfl d_X_slopesBroke_17 ?_
        refine va_get (D := D) (ci := 2) (v := .int (hx_size σ 0)) (C := "HalfFloats$Row") (T := T_R) (N := 3) hx hb hts (hx_up in_R) hown hK hP (6 + 2 * 0) (hx_at_R (by decide)) rfl 1 (by decide) (hts _ (hx_cons _ k_125)) (fun _ h9 => h9) rfl d_X_slopesBroke_20 ?_
        refine lv_icmp_ge (tgt := 51) hx hb d_X_slopesBroke_23 (by decide) (fun c4 => ?_) (fun c4 => ?_)
        · replace h := hx_ip c4 h
          refine lv_iconst (v := 0) hx hb d_X_slopesBroke_51 (by decide) ?_
          exact W.zret hx hb hr (hx_nb (Or.inl rfl)) (fun t ht hW => ⟨by rw [Option.some.inj h], ht⟩) (fun q hq => nomatch hq) d_X_slopesBroke_52
        · replace h := hx_in c4 h
          refine lv_aload_n hx hb d_X_slopesBroke_26 rfl (lv_at hl 1 rfl) ?_
          refine lv_aload_n hx hb d_X_slopesBroke_27 rfl (lv_at hl 0 rfl) ?_
          refine va_get (D := D) (ci := 0) (v := .ref (ad (6 + 2 * 0))) (C := "HalfFloats") (T := T_X) (N := 9) hx hb hts (hx_up in_X) hown hK hP (0) hx_at_X rfl 1 (by decide) (hts _ (hx_cons _ k_205)) (fun _ h9 => h9) rfl d_X_slopesBroke_28 ?_
          refine va_get (D := D) (ci := 2) (v := .ref (ad (7 + 2 * 0))) (C := "HalfFloats$Row") (T := T_R) (N := 3) hx hb hts (hx_up in_R) hown hK hP (6 + 2 * 0) (hx_at_R (by decide)) rfl 0 (by decide) (hts _ (hx_cons _ k_123)) (fun _ h9 => h9) rfl d_X_slopesBroke_31 ?_
          refine lv_iload_n hx hb d_X_slopesBroke_34 rfl (lv_at hl 2 rfl) ?_
          obtain ⟨g5, h⟩ := hx_gs h
          refine va_iald hx hb hK hP (7 + 2 * 0) 1 (hx_at_RP (by decide)) rfl g5 d_X_slopesBroke_35 ?_
          obtain ⟨r6, er6, h⟩ := hx_b1s h
          refine hx_rd (va_runV (As := [.int (hx_pat σ 0 x3.toNatClampNeg)]) (rest := []) ⟨hx, hb, hml, hown, hts⟩ (c_F_sortOf l D T3 (ad (2 + k2)) (hx_fm σ k2) (hx_pat σ 0 x3.toNatClampNeg) _ er6) (cwV 1 hts (hx_gV hx_cons k_261 k_262 k_263 k_51 k_264) rfl rfl rfl (by decide +kernel) ⟨Nat.le_of_ble_eq_true rfl, Nat.le_of_ble_eq_true rfl⟩) (hx_preV (va_recv hK hP (ci := 1) (q0 := 2 + k2) rfl (hx_at_F hk2)) (hx_one hP (hx_at_F hk2)) hK) rfl rfl hl.1 rfl (lv_room (Nat.le_of_ble_eq_true rfl)) d_X_slopesBroke_36 ⟨Nat.zero_le _, Nat.zero_le _⟩) ?_
          refine lv_iconst (v := 3) hx hb d_X_slopesBroke_39 (by decide) ?_
          refine lv_icmp_lt (tgt := 45) hx hb d_X_slopesBroke_40 (by decide) (fun c7 => ?_) (fun c7 => ?_)
          · replace h := hx_ip c7 h
            obtain ⟨x8, ex8⟩ : ∃ y : Int32, y = x3 + 1 := ⟨_, rfl⟩
            replace h := hx_ns ex8 h
            refine lv_iinc (v := x8) (lv' := [(2, .int x8), (0, .ref (ad 0)), (1, .ref (ad (2 + k2)))]) hx hb d_X_slopesBroke_45 hl (k := 2) rfl (by rw [ex8]; rfl) (by decide) rfl (fun ls hl => ?_)
            clear ex8
            refine lv_goto (tgt := 15) hx hb d_X_slopesBroke_48 (by decide) ?_
            exact ih k2 x8 ls hk2 (lv_sub hl [1, 2, 0] rfl) h
          · replace h := hx_in c7 h
            refine lv_iconst (v := 1) hx hb d_X_slopesBroke_43 (by decide) ?_
            exact W.zret hx hb hr (hx_nb (Or.inr rfl)) (fun t ht hW => ⟨by rw [Option.some.inj h], ht⟩) (fun q hq => nomatch hq) d_X_slopesBroke_44
  refine W.eq (g2 := F0 m 0 ((lg_sl [.ref (ad 0)] ++ List.replicate (3 - (lg_sl [.ref (ad 0)]).length) Slot.unset).toArray) []) (by rw [hargs, lg_entry_eq]) ?_
  have hl := lv_entry ([.ref (ad 0)]) (n := 3) (Nat.le_of_ble_eq_true rfl)
  generalize (lg_sl ([.ref (ad 0)]) ++ List.replicate (3 - (lg_sl ([.ref (ad 0)])).length) Slot.unset).toArray = ls at hl ⊢
  have hl : lv_has ls 3 [(0, .ref (ad 0))] := hl
  rw [f_X_slopesBroke] at h
  refine lv_aload_n hx hb d_X_slopesBroke_0 rfl (lv_at hl 0 rfl) ?_
  refine va_get (D := D) (ci := 0) (v := .ref (ad 1)) (C := "HalfFloats") (T := T_X) (N := 9) hx hb hts (hx_up in_X) hown hK hP (0) hx_at_X rfl 0 (by decide) (hts _ (hx_cons _ k_204)) (fun _ h9 => h9) rfl d_X_slopesBroke_1 ?_
  refine lv_aload_n hx hb d_X_slopesBroke_4 rfl (lv_at hl 0 rfl) ?_
  refine va_get (D := D) (ci := 0) (v := .ref (ad (6 + 2 * 0))) (C := "HalfFloats") (T := T_X) (N := 9) hx hb hts (hx_up in_X) hown hK hP (0) hx_at_X rfl 1 (by decide) (hts _ (hx_cons _ k_205)) (fun _ h9 => h9) rfl d_X_slopesBroke_5 ?_
  refine va_get (D := D) (ci := 2) (v := .int (hx_format σ 0)) (C := "HalfFloats$Row") (T := T_R) (N := 3) hx hb hts (hx_up in_R) hown hK hP (6 + 2 * 0) (hx_at_R (by decide)) rfl 2 (by decide) (hts _ (hx_cons _ k_127)) (fun _ h9 => h9) rfl d_X_slopesBroke_8 ?_
  obtain ⟨g1, h⟩ := hx_gs h
  refine va_aldq hx hb hK hP (1) 0 hx_at_FA rfl g1 d_X_slopesBroke_11 ?_
  refine lv_astore_n (lv' := [(1, .ref (ad (2 + (hx_format σ 0).toNatClampNeg))), (0, .ref (ad 0))]) hx hb d_X_slopesBroke_12 rfl hl (by decide) rfl (fun ls hl => ?_)
  refine lv_iconst (v := 0) hx hb d_X_slopesBroke_13 (by decide) ?_
  refine lv_istore_n (lv' := [(2, .int (0 : Int32)), (1, .ref (ad (2 + (hx_format σ 0).toNatClampNeg))), (0, .ref (ad 0))]) hx hb d_X_slopesBroke_14 rfl hl (by decide) rfl (fun ls hl => ?_)
  exact B_15 hx_fuel ((hx_format σ 0).toNatClampNeg) (0 : Int32) ls (hx_lt g1) (lv_sub hl [2, 1, 0] rfl) h
abbrev m_X_stepped : Room := { frames := 6, cells := 0, slots := 0, locals := 137 }
set_option maxHeartbeats 4000000 in
set_option maxRecDepth 100000 in
theorem c_X_stepped (l : Launch) (D : va_G) (T3 : hx_T3) (ad : Nat → Nat) (sz : Nat) (σ : hx_S) (x1 : Int32) (x2 : Int32) (x3 : Int32) (r0 : Int32) (σ0 : hx_S) (h : f_X_stepped σ x1 x2 x3 = some (r0, σ0)) : hx_Wi l D (hx_ty T3) y_X_stepped w_X_stepped m_X_stepped [.ref (ad 0), .int x1, .int x2, .int x3] sz (hx_W T3 ad σ) r0 (hx_W T3 ad σ0) := by
  refine Met.ofW (cc := b_X_stepped) (maxL := 7) (ret := (some .int)) (by decide) rfl ?_
  intro p e s m args below meth c s₁ B hml hv
  obtain ⟨hargs, hsz, hP, hK, hD0⟩ := hv
  have hx := B.exec
  have hb := B.bytes
  have hr := B.returns
  have hts := atoms_spec (ws := w_X_stepped) B.pre
  have hown : s.vm.findClass "HalfFloats" = some m.cls := findClass_of_methodNamed B.named
  have hlocks := B.notSynchronized
  subst hsz
  have hD := hD0.self (sz := s.heap.size)
  generalize hAe : va_A (hx_W T3 ad σ) s.heap.size = A at hD ⊢
  have hA : ∀ q : Nat, s.heap.size ≤ q → A q := fun q h => by rw [← hAe]; exact Or.inr h
  have hS : va_S A s.heap s.heap [] := va_S.rf
  refine W.eq (g2 := F0 m 0 ((lg_sl [.ref (ad 0), .int x1, .int x2, .int x3] ++ List.replicate (7 - (lg_sl [.ref (ad 0), .int x1, .int x2, .int x3]).length) Slot.unset).toArray) []) (by rw [hargs, lg_entry_eq]) ?_
  have hl := lv_entry ([.ref (ad 0), .int x1, .int x2, .int x3]) (n := 7) (Nat.le_of_ble_eq_true rfl)
  generalize (lg_sl ([.ref (ad 0), .int x1, .int x2, .int x3]) ++ List.replicate (7 - (lg_sl ([.ref (ad 0), .int x1, .int x2, .int x3])).length) Slot.unset).toArray = ls at hl ⊢
  have hl : lv_has ls 7 [(0, .ref (ad 0)), (1, .int x1), (2, .int x2), (3, .int x3)] := hl
  rw [f_X_stepped] at h
  refine lv_aload_n hx hb d_X_stepped_0 rfl (lv_at hl 0 rfl) ?_
  refine va_get (D := D) (ci := 0) (v := .ref (ad 1)) (C := "HalfFloats") (T := T_X) (N := 9) hx hb hts (hx_up in_X) hown hK hP (0) hx_at_X rfl 0 (by decide) (hts _ (hx_cons _ k_204)) (fun _ h9 => h9) rfl d_X_stepped_1 ?_
  refine lv_aload_n hx hb d_X_stepped_4 rfl (lv_at hl 0 rfl) ?_
  refine va_get (D := D) (ci := 0) (v := .ref (ad (6 + 2 * 1))) (C := "HalfFloats") (T := T_X) (N := 9) hx hb hts (hx_up in_X) hown hK hP (0) hx_at_X rfl 2 (by decide) (hts _ (hx_cons _ k_206)) (fun _ h9 => h9) rfl d_X_stepped_5 ?_
  refine va_get (D := D) (ci := 2) (v := .int (hx_format σ 1)) (C := "HalfFloats$Row") (T := T_R) (N := 3) hx hb hts (hx_up in_R) hown hK hP (6 + 2 * 1) (hx_at_R (by decide)) rfl 2 (by decide) (hts _ (hx_cons _ k_127)) (fun _ h9 => h9) rfl d_X_stepped_8 ?_
  obtain ⟨g4, h⟩ := hx_gs h
  refine va_aldq hx hb hK hP (1) 0 hx_at_FA rfl g4 d_X_stepped_11 ?_
  refine lv_astore (lv' := [(4, .ref (ad (2 + (hx_format σ 1).toNatClampNeg))), (0, .ref (ad 0)), (1, .int x1), (2, .int x2), (3, .int x3)]) hx hb d_X_stepped_12 hl (by decide) rfl (fun ls hl => ?_)
  refine lv_aload_n hx hb d_X_stepped_14 rfl (lv_at hl 1 rfl) ?_
  refine va_get (D := D) (ci := 0) (v := .ref (ad 12)) (C := "HalfFloats") (T := T_X) (N := 9) hx hb hts (hx_up in_X) hown hK hP (0) hx_at_X rfl 4 (by decide) (hts _ (hx_cons _ k_208)) (fun _ h9 => h9) rfl d_X_stepped_15 ?_
  refine lv_aload_n hx hb d_X_stepped_18 rfl (lv_at hl 1 rfl) ?_
  refine va_get (D := D) (ci := 0) (v := .ref (ad 1)) (C := "HalfFloats") (T := T_X) (N := 9) hx hb hts (hx_up in_X) hown hK hP (0) hx_at_X rfl 0 (by decide) (hts _ (hx_cons _ k_204)) (fun _ h9 => h9) rfl d_X_stepped_19 ?_
  refine lv_aload_n hx hb d_X_stepped_22 rfl (lv_at hl 1 rfl) ?_
  refine va_get (D := D) (ci := 0) (v := .ref (ad (6 + 2 * 0))) (C := "HalfFloats") (T := T_X) (N := 9) hx hb hts (hx_up in_X) hown hK hP (0) hx_at_X rfl 1 (by decide) (hts _ (hx_cons _ k_205)) (fun _ h9 => h9) rfl d_X_stepped_23 ?_
  refine va_get (D := D) (ci := 2) (v := .int (hx_format σ 0)) (C := "HalfFloats$Row") (T := T_R) (N := 3) hx hb hts (hx_up in_R) hown hK hP (6 + 2 * 0) (hx_at_R (by decide)) rfl 2 (by decide) (hts _ (hx_cons _ k_127)) (fun _ h9 => h9) rfl d_X_stepped_26 ?_
  obtain ⟨g5, h⟩ := hx_gs h
  refine va_aldq hx hb hK hP (1) 0 hx_at_FA rfl g5 d_X_stepped_29 ?_
  refine lv_iload_n hx hb d_X_stepped_30 rfl (lv_at hl 4 rfl) ?_
  refine lv_aload_n hx hb d_X_stepped_31 rfl (lv_at hl 1 rfl) ?_
  refine va_get (D := D) (ci := 0) (v := .int (hx_shift σ)) (C := "HalfFloats") (T := T_X) (N := 9) hx hb hts (hx_up in_X) hown hK hP (0) hx_at_X rfl 6 (by decide) (hts _ (hx_cons _ k_210)) (fun _ h9 => h9) rfl d_X_stepped_32 ?_
  refine lv_ineg hx hb d_X_stepped_35 ?_
  refine lv_aload hx hb d_X_stepped_36 (lv_at hl 0 rfl) ?_
  refine lv_iconst (v := 0) hx hb d_X_stepped_38 (by decide) ?_
  obtain ⟨r7, q6, eq6, h⟩ := hx_b2s h
  refine hx_wi (va_runV (As := [.ref (ad (2 + (hx_format σ 0).toNatClampNeg)), .int x3, .int (-(hx_shift σ)), .ref (ad (2 + (hx_format σ 1).toNatClampNeg)), .int (0 : Int32)]) (rest := []) ⟨hx, hb, hml, hown, hts⟩ (c_D_turned l D T3 ad _ σ ((hx_format σ 0).toNatClampNeg) x3 (-(hx_shift σ)) ((hx_format σ 1).toNatClampNeg) (0 : Int32) (hx_lt g5) (hx_lt g4) _ _ eq6) (cwV 5 hts (hx_gV hx_cons k_292 k_293 k_294 k_54 k_295) rfl rfl rfl (by decide +kernel) ⟨Nat.le_of_ble_eq_true rfl, Nat.le_of_ble_eq_true rfl⟩) (hx_preVw (va_recv hK hP (ci := 4) (q0 := 12) rfl hx_at_D) hP hK hD) rfl rfl hl.1 rfl (lv_room (Nat.le_of_ble_eq_true rfl)) d_X_stepped_39 ⟨Nat.zero_le _, Nat.zero_le _⟩) hD hS hA (fun H locs hP hD hS => ?_)
  refine lv_istore (lv' := [(5, .int r7), (4, .ref (ad (2 + (hx_format σ 1).toNatClampNeg))), (0, .ref (ad 0)), (1, .int x1), (2, .int x2), (3, .int x3)]) hx hb d_X_stepped_42 hl (by decide) rfl (fun ls hl => ?_)
  refine lv_aload_n hx hb d_X_stepped_44 rfl (lv_at hl 2 rfl) ?_
  refine va_get (D := D) (ci := 0) (v := .ref (ad 10)) (C := "HalfFloats") (T := T_X) (N := 9) hx hb hts (hx_up in_X) hown hK hP (0) hx_at_X rfl 3 (by decide) (hts _ (hx_cons _ k_207)) (fun _ h9 => h9) rfl d_X_stepped_45 ?_
  obtain ⟨q8, eq8, h⟩ := hx_b1s h
  refine hx_wv (va_runV (As := []) (rest := []) ⟨hx, hb, hml, hown, hts⟩ (c_E_begin l D T3 ad _ q6 _ eq8) (cwV 0 hts (hx_gV hx_cons k_350 k_351 k_352 k_53 k_353) rfl rfl rfl (by decide +kernel) ⟨Nat.le_of_ble_eq_true rfl, Nat.le_of_ble_eq_true rfl⟩) (hx_preVw (va_recv hK hP (ci := 3) (q0 := 10) rfl hx_at_E) hP hK hD) rfl rfl hl.1 rfl (lv_room (Nat.le_of_ble_eq_true rfl)) d_X_stepped_48 ⟨Nat.zero_le _, Nat.zero_le _⟩) hD hS hA (fun H locs hP hD hS => ?_)
  refine lv_aload_n hx hb d_X_stepped_51 rfl (lv_at hl 2 rfl) ?_
  refine va_get (D := D) (ci := 0) (v := .ref (ad 10)) (C := "HalfFloats") (T := T_X) (N := 9) hx hb hts (hx_up in_X) hown hK hP (0) hx_at_X rfl 3 (by decide) (hts _ (hx_cons _ k_207)) (fun _ h9 => h9) rfl d_X_stepped_52 ?_
  refine lv_aload hx hb d_X_stepped_55 (lv_at hl 1 rfl) ?_
  refine lv_aload hx hb d_X_stepped_57 (lv_at hl 1 rfl) ?_
  refine lv_iload_n hx hb d_X_stepped_59 rfl (lv_at hl 4 rfl) ?_
  obtain ⟨r9, er9, h⟩ := hx_b1s h
  refine hx_rd (va_runV (As := [.int x2]) (rest := [.ref (ad (2 + (hx_format σ 1).toNatClampNeg)), .ref (ad 10)]) ⟨hx, hb, hml, hown, hts⟩ (c_F_turnedOver l D T3 (ad (2 + (hx_format σ 1).toNatClampNeg)) (hx_fm q8 ((hx_format σ 1).toNatClampNeg)) x2 _ er9) (cwV 1 hts (hx_gV hx_cons k_534 k_535 k_536 k_51 k_537) rfl rfl rfl (by decide +kernel) ⟨Nat.le_of_ble_eq_true rfl, Nat.le_of_ble_eq_true rfl⟩) (hx_preV (va_recv hK hP (ci := 1) (q0 := 2 + (hx_format σ 1).toNatClampNeg) rfl (hx_at_F (hx_lt g4))) (hx_one hP (hx_at_F (hx_lt g4))) hK) rfl rfl hl.1 rfl (lv_room (Nat.le_of_ble_eq_true rfl)) d_X_stepped_60 ⟨Nat.zero_le _, Nat.zero_le _⟩) ?_
  refine lv_aload hx hb d_X_stepped_63 (lv_at hl 1 rfl) ?_
  refine lv_iload hx hb d_X_stepped_65 (lv_at hl 0 rfl) ?_
  obtain ⟨q10, eq10, h⟩ := hx_b1s h
  refine hx_wv (va_runV (As := [.ref (ad (2 + (hx_format σ 1).toNatClampNeg)), .int r9, .ref (ad (2 + (hx_format σ 1).toNatClampNeg)), .int r7]) (rest := []) ⟨hx, hb, hml, hown, hts⟩ (c_E_addProduct l D T3 ad _ q8 ((hx_format σ 1).toNatClampNeg) r9 ((hx_format σ 1).toNatClampNeg) r7 (hx_lt g4) (hx_lt g4) _ eq10) (cwV 4 hts (hx_gV hx_cons k_354 k_355 k_356 k_53 k_357) rfl rfl rfl (by decide +kernel) ⟨Nat.le_of_ble_eq_true rfl, Nat.le_of_ble_eq_true rfl⟩) (hx_preVw (va_recv hK hP (ci := 3) (q0 := 10) rfl hx_at_E) hP hK hD) rfl rfl hl.1 rfl (lv_room (Nat.le_of_ble_eq_true rfl)) d_X_stepped_67 ⟨Nat.zero_le _, Nat.zero_le _⟩) hD hS hA (fun H locs hP hD hS => ?_)
  refine lv_aload_n hx hb d_X_stepped_70 rfl (lv_at hl 2 rfl) ?_
  refine va_get (D := D) (ci := 0) (v := .ref (ad 12)) (C := "HalfFloats") (T := T_X) (N := 9) hx hb hts (hx_up in_X) hown hK hP (0) hx_at_X rfl 4 (by decide) (hts _ (hx_cons _ k_208)) (fun _ h9 => h9) rfl d_X_stepped_71 ?_
  refine lv_aload_n hx hb d_X_stepped_74 rfl (lv_at hl 2 rfl) ?_
  refine va_get (D := D) (ci := 0) (v := .ref (ad 10)) (C := "HalfFloats") (T := T_X) (N := 9) hx hb hts (hx_up in_X) hown hK hP (0) hx_at_X rfl 3 (by decide) (hts _ (hx_cons _ k_207)) (fun _ h9 => h9) rfl d_X_stepped_75 ?_
  refine lv_aload hx hb d_X_stepped_78 (lv_at hl 1 rfl) ?_
  refine lv_iconst (v := 0) hx hb d_X_stepped_80 (by decide) ?_
  obtain ⟨r12, q11, eq11, h⟩ := hx_b2s h
  refine hx_wi (va_runV (As := [.ref (ad 10), .ref (ad (2 + (hx_format σ 1).toNatClampNeg)), .int (0 : Int32)]) (rest := []) ⟨hx, hb, hml, hown, hts⟩ (c_D_rounded l D T3 ad _ q10 ((hx_format σ 1).toNatClampNeg) (0 : Int32) (hx_lt g4) _ _ eq11) (cwV 3 hts (hx_gV hx_cons k_383 k_384 k_385 k_54 k_386) rfl rfl rfl (by decide +kernel) ⟨Nat.le_of_ble_eq_true rfl, Nat.le_of_ble_eq_true rfl⟩) (hx_preVw (va_recv hK hP (ci := 4) (q0 := 12) rfl hx_at_D) hP hK hD) rfl rfl hl.1 rfl (lv_room (Nat.le_of_ble_eq_true rfl)) d_X_stepped_81 ⟨Nat.zero_le _, Nat.zero_le _⟩) hD hS hA (fun H locs hP hD hS => ?_)
  refine lv_istore (lv' := [(6, .int r12), (5, .int r7), (4, .ref (ad (2 + (hx_format σ 1).toNatClampNeg))), (0, .ref (ad 0)), (1, .int x1), (2, .int x2), (3, .int x3)]) hx hb d_X_stepped_84 hl (by decide) rfl (fun ls hl => ?_)
  refine lv_aload_n hx hb d_X_stepped_86 rfl (lv_at hl 3 rfl) ?_
  refine lv_aload hx hb d_X_stepped_87 (lv_at hl 2 rfl) ?_
  refine lv_iload_n hx hb d_X_stepped_89 rfl (lv_at hl 4 rfl) ?_
  refine lv_aload hx hb d_X_stepped_90 (lv_at hl 2 rfl) ?_
  refine lv_iload hx hb d_X_stepped_92 (lv_at hl 0 rfl) ?_
  refine lv_iconst (v := 0) hx hb d_X_stepped_94 (by decide) ?_
  obtain ⟨r14, q13, eq13, h⟩ := hx_b2s h
  refine hx_wi (va_runV (As := [.ref (ad (2 + (hx_format σ 1).toNatClampNeg)), .int x1, .ref (ad (2 + (hx_format σ 1).toNatClampNeg)), .int r12, .int (0 : Int32)]) (rest := []) ⟨hx, hb, hml, hown, hts⟩ (c_X_plus l D T3 ad _ q11 ((hx_format σ 1).toNatClampNeg) x1 ((hx_format σ 1).toNatClampNeg) r12 (0 : Int32) (hx_lt g4) (hx_lt g4) _ _ eq13) (cwV 5 hts (hx_gV hx_cons k_462 k_464 k_11 k_50 k_465) rfl rfl rfl (by decide +kernel) ⟨Nat.le_of_ble_eq_true rfl, Nat.le_of_ble_eq_true rfl⟩) (hx_preVw (va_recv hK hP (ci := 0) (q0 := 0) rfl hx_at_X) hP hK hD) rfl rfl hl.1 rfl (lv_room (Nat.le_of_ble_eq_true rfl)) d_X_stepped_95 ⟨Nat.zero_le _, Nat.zero_le _⟩) hD hS hA (fun H locs hP hD hS => ?_)
  exact W.iret hx hb hr (fun t ht hW => hx_endi h ht hW hP hK hD hS) hS.2.2 d_X_stepped_98
abbrev m_X_step : Room := { frames := 7, cells := 0, slots := 0, locals := 163 }
set_option maxHeartbeats 4000000 in
set_option maxRecDepth 100000 in
theorem c_X_step (l : Launch) (D : va_G) (T3 : hx_T3) (ad : Nat → Nat) (sz : Nat) (σ : hx_S) (x1 : Int32) (r0 : Int32) (σ0 : hx_S) (h : f_X_step σ x1 = some (r0, σ0)) : hx_Wi l D (hx_ty T3) y_X_step w_X_step m_X_step [.ref (ad 0), .int x1] sz (hx_W T3 ad σ) r0 (hx_W T3 ad σ0) := by
  refine Met.ofW (cc := b_X_step) (maxL := 4) (ret := (some .int)) (by decide) rfl ?_
  intro p e s m args below meth c s₁ B hml hv
  obtain ⟨hargs, hsz, hP, hK, hD0⟩ := hv
  have hx := B.exec
  have hb := B.bytes
  have hr := B.returns
  have hts := atoms_spec (ws := w_X_step) B.pre
  have hown : s.vm.findClass "HalfFloats" = some m.cls := findClass_of_methodNamed B.named
  have hlocks := B.notSynchronized
  subst hsz
  have hD := hD0.self (sz := s.heap.size)
  generalize hAe : va_A (hx_W T3 ad σ) s.heap.size = A at hD ⊢
  have hA : ∀ q : Nat, s.heap.size ≤ q → A q := fun q h => by rw [← hAe]; exact Or.inr h
  have hS : va_S A s.heap s.heap [] := va_S.rf
  have B_67 : ∀ (n : Nat), ∀ (σ : hx_S) (x7 : Int32) (x8 : Int32) (x9 : Int32) (H : Heap) (locs : List Loc) (ls : Array Slot), va_P D vwCl (hx_W T3 ad σ) H → va_D A (hx_W T3 ad σ) → va_S A s.heap H locs → lv_has ls 4 [(0, .ref (ad 0)), (1, .int x7), (2, .int x8), (3, .int x9)] → f_X_step_67 n σ x7 x8 x9 = some (r0, σ0) → W p l e (headSpec w_X_step m_X_step).room s m args below meth c H locs 0 0 (MQ below (hx_Qi D (hx_ty T3) A r0 (hx_W T3 ad σ0)) args s 0 0 A) (F0 m 67 ls []) := by
    intro n
    induction n with
    | zero =>
      intro σ x7 x8 x9 H locs ls hP hD hS hl h
      rw [f_X_step_67] at h
      cases h
    | succ n ih =>
        intro σ x7 x8 x9 H locs ls hP hD hS hl h
        rw [f_X_step_67] at h
        refine lv_iload_n hx hb d_X_step_67 rfl (lv_at hl 3 rfl) ?_
        refine lv_iload_n hx hb d_X_step_68 rfl (lv_at hl 2 rfl) ?_
        refine lv_icmp_ge (tgt := 110) hx hb d_X_step_69 (by decide) (fun c10 => ?_) (fun c10 => ?_)
        · replace h := hx_ip c10 h
          refine lv_aload_n hx hb d_X_step_110 rfl (lv_at hl 0 rfl) ?_
          refine lv_dup hx hb d_X_step_111 rfl ?_
          refine va_get (D := D) (ci := 0) (v := .int (hx_streak σ)) (C := "HalfFloats") (T := T_X) (N := 9) hx hb hts (hx_up in_X) hown hK hP (0) hx_at_X rfl 7 (by decide) (hts _ (hx_cons _ k_211)) (fun _ h9 => h9) rfl d_X_step_112 ?_
          refine lv_iconst (v := 1) hx hb d_X_step_115 (by decide) ?_
          refine lv_iadd hx hb d_X_step_116 ?_
          refine lv_topi (fun x11 ex11 => ?_)
          replace h := hx_ns ex11 h
          clear ex11
          refine va_put (D := D) (ci := 0) (v := .int x11) (ty := .int) (C := "HalfFloats") (T := T_X) (N := 9) hx hb hts (hx_up in_X) ty_X tyok_X nm_X hown hK hP hD hS (0) hx_at_X rfl 7 (by decide) (hts _ (hx_cons _ k_211)) (fun _ h9 => h9) rfl (by decide +kernel) rfl rfl (Nat.le_of_ble_eq_true rfl) d_X_step_117 (fun H locs hP hD hS => ?_)
          obtain ⟨σ12, eσ12⟩ : ∃ y : hx_S, y = (hx_streak_s σ x11) := ⟨_, rfl⟩
          replace hP : va_P D vwCl (hx_W T3 ad σ12) H := by rw [eσ12]; exact hP
          replace hD : va_D A (hx_W T3 ad σ12) := by rw [eσ12]; exact hD
          replace h := hx_ns eσ12 h
          clear eσ12
          refine lv_aload_n hx hb d_X_step_120 rfl (lv_at hl 0 rfl) ?_
          refine va_get (D := D) (ci := 0) (v := .int (hx_streak σ12)) (C := "HalfFloats") (T := T_X) (N := 9) hx hb hts (hx_up in_X) hown hK hP (0) hx_at_X rfl 7 (by decide) (hts _ (hx_cons _ k_211)) (fun _ h9 => h9) rfl d_X_step_121 ?_
          refine lv_aload_n hx hb d_X_step_124 rfl (lv_at hl 0 rfl) ?_
          refine va_get (D := D) (ci := 0) (v := .int (hx_goal σ12)) (C := "HalfFloats") (T := T_X) (N := 9) hx hb hts (hx_up in_X) hown hK hP (0) hx_at_X rfl 8 (by decide) (hts _ (hx_cons _ k_212)) (fun _ h9 => h9) rfl d_X_step_125 ?_
          refine lv_icmp_lt (tgt := 151) hx hb d_X_step_128 (by decide) (fun c13 => ?_) (fun c13 => ?_)
          · replace h := hx_ip c13 h
            refine lv_iconst (v := 1) hx hb d_X_step_151 (by decide) ?_
            exact W.iret hx hb hr (fun t ht hW => hx_endi h ht hW hP hK hD hS) hS.2.2 d_X_step_152
          · replace h := hx_in c13 h
            refine lv_aload_n hx hb d_X_step_131 rfl (lv_at hl 0 rfl) ?_
            refine lv_aload_n hx hb d_X_step_132 rfl (lv_at hl 0 rfl) ?_
            refine va_get (D := D) (ci := 0) (v := .int (hx_shift σ12)) (C := "HalfFloats") (T := T_X) (N := 9) hx hb hts (hx_up in_X) hown hK hP (0) hx_at_X rfl 6 (by decide) (hts _ (hx_cons _ k_210)) (fun _ h9 => h9) rfl d_X_step_133 ?_
            refine lv_iconst (v := 1) hx hb d_X_step_136 (by decide) ?_
            refine lv_iadd hx hb d_X_step_137 ?_
            refine lv_bipush (v := 60) hx hb d_X_step_138 (by decide) ?_
            refine va_mmin hx hb (hml.trans hl.1.symm) hown (hts _ (hx_cons _ k_486)) (hts _ (hx_cons _ k_487)) (hts _ (hx_cons _ k_56)) (hts _ (hx_cons _ k_488)) (Nat.le_of_ble_eq_true rfl) (Nat.le_of_ble_eq_true rfl) (Nat.zero_le _) (Nat.zero_le _) d_X_step_140 ?_
            refine lv_topi (fun x14 ex14 => ?_)
            replace h := hx_ns ex14 h
            clear ex14
            refine va_put (D := D) (ci := 0) (v := .int x14) (ty := .int) (C := "HalfFloats") (T := T_X) (N := 9) hx hb hts (hx_up in_X) ty_X tyok_X nm_X hown hK hP hD hS (0) hx_at_X rfl 6 (by decide) (hts _ (hx_cons _ k_210)) (fun _ h9 => h9) rfl (by decide +kernel) rfl rfl (Nat.le_of_ble_eq_true rfl) d_X_step_143 (fun H locs hP hD hS => ?_)
            obtain ⟨σ15, eσ15⟩ : ∃ y : hx_S, y = (hx_shift_s σ12 x14) := ⟨_, rfl⟩
            replace hP : va_P D vwCl (hx_W T3 ad σ15) H := by rw [eσ15]; exact hP
            replace hD : va_D A (hx_W T3 ad σ15) := by rw [eσ15]; exact hD
            replace h := hx_ns eσ15 h
            clear eσ15
            refine lv_aload_n hx hb d_X_step_146 rfl (lv_at hl 0 rfl) ?_
            refine lv_iconst (v := 0) hx hb d_X_step_147 (by decide) ?_
            refine va_put (D := D) (ci := 0) (v := .int (0 : Int32)) (ty := .int) (C := "HalfFloats") (T := T_X) (N := 9) hx hb hts (hx_up in_X) ty_X tyok_X nm_X hown hK hP hD hS (0) hx_at_X rfl 7 (by decide) (hts _ (hx_cons _ k_211)) (fun _ h9 => h9) rfl (by decide +kernel) rfl rfl (Nat.le_of_ble_eq_true rfl) d_X_step_148 (fun H locs hP hD hS => ?_)
            obtain ⟨σ16, eσ16⟩ : ∃ y : hx_S, y = (hx_streak_s σ15 (0 : Int32)) := ⟨_, rfl⟩
            replace hP : va_P D vwCl (hx_W T3 ad σ16) H := by rw [eσ16]; exact hP
            replace hD : va_D A (hx_W T3 ad σ16) := by rw [eσ16]; exact hD
            replace h := hx_ns eσ16 h
            clear eσ16
            refine lv_iconst (v := 1) hx hb d_X_step_151 (by decide) ?_
            exact W.iret hx hb hr (fun t ht hW => hx_endi h ht hW hP hK hD hS) hS.2.2 d_X_step_152
        · replace h := hx_in c10 h
          refine lv_aload_n hx hb d_X_step_72 rfl (lv_at hl 0 rfl) ?_
          refine va_get (D := D) (ci := 0) (v := .ref (ad (6 + 2 * 1))) (C := "HalfFloats") (T := T_X) (N := 9) hx hb hts (hx_up in_X) hown hK hP (0) hx_at_X rfl 2 (by decide) (hts _ (hx_cons _ k_206)) (fun _ h9 => h9) rfl d_X_step_73 ?_
          refine va_get (D := D) (ci := 2) (v := .ref (ad (7 + 2 * 1))) (C := "HalfFloats$Row") (T := T_R) (N := 3) hx hb hts (hx_up in_R) hown hK hP (6 + 2 * 1) (hx_at_R (by decide)) rfl 0 (by decide) (hts _ (hx_cons _ k_123)) (fun _ h9 => h9) rfl d_X_step_76 ?_
          refine lv_iload_n hx hb d_X_step_79 rfl (lv_at hl 3 rfl) ?_
          refine lv_aload_n hx hb d_X_step_80 rfl (lv_at hl 0 rfl) ?_
          refine lv_aload_n hx hb d_X_step_81 rfl (lv_at hl 0 rfl) ?_
          refine va_get (D := D) (ci := 0) (v := .ref (ad (6 + 2 * 1))) (C := "HalfFloats") (T := T_X) (N := 9) hx hb hts (hx_up in_X) hown hK hP (0) hx_at_X rfl 2 (by decide) (hts _ (hx_cons _ k_206)) (fun _ h9 => h9) rfl d_X_step_82 ?_
          refine va_get (D := D) (ci := 2) (v := .ref (ad (7 + 2 * 1))) (C := "HalfFloats$Row") (T := T_R) (N := 3) hx hb hts (hx_up in_R) hown hK hP (6 + 2 * 1) (hx_at_R (by decide)) rfl 0 (by decide) (hts _ (hx_cons _ k_123)) (fun _ h9 => h9) rfl d_X_step_85 ?_
          refine lv_iload_n hx hb d_X_step_88 rfl (lv_at hl 3 rfl) ?_
          obtain ⟨g17, h⟩ := hx_gs h
          refine va_iald hx hb hK hP (7 + 2 * 1) 1 (hx_at_RP (by decide)) rfl g17 d_X_step_89 ?_
          refine lv_iload_n hx hb d_X_step_90 rfl (lv_at hl 1 rfl) ?_
          refine lv_aload_n hx hb d_X_step_91 rfl (lv_at hl 0 rfl) ?_
          refine va_get (D := D) (ci := 0) (v := .ref (ad (6 + 2 * 0))) (C := "HalfFloats") (T := T_X) (N := 9) hx hb hts (hx_up in_X) hown hK hP (0) hx_at_X rfl 1 (by decide) (hts _ (hx_cons _ k_205)) (fun _ h9 => h9) rfl d_X_step_92 ?_
          refine va_get (D := D) (ci := 2) (v := .ref (ad (7 + 2 * 0))) (C := "HalfFloats$Row") (T := T_R) (N := 3) hx hb hts (hx_up in_R) hown hK hP (6 + 2 * 0) (hx_at_R (by decide)) rfl 0 (by decide) (hts _ (hx_cons _ k_123)) (fun _ h9 => h9) rfl d_X_step_95 ?_
          refine lv_iload_n hx hb d_X_step_98 rfl (lv_at hl 3 rfl) ?_
          obtain ⟨g18, h⟩ := hx_gs h
          refine va_iald hx hb hK hP (7 + 2 * 0) 1 (hx_at_RP (by decide)) rfl g18 d_X_step_99 ?_
          obtain ⟨r20, q19, eq19, h⟩ := hx_b2s h
          refine hx_wi (va_runV (As := [.int (hx_pat σ 1 x9.toNatClampNeg), .int x7, .int (hx_pat σ 0 x9.toNatClampNeg)]) (rest := [.int x9, .ref (ad (7 + 2 * 1))]) ⟨hx, hb, hml, hown, hts⟩ (c_X_stepped l D T3 ad _ σ (hx_pat σ 1 x9.toNatClampNeg) x7 (hx_pat σ 0 x9.toNatClampNeg) _ _ eq19) (cwV 3 hts (hx_gV hx_cons k_530 k_532 k_20 k_50 k_533) rfl rfl rfl (by decide +kernel) ⟨Nat.le_of_ble_eq_true rfl, Nat.le_of_ble_eq_true rfl⟩) (hx_preVw (va_recv hK hP (ci := 0) (q0 := 0) rfl hx_at_X) hP hK hD) rfl rfl hl.1 rfl (lv_room (Nat.le_of_ble_eq_true rfl)) d_X_step_100 ⟨Nat.zero_le _, Nat.zero_le _⟩) hD hS hA (fun H locs hP hD hS => ?_)
          obtain ⟨g21, h⟩ := hx_gs h
          refine va_iast hx hb hK hP hD hS (7 + 2 * 1) 1 (hx_at_RP (by decide)) rfl g21 d_X_step_103 (fun H locs hP hD hS => ?_)
          obtain ⟨σ22, eσ22⟩ : ∃ y : hx_S, y = (hx_pat_s q19 1 x9.toNatClampNeg r20) := ⟨_, rfl⟩
          replace hP : va_P D vwCl (hx_W T3 ad σ22) H := by rw [eσ22, hx_w_pat (by decide)]; exact hP
          replace hD : va_D A (hx_W T3 ad σ22) := by rw [eσ22, hx_w_pat (by decide)]; exact hD
          replace h := hx_ns eσ22 h
          clear eσ22
          obtain ⟨x23, ex23⟩ : ∃ y : Int32, y = x9 + 1 := ⟨_, rfl⟩
          replace h := hx_ns ex23 h
          refine lv_iinc (v := x23) (lv' := [(3, .int x23), (0, .ref (ad 0)), (1, .int x7), (2, .int x8)]) hx hb d_X_step_104 hl (k := 3) rfl (by rw [ex23]; rfl) (by decide) rfl (fun ls hl => ?_)
          clear ex23
          refine lv_goto (tgt := 67) hx hb d_X_step_107 (by decide) ?_
          exact ih σ22 x7 x8 x23 _ _ ls hP hD hS (lv_sub hl [1, 2, 3, 0] rfl) h
  refine W.eq (g2 := F0 m 0 ((lg_sl [.ref (ad 0), .int x1] ++ List.replicate (4 - (lg_sl [.ref (ad 0), .int x1]).length) Slot.unset).toArray) []) (by rw [hargs, lg_entry_eq]) ?_
  have hl := lv_entry ([.ref (ad 0), .int x1]) (n := 4) (Nat.le_of_ble_eq_true rfl)
  generalize (lg_sl ([.ref (ad 0), .int x1]) ++ List.replicate (4 - (lg_sl ([.ref (ad 0), .int x1])).length) Slot.unset).toArray = ls at hl ⊢
  have hl : lv_has ls 4 [(0, .ref (ad 0)), (1, .int x1)] := hl
  rw [f_X_step] at h
  refine lv_aload_n hx hb d_X_step_0 rfl (lv_at hl 0 rfl) ?_
  refine lv_aload_n hx hb d_X_step_1 rfl (lv_at hl 0 rfl) ?_
  refine va_get (D := D) (ci := 0) (v := .ref (ad (6 + 2 * 1))) (C := "HalfFloats") (T := T_X) (N := 9) hx hb hts (hx_up in_X) hown hK hP (0) hx_at_X rfl 2 (by decide) (hts _ (hx_cons _ k_206)) (fun _ h9 => h9) rfl d_X_step_2 ?_
  refine va_get (D := D) (ci := 2) (v := .int (hx_format σ 1)) (C := "HalfFloats$Row") (T := T_R) (N := 3) hx hb hts (hx_up in_R) hown hK hP (6 + 2 * 1) (hx_at_R (by decide)) rfl 2 (by decide) (hts _ (hx_cons _ k_127)) (fun _ h9 => h9) rfl d_X_step_5 ?_
  refine lv_iload_n hx hb d_X_step_8 rfl (lv_at hl 1 rfl) ?_
  obtain ⟨r2, er2, h⟩ := hx_b1s h
  refine hx_rd (va_runV (As := [.int (hx_format σ 1), .int x1]) (rest := []) ⟨hx, hb, hml, hown, hts⟩ (c_X_isPattern l D T3 ad σ (hx_format σ 1) x1 _ er2) (cwV 2 hts (hx_gV hx_cons k_252 k_254 k_0 k_50 k_255) rfl rfl rfl (by decide +kernel) ⟨Nat.le_of_ble_eq_true rfl, Nat.le_of_ble_eq_true rfl⟩) (hx_preV (va_recv hK hP (ci := 0) (q0 := 0) rfl hx_at_X) hP hK) rfl rfl hl.1 rfl (lv_room (Nat.le_of_ble_eq_true rfl)) d_X_step_9 ⟨Nat.zero_le _, Nat.zero_le _⟩) ?_
  refine lv_if_ne (tgt := 18) hx hb d_X_step_12 (by decide) (fun c3 => ?_) (fun c3 => ?_)
  · replace h := hx_in c3 h
    refine lv_aload_n hx hb d_X_step_18 rfl (lv_at hl 0 rfl) ?_
    obtain ⟨r4, er4, h⟩ := hx_b1s h
    refine hx_rd (va_runV (As := []) (rest := []) ⟨hx, hb, hml, hown, hts⟩ (c_X_slopesBroke l D T3 ad σ _ er4) (cwV 0 hts (hx_gV hx_cons k_526 k_528 k_19 k_50 k_529) rfl rfl rfl (by decide +kernel) ⟨Nat.le_of_ble_eq_true rfl, Nat.le_of_ble_eq_true rfl⟩) (hx_preV (va_recv hK hP (ci := 0) (q0 := 0) rfl hx_at_X) hP hK) rfl rfl hl.1 rfl (lv_room (Nat.le_of_ble_eq_true rfl)) d_X_step_19 ⟨Nat.zero_le _, Nat.zero_le _⟩) ?_
    refine lv_if_eq (tgt := 47) hx hb d_X_step_22 (by decide) (fun c5 => ?_) (fun c5 => ?_)
    · replace h := hx_ip c5 h
      refine lv_aload_n hx hb d_X_step_47 rfl (lv_at hl 0 rfl) ?_
      refine va_get (D := D) (ci := 0) (v := .ref (ad (6 + 2 * 0))) (C := "HalfFloats") (T := T_X) (N := 9) hx hb hts (hx_up in_X) hown hK hP (0) hx_at_X rfl 1 (by decide) (hts _ (hx_cons _ k_205)) (fun _ h9 => h9) rfl d_X_step_48 ?_
      refine va_get (D := D) (ci := 2) (v := .int (hx_size σ 0)) (C := "HalfFloats$Row") (T := T_R) (N := 3) hx hb hts (hx_up in_R) hown hK hP (6 + 2 * 0) (hx_at_R (by decide)) rfl 1 (by decide) (hts _ (hx_cons _ k_125)) (fun _ h9 => h9) rfl d_X_step_51 ?_
      refine lv_aload_n hx hb d_X_step_54 rfl (lv_at hl 0 rfl) ?_
      refine va_get (D := D) (ci := 0) (v := .ref (ad (6 + 2 * 1))) (C := "HalfFloats") (T := T_X) (N := 9) hx hb hts (hx_up in_X) hown hK hP (0) hx_at_X rfl 2 (by decide) (hts _ (hx_cons _ k_206)) (fun _ h9 => h9) rfl d_X_step_55 ?_
      refine va_get (D := D) (ci := 2) (v := .int (hx_size σ 1)) (C := "HalfFloats$Row") (T := T_R) (N := 3) hx hb hts (hx_up in_R) hown hK hP (6 + 2 * 1) (hx_at_R (by decide)) rfl 1 (by decide) (hts _ (hx_cons _ k_125)) (fun _ h9 => h9) rfl d_X_step_58 ?_
      refine va_mmin hx hb (hml.trans hl.1.symm) hown (hts _ (hx_cons _ k_486)) (hts _ (hx_cons _ k_487)) (hts _ (hx_cons _ k_56)) (hts _ (hx_cons _ k_488)) (Nat.le_of_ble_eq_true rfl) (Nat.le_of_ble_eq_true rfl) (Nat.zero_le _) (Nat.zero_le _) d_X_step_61 ?_
      refine lv_topi (fun x6 ex6 => ?_)
      replace h := hx_ns ex6 h
      clear ex6
      refine lv_istore_n (lv' := [(2, .int x6), (0, .ref (ad 0)), (1, .int x1)]) hx hb d_X_step_64 rfl hl (by decide) rfl (fun ls hl => ?_)
      refine lv_iconst (v := 0) hx hb d_X_step_65 (by decide) ?_
      refine lv_istore_n (lv' := [(3, .int (0 : Int32)), (2, .int x6), (0, .ref (ad 0)), (1, .int x1)]) hx hb d_X_step_66 rfl hl (by decide) rfl (fun ls hl => ?_)
      exact B_67 hx_fuel σ x1 x6 (0 : Int32) _ _ ls hP hD hS (lv_sub hl [2, 3, 1, 0] rfl) h
    · replace h := hx_in c5 h
      refine lv_aload_n hx hb d_X_step_25 rfl (lv_at hl 0 rfl) ?_
      refine lv_aload_n hx hb d_X_step_26 rfl (lv_at hl 0 rfl) ?_
      refine va_get (D := D) (ci := 0) (v := .int (hx_shift σ)) (C := "HalfFloats") (T := T_X) (N := 9) hx hb hts (hx_up in_X) hown hK hP (0) hx_at_X rfl 6 (by decide) (hts _ (hx_cons _ k_210)) (fun _ h9 => h9) rfl d_X_step_27 ?_
      refine lv_iconst (v := 1) hx hb d_X_step_30 (by decide) ?_
      refine lv_isub hx hb d_X_step_31 ?_
      refine lv_bipush (v := -60) hx hb d_X_step_32 (by decide) ?_
      refine va_mmax hx hb (hml.trans hl.1.symm) hown (hts _ (hx_cons _ k_506)) (hts _ (hx_cons _ k_282)) (hts _ (hx_cons _ k_56)) (hts _ (hx_cons _ k_283)) (Nat.le_of_ble_eq_true rfl) (Nat.le_of_ble_eq_true rfl) (Nat.zero_le _) (Nat.zero_le _) d_X_step_34 ?_
      refine lv_topi (fun x24 ex24 => ?_)
      replace h := hx_ns ex24 h
      clear ex24
      refine va_put (D := D) (ci := 0) (v := .int x24) (ty := .int) (C := "HalfFloats") (T := T_X) (N := 9) hx hb hts (hx_up in_X) ty_X tyok_X nm_X hown hK hP hD hS (0) hx_at_X rfl 6 (by decide) (hts _ (hx_cons _ k_210)) (fun _ h9 => h9) rfl (by decide +kernel) rfl rfl (Nat.le_of_ble_eq_true rfl) d_X_step_37 (fun H locs hP hD hS => ?_)
      obtain ⟨σ25, eσ25⟩ : ∃ y : hx_S, y = (hx_shift_s σ x24) := ⟨_, rfl⟩
      replace hP : va_P D vwCl (hx_W T3 ad σ25) H := by rw [eσ25]; exact hP
      replace hD : va_D A (hx_W T3 ad σ25) := by rw [eσ25]; exact hD
      replace h := hx_ns eσ25 h
      clear eσ25
      refine lv_aload_n hx hb d_X_step_40 rfl (lv_at hl 0 rfl) ?_
      refine lv_iconst (v := 0) hx hb d_X_step_41 (by decide) ?_
      refine va_put (D := D) (ci := 0) (v := .int (0 : Int32)) (ty := .int) (C := "HalfFloats") (T := T_X) (N := 9) hx hb hts (hx_up in_X) ty_X tyok_X nm_X hown hK hP hD hS (0) hx_at_X rfl 7 (by decide) (hts _ (hx_cons _ k_211)) (fun _ h9 => h9) rfl (by decide +kernel) rfl rfl (Nat.le_of_ble_eq_true rfl) d_X_step_42 (fun H locs hP hD hS => ?_)
      obtain ⟨σ26, eσ26⟩ : ∃ y : hx_S, y = (hx_streak_s σ25 (0 : Int32)) := ⟨_, rfl⟩
      replace hP : va_P D vwCl (hx_W T3 ad σ26) H := by rw [eσ26]; exact hP
      replace hD : va_D A (hx_W T3 ad σ26) := by rw [eσ26]; exact hD
      replace h := hx_ns eσ26 h
      clear eσ26
      refine lv_iconst (v := 0) hx hb d_X_step_45 (by decide) ?_
      exact W.iret hx hb hr (fun t ht hW => hx_endi h ht hW hP hK hD hS) hS.2.2 d_X_step_46
  · replace h := hx_ip c3 h
    refine lv_bipush (v := -2) hx hb d_X_step_15 (by decide) ?_
    exact W.iret hx hb hr (fun t ht hW => hx_endi h ht hW hP hK hD hS) hS.2.2 d_X_step_17
abbrev m_X_comesBack : Room := { frames := 4, cells := 0, slots := 0, locals := 111 }
set_option maxHeartbeats 4000000 in
set_option maxRecDepth 100000 in
theorem c_X_comesBack (l : Launch) (D : va_G) (T3 : hx_T3) (ad : Nat → Nat) (sz : Nat) (σ : hx_S) (k1 : Nat) (x2 : Int32) (k3 : Nat) (x4 : Int32) (hk1 : k1 < 4) (hk3 : k3 < 4) (r0 : Int32) (σ0 : hx_S) (h : f_X_comesBack σ k1 x2 k3 x4 = some (r0, σ0)) : hx_Wi l D (hx_ty T3) y_X_comesBack w_X_comesBack m_X_comesBack [.ref (ad 0), .ref (ad (2 + k1)), .int x2, .ref (ad (2 + k3)), .int x4] sz (hx_W T3 ad σ) r0 (hx_W T3 ad σ0) := by
  refine Met.ofW (cc := b_X_comesBack) (maxL := 5) (ret := (some .boolean)) (by decide) rfl ?_
  intro p e s m args below meth c s₁ B hml hv
  obtain ⟨hargs, hsz, hP, hK, hD0⟩ := hv
  have hx := B.exec
  have hb := B.bytes
  have hr := B.returns
  have hts := atoms_spec (ws := w_X_comesBack) B.pre
  have hown : s.vm.findClass "HalfFloats" = some m.cls := findClass_of_methodNamed B.named
  have hlocks := B.notSynchronized
  subst hsz
  have hD := hD0.self (sz := s.heap.size)
  generalize hAe : va_A (hx_W T3 ad σ) s.heap.size = A at hD ⊢
  have hA : ∀ q : Nat, s.heap.size ≤ q → A q := fun q h => by rw [← hAe]; exact Or.inr h
  have hS : va_S A s.heap s.heap [] := va_S.rf
  refine W.eq (g2 := F0 m 0 ((lg_sl [.ref (ad 0), .ref (ad (2 + k1)), .int x2, .ref (ad (2 + k3)), .int x4] ++ List.replicate (5 - (lg_sl [.ref (ad 0), .ref (ad (2 + k1)), .int x2, .ref (ad (2 + k3)), .int x4]).length) Slot.unset).toArray) []) (by rw [hargs, lg_entry_eq]) ?_
  have hl := lv_entry ([.ref (ad 0), .ref (ad (2 + k1)), .int x2, .ref (ad (2 + k3)), .int x4]) (n := 5) (Nat.le_of_ble_eq_true rfl)
  generalize (lg_sl ([.ref (ad 0), .ref (ad (2 + k1)), .int x2, .ref (ad (2 + k3)), .int x4]) ++ List.replicate (5 - (lg_sl ([.ref (ad 0), .ref (ad (2 + k1)), .int x2, .ref (ad (2 + k3)), .int x4])).length) Slot.unset).toArray = ls at hl ⊢
  have hl : lv_has ls 5 [(0, .ref (ad 0)), (1, .ref (ad (2 + k1))), (2, .int x2), (3, .ref (ad (2 + k3))), (4, .int x4)] := hl
  rw [f_X_comesBack] at h
  refine lv_aload_n hx hb d_X_comesBack_0 rfl (lv_at hl 1 rfl) ?_
  refine lv_iload_n hx hb d_X_comesBack_1 rfl (lv_at hl 2 rfl) ?_
  obtain ⟨r5, er5, h⟩ := hx_b1s h
  refine hx_rd (va_runV (As := [.int x2]) (rest := []) ⟨hx, hb, hml, hown, hts⟩ (c_F_sortOf l D T3 (ad (2 + k1)) (hx_fm σ k1) x2 _ er5) (cwV 1 hts (hx_gV hx_cons k_261 k_262 k_263 k_51 k_264) rfl rfl rfl (by decide +kernel) ⟨Nat.le_of_ble_eq_true rfl, Nat.le_of_ble_eq_true rfl⟩) (hx_preV (va_recv hK hP (ci := 1) (q0 := 2 + k1) rfl (hx_at_F hk1)) (hx_one hP (hx_at_F hk1)) hK) rfl rfl hl.1 rfl (lv_room (Nat.le_of_ble_eq_true rfl)) d_X_comesBack_2 ⟨Nat.zero_le _, Nat.zero_le _⟩) ?_
  refine lv_iconst (v := 4) hx hb d_X_comesBack_5 (by decide) ?_
  refine lv_icmp_ne (tgt := 11) hx hb d_X_comesBack_6 (by decide) (fun c6 => ?_) (fun c6 => ?_)
  · replace h := hx_in c6 h
    refine lv_aload_n hx hb d_X_comesBack_11 rfl (lv_at hl 0 rfl) ?_
    refine va_get (D := D) (ci := 0) (v := .ref (ad 12)) (C := "HalfFloats") (T := T_X) (N := 9) hx hb hts (hx_up in_X) hown hK hP (0) hx_at_X rfl 4 (by decide) (hts _ (hx_cons _ k_208)) (fun _ h9 => h9) rfl d_X_comesBack_12 ?_
    refine lv_aload_n hx hb d_X_comesBack_15 rfl (lv_at hl 3 rfl) ?_
    refine lv_aload_n hx hb d_X_comesBack_16 rfl (lv_at hl 0 rfl) ?_
    refine va_get (D := D) (ci := 0) (v := .ref (ad 12)) (C := "HalfFloats") (T := T_X) (N := 9) hx hb hts (hx_up in_X) hown hK hP (0) hx_at_X rfl 4 (by decide) (hts _ (hx_cons _ k_208)) (fun _ h9 => h9) rfl d_X_comesBack_17 ?_
    refine lv_aload_n hx hb d_X_comesBack_20 rfl (lv_at hl 1 rfl) ?_
    refine lv_iload_n hx hb d_X_comesBack_21 rfl (lv_at hl 2 rfl) ?_
    refine lv_iconst (v := 0) hx hb d_X_comesBack_22 (by decide) ?_
    refine lv_aload_n hx hb d_X_comesBack_23 rfl (lv_at hl 3 rfl) ?_
    refine lv_iload hx hb d_X_comesBack_24 (lv_at hl 4 rfl) ?_
    obtain ⟨r8, q7, eq7, h⟩ := hx_b2s h
    refine hx_wi (va_runV (As := [.ref (ad (2 + k1)), .int x2, .int (0 : Int32), .ref (ad (2 + k3)), .int x4]) (rest := [.ref (ad (2 + k3)), .ref (ad 12)]) ⟨hx, hb, hml, hown, hts⟩ (c_D_turned l D T3 ad _ σ k1 x2 (0 : Int32) k3 x4 hk1 hk3 _ _ eq7) (cwV 5 hts (hx_gV hx_cons k_292 k_293 k_294 k_54 k_295) rfl rfl rfl (by decide +kernel) ⟨Nat.le_of_ble_eq_true rfl, Nat.le_of_ble_eq_true rfl⟩) (hx_preVw (va_recv hK hP (ci := 4) (q0 := 12) rfl hx_at_D) hP hK hD) rfl rfl hl.1 rfl (lv_room (Nat.le_of_ble_eq_true rfl)) d_X_comesBack_26 ⟨Nat.zero_le _, Nat.zero_le _⟩) hD hS hA (fun H locs hP hD hS => ?_)
    refine lv_iconst (v := 0) hx hb d_X_comesBack_29 (by decide) ?_
    refine lv_aload_n hx hb d_X_comesBack_30 rfl (lv_at hl 1 rfl) ?_
    refine lv_iload hx hb d_X_comesBack_31 (lv_at hl 4 rfl) ?_
    obtain ⟨r10, q9, eq9, h⟩ := hx_b2s h
    refine hx_wi (va_runV (As := [.ref (ad (2 + k3)), .int r8, .int (0 : Int32), .ref (ad (2 + k1)), .int x4]) (rest := []) ⟨hx, hb, hml, hown, hts⟩ (c_D_turned l D T3 ad _ q7 k3 r8 (0 : Int32) k1 x4 hk3 hk1 _ _ eq9) (cwV 5 hts (hx_gV hx_cons k_292 k_293 k_294 k_54 k_295) rfl rfl rfl (by decide +kernel) ⟨Nat.le_of_ble_eq_true rfl, Nat.le_of_ble_eq_true rfl⟩) (hx_preVw (va_recv hK hP (ci := 4) (q0 := 12) rfl hx_at_D) hP hK hD) rfl rfl hl.1 rfl (lv_room (Nat.le_of_ble_eq_true rfl)) d_X_comesBack_33 ⟨Nat.zero_le _, Nat.zero_le _⟩) hD hS hA (fun H locs hP hD hS => ?_)
    refine lv_iload_n hx hb d_X_comesBack_36 rfl (lv_at hl 2 rfl) ?_
    refine lv_icmp_ne (tgt := 44) hx hb d_X_comesBack_37 (by decide) (fun c11 => ?_) (fun c11 => ?_)
    · replace h := hx_in c11 h
      refine lv_iconst (v := 0) hx hb d_X_comesBack_44 (by decide) ?_
      exact W.zret hx hb hr (hx_nb (Or.inl rfl)) (fun t ht hW => hx_endi h ht hW hP hK hD hS) hS.2.2 d_X_comesBack_45
    · replace h := hx_ip c11 h
      refine lv_iconst (v := 1) hx hb d_X_comesBack_40 (by decide) ?_
      refine lv_goto (tgt := 45) hx hb d_X_comesBack_41 (by decide) ?_
      exact W.zret hx hb hr (hx_nb (Or.inr rfl)) (fun t ht hW => hx_endi h ht hW hP hK hD hS) hS.2.2 d_X_comesBack_45
  · replace h := hx_ip c6 h
    refine lv_iconst (v := 0) hx hb d_X_comesBack_9 (by decide) ?_
    exact W.zret hx hb hr (hx_nb (Or.inl rfl)) (fun t ht hW => hx_endi h ht hW hP hK hD hS) hS.2.2 d_X_comesBack_10
abbrev m_X_kept : Room := { frames := 5, cells := 0, slots := 0, locals := 135 }
set_option maxHeartbeats 4000000 in
set_option maxRecDepth 100000 in
theorem c_X_kept (l : Launch) (D : va_G) (T3 : hx_T3) (ad : Nat → Nat) (sz : Nat) (σ : hx_S) (x1 : Int32) (x2 : Int32) (x3 : Int32) (r0 : Int32) (σ0 : hx_S) (h : f_X_kept σ x1 x2 x3 = some (r0, σ0)) : hx_Wi l D (hx_ty T3) y_X_kept w_X_kept m_X_kept [.ref (ad 0), .int x1, .int x2, .int x3] sz (hx_W T3 ad σ) r0 (hx_W T3 ad σ0) := by
  refine Met.ofW (cc := b_X_kept) (maxL := 8) (ret := (some .int)) (by decide) rfl ?_
  intro p e s m args below meth c s₁ B hml hv
  obtain ⟨hargs, hsz, hP, hK, hD0⟩ := hv
  have hx := B.exec
  have hb := B.bytes
  have hr := B.returns
  have hts := atoms_spec (ws := w_X_kept) B.pre
  have hown : s.vm.findClass "HalfFloats" = some m.cls := findClass_of_methodNamed B.named
  have hlocks := B.notSynchronized
  subst hsz
  have hD := hD0.self (sz := s.heap.size)
  generalize hAe : va_A (hx_W T3 ad σ) s.heap.size = A at hD ⊢
  have hA : ∀ q : Nat, s.heap.size ≤ q → A q := fun q h => by rw [← hAe]; exact Or.inr h
  have hS : va_S A s.heap s.heap [] := va_S.rf
  have B_103 : ∀ (K71 : hx_S → Int32 → Int32 → Int32 → Int32 → Int32 → Int32 → Int32 → Option (Int32 × hx_S)) (hK71 : ∀ (σ : hx_S) (x15 : Int32) (x16 : Int32) (x17 : Int32) (x18 : Int32) (x19 : Int32) (x20 : Int32) (x21 : Int32) (H : Heap) (locs : List Loc) (ls : Array Slot), va_P D vwCl (hx_W T3 ad σ) H → va_D A (hx_W T3 ad σ) → va_S A s.heap H locs → lv_has ls 8 [(0, .ref (ad 0)), (1, .int x15), (2, .int x16), (3, .int x17), (4, .int x18), (5, .int x19), (6, .int x20), (7, .int x21)] → K71 σ x15 x16 x17 x18 x19 x20 x21 = some (r0, σ0) → W p l e (headSpec w_X_kept m_X_kept).room s m args below meth c H locs 0 0 (MQ below (hx_Qi D (hx_ty T3) A r0 (hx_W T3 ad σ0)) args s 0 0 A) (F0 m 71 ls [])), ∀ (σ : hx_S) (x29 : Int32) (x30 : Int32) (x31 : Int32) (x32 : Int32) (x33 : Int32) (x34 : Int32) (x35 : Int32) (H : Heap) (locs : List Loc) (ls : Array Slot), va_P D vwCl (hx_W T3 ad σ) H → va_D A (hx_W T3 ad σ) → va_S A s.heap H locs → lv_has ls 8 [(0, .ref (ad 0)), (1, .int x29), (2, .int x30), (3, .int x31), (4, .int x32), (5, .int x33), (6, .int x34), (7, .int x35)] → f_X_kept_103 K71 σ x29 x30 x31 x32 x33 x34 x35 = some (r0, σ0) → W p l e (headSpec w_X_kept m_X_kept).room s m args below meth c H locs 0 0 (MQ below (hx_Qi D (hx_ty T3) A r0 (hx_W T3 ad σ0)) args s 0 0 A) (F0 m 103 ls []) := by
      intro K71 hK71
      intro σ x29 x30 x31 x32 x33 x34 x35 H locs ls hP hD hS hl h
      rw [f_X_kept_103] at h
      obtain ⟨x36, ex36⟩ : ∃ y : Int32, y = x35 + 1 := ⟨_, rfl⟩
      replace h := hx_ns ex36 h
      refine lv_iinc (v := x36) (lv' := [(7, .int x36), (0, .ref (ad 0)), (1, .int x29), (2, .int x30), (3, .int x31), (4, .int x32), (5, .int x33), (6, .int x34)]) hx hb d_X_kept_103 hl (k := 7) rfl (by rw [ex36]; rfl) (by decide) rfl (fun ls hl => ?_)
      clear ex36
      refine lv_goto (tgt := 71) hx hb d_X_kept_106 (by decide) ?_
      exact hK71 σ x29 x30 x31 x32 x33 x34 x36 _ _ ls hP hD hS (lv_sub hl [1, 2, 3, 4, 5, 6, 7, 0] rfl) h
  have B_71 : ∀ (n : Nat), ∀ (σ : hx_S) (x15 : Int32) (x16 : Int32) (x17 : Int32) (x18 : Int32) (x19 : Int32) (x20 : Int32) (x21 : Int32) (H : Heap) (locs : List Loc) (ls : Array Slot), va_P D vwCl (hx_W T3 ad σ) H → va_D A (hx_W T3 ad σ) → va_S A s.heap H locs → lv_has ls 8 [(0, .ref (ad 0)), (1, .int x15), (2, .int x16), (3, .int x17), (4, .int x18), (5, .int x19), (6, .int x20), (7, .int x21)] → f_X_kept_71 n σ x15 x16 x17 x18 x19 x20 x21 = some (r0, σ0) → W p l e (headSpec w_X_kept m_X_kept).room s m args below meth c H locs 0 0 (MQ below (hx_Qi D (hx_ty T3) A r0 (hx_W T3 ad σ0)) args s 0 0 A) (F0 m 71 ls []) := by
    intro n
    induction n with
    | zero =>
      intro σ x15 x16 x17 x18 x19 x20 x21 H locs ls hP hD hS hl h
      rw [f_X_kept_71] at h
      cases h
    | succ n ih =>
        intro σ x15 x16 x17 x18 x19 x20 x21 H locs ls hP hD hS hl h
        rw [f_X_kept_71] at h
        refine lv_iload hx hb d_X_kept_71 (lv_at hl 7 rfl) ?_
        refine lv_iload hx hb d_X_kept_73 (lv_at hl 5 rfl) ?_
        refine lv_icmp_ge (tgt := 109) hx hb d_X_kept_75 (by decide) (fun c22 => ?_) (fun c22 => ?_)
        · replace h := hx_ip c22 h
          refine lv_aload_n hx hb d_X_kept_109 rfl (lv_at hl 0 rfl) ?_
          refine va_get (D := D) (ci := 0) (v := .ref (ad 12)) (C := "HalfFloats") (T := T_X) (N := 9) hx hb hts (hx_up in_X) hown hK hP (0) hx_at_X rfl 4 (by decide) (hts _ (hx_cons _ k_208)) (fun _ h9 => h9) rfl d_X_kept_110 ?_
          refine lv_iload hx hb d_X_kept_113 (lv_at hl 4 rfl) ?_
          refine va_put (D := D) (ci := 4) (v := .int x18) (ty := .int) (C := "HalfFloats$Rounder") (T := T_D) (N := 2) hx hb hts (hx_up in_D) ty_D tyok_D nm_D hown hK hP hD hS (12) hx_at_D rfl 0 (by decide) (hts _ (hx_cons _ k_196)) (fun _ h9 => h9) rfl (by decide +kernel) rfl rfl (Nat.le_of_ble_eq_true rfl) d_X_kept_115 (fun H locs hP hD hS => ?_)
          obtain ⟨σ23, eσ23⟩ : ∃ y : hx_S, y = (hx_rd_raised_s σ x18) := ⟨_, rfl⟩
          replace hP : va_P D vwCl (hx_W T3 ad σ23) H := by rw [eσ23]; exact hP
          replace hD : va_D A (hx_W T3 ad σ23) := by rw [eσ23]; exact hD
          replace h := hx_ns eσ23 h
          clear eσ23
          refine lv_iload hx hb d_X_kept_118 (lv_at hl 6 rfl) ?_
          exact W.iret hx hb hr (fun t ht hW => hx_endi h ht hW hP hK hD hS) hS.2.2 d_X_kept_120
        · replace h := hx_in c22 h
          refine lv_aload_n hx hb d_X_kept_78 rfl (lv_at hl 0 rfl) ?_
          refine lv_aload_n hx hb d_X_kept_79 rfl (lv_at hl 0 rfl) ?_
          refine va_get (D := D) (ci := 0) (v := .ref (ad 1)) (C := "HalfFloats") (T := T_X) (N := 9) hx hb hts (hx_up in_X) hown hK hP (0) hx_at_X rfl 0 (by decide) (hts _ (hx_cons _ k_204)) (fun _ h9 => h9) rfl d_X_kept_80 ?_
          refine lv_iload_n hx hb d_X_kept_83 rfl (lv_at hl 1 rfl) ?_
          obtain ⟨g24, h⟩ := hx_gs h
          refine va_aldq hx hb hK hP (1) 0 hx_at_FA rfl g24 d_X_kept_84 ?_
          refine lv_iload hx hb d_X_kept_85 (lv_at hl 7 rfl) ?_
          refine lv_aload_n hx hb d_X_kept_87 rfl (lv_at hl 0 rfl) ?_
          refine va_get (D := D) (ci := 0) (v := .ref (ad 1)) (C := "HalfFloats") (T := T_X) (N := 9) hx hb hts (hx_up in_X) hown hK hP (0) hx_at_X rfl 0 (by decide) (hts _ (hx_cons _ k_204)) (fun _ h9 => h9) rfl d_X_kept_88 ?_
          refine lv_iload_n hx hb d_X_kept_91 rfl (lv_at hl 2 rfl) ?_
          obtain ⟨g25, h⟩ := hx_gs h
          refine va_aldq hx hb hK hP (1) 0 hx_at_FA rfl g25 d_X_kept_92 ?_
          refine lv_iload_n hx hb d_X_kept_93 rfl (lv_at hl 3 rfl) ?_
          obtain ⟨r27, q26, eq26, h⟩ := hx_b2s h
          refine hx_wi (va_runV (As := [.ref (ad (2 + x15.toNatClampNeg)), .int x21, .ref (ad (2 + x16.toNatClampNeg)), .int x17]) (rest := []) ⟨hx, hb, hml, hown, hts⟩ (c_X_comesBack l D T3 ad _ σ x15.toNatClampNeg x21 x16.toNatClampNeg x17 (hx_lt g24) (hx_lt g25) _ _ eq26) (cwV 4 hts (hx_gV hx_cons k_542 k_544 k_21 k_50 k_545) rfl rfl rfl (by decide +kernel) ⟨Nat.le_of_ble_eq_true rfl, Nat.le_of_ble_eq_true rfl⟩) (hx_preVw (va_recv hK hP (ci := 0) (q0 := 0) rfl hx_at_X) hP hK hD) rfl rfl hl.1 rfl (lv_room (Nat.le_of_ble_eq_true rfl)) d_X_kept_94 ⟨Nat.zero_le _, Nat.zero_le _⟩) hD hS hA (fun H locs hP hD hS => ?_)
          refine lv_if_eq (tgt := 103) hx hb d_X_kept_97 (by decide) (fun c28 => ?_) (fun c28 => ?_)
          · replace h := hx_ip c28 h
            exact B_103 (f_X_kept_71 n) ih q26 x15 x16 x17 x18 x19 x20 x21 _ _ ls hP hD hS (lv_sub hl [0, 1, 2, 3, 4, 5, 6, 7] rfl) h
          · replace h := hx_in c28 h
            obtain ⟨x37, ex37⟩ : ∃ y : Int32, y = x20 + 1 := ⟨_, rfl⟩
            replace h := hx_ns ex37 h
            refine lv_iinc (v := x37) (lv' := [(6, .int x37), (0, .ref (ad 0)), (1, .int x15), (2, .int x16), (3, .int x17), (4, .int x18), (5, .int x19), (7, .int x21)]) hx hb d_X_kept_100 hl (k := 6) rfl (by rw [ex37]; rfl) (by decide) rfl (fun ls hl => ?_)
            clear ex37
            exact B_103 (f_X_kept_71 n) ih q26 x15 x16 x17 x18 x19 x37 x21 _ _ ls hP hD hS (lv_sub hl [1, 2, 3, 4, 5, 6, 0, 7] rfl) h
  refine W.eq (g2 := F0 m 0 ((lg_sl [.ref (ad 0), .int x1, .int x2, .int x3] ++ List.replicate (8 - (lg_sl [.ref (ad 0), .int x1, .int x2, .int x3]).length) Slot.unset).toArray) []) (by rw [hargs, lg_entry_eq]) ?_
  have hl := lv_entry ([.ref (ad 0), .int x1, .int x2, .int x3]) (n := 8) (Nat.le_of_ble_eq_true rfl)
  generalize (lg_sl ([.ref (ad 0), .int x1, .int x2, .int x3]) ++ List.replicate (8 - (lg_sl ([.ref (ad 0), .int x1, .int x2, .int x3])).length) Slot.unset).toArray = ls at hl ⊢
  have hl : lv_has ls 8 [(0, .ref (ad 0)), (1, .int x1), (2, .int x2), (3, .int x3)] := hl
  rw [f_X_kept] at h
  refine lv_iload_n hx hb d_X_kept_0 rfl (lv_at hl 1 rfl) ?_
  obtain ⟨r4, er4, h⟩ := hx_b1s h
  refine hx_rd (va_runS (As := [.int x1]) (rest := []) ⟨hx, hb, hml, hown, hts⟩ (c_X_isFormat l D T3 x1 _ er4) (va_cwS 1 hts (hx_gS hx_cons k_236 k_237 k_50 k_238) rfl rfl rfl (by decide +kernel) ⟨Nat.le_of_ble_eq_true rfl, Nat.le_of_ble_eq_true rfl⟩) (hx_preS hx_nil hK) rfl rfl hl.1 rfl (lv_room (Nat.le_of_ble_eq_true rfl)) d_X_kept_1 ⟨Nat.zero_le _, Nat.zero_le _⟩) ?_
  refine lv_if_eq (tgt := 23) hx hb d_X_kept_4 (by decide) (fun c5 => ?_) (fun c5 => ?_)
  · replace h := hx_ip c5 h
    refine lv_bipush (v := -2) hx hb d_X_kept_23 (by decide) ?_
    exact W.iret hx hb hr (fun t ht hW => hx_endi h ht hW hP hK hD hS) hS.2.2 d_X_kept_25
  · replace h := hx_in c5 h
    refine lv_iload_n hx hb d_X_kept_7 rfl (lv_at hl 2 rfl) ?_
    obtain ⟨r6, er6, h⟩ := hx_b1s h
    refine hx_rd (va_runS (As := [.int x2]) (rest := []) ⟨hx, hb, hml, hown, hts⟩ (c_X_isFormat l D T3 x2 _ er6) (va_cwS 1 hts (hx_gS hx_cons k_236 k_237 k_50 k_238) rfl rfl rfl (by decide +kernel) ⟨Nat.le_of_ble_eq_true rfl, Nat.le_of_ble_eq_true rfl⟩) (hx_preS hx_nil hK) rfl rfl hl.1 rfl (lv_room (Nat.le_of_ble_eq_true rfl)) d_X_kept_8 ⟨Nat.zero_le _, Nat.zero_le _⟩) ?_
    refine lv_if_eq (tgt := 23) hx hb d_X_kept_11 (by decide) (fun c7 => ?_) (fun c7 => ?_)
    · replace h := hx_ip c7 h
      refine lv_bipush (v := -2) hx hb d_X_kept_23 (by decide) ?_
      exact W.iret hx hb hr (fun t ht hW => hx_endi h ht hW hP hK hD hS) hS.2.2 d_X_kept_25
    · replace h := hx_in c7 h
      refine lv_iload_n hx hb d_X_kept_14 rfl (lv_at hl 3 rfl) ?_
      refine lv_if_lt (tgt := 23) hx hb d_X_kept_15 (by decide) (fun c8 => ?_) (fun c8 => ?_)
      · replace h := hx_ip c8 h
        refine lv_bipush (v := -2) hx hb d_X_kept_23 (by decide) ?_
        exact W.iret hx hb hr (fun t ht hW => hx_endi h ht hW hP hK hD hS) hS.2.2 d_X_kept_25
      · replace h := hx_in c8 h
        refine lv_iload_n hx hb d_X_kept_18 rfl (lv_at hl 3 rfl) ?_
        refine lv_iconst (v := 5) hx hb d_X_kept_19 (by decide) ?_
        refine lv_icmp_lt (tgt := 26) hx hb d_X_kept_20 (by decide) (fun c9 => ?_) (fun c9 => ?_)
        · replace h := hx_ip c9 h
          refine lv_aload_n hx hb d_X_kept_26 rfl (lv_at hl 0 rfl) ?_
          refine va_get (D := D) (ci := 0) (v := .ref (ad 1)) (C := "HalfFloats") (T := T_X) (N := 9) hx hb hts (hx_up in_X) hown hK hP (0) hx_at_X rfl 0 (by decide) (hts _ (hx_cons _ k_204)) (fun _ h9 => h9) rfl d_X_kept_27 ?_
          refine lv_iload_n hx hb d_X_kept_30 rfl (lv_at hl 1 rfl) ?_
          obtain ⟨g10, h⟩ := hx_gs h
          refine va_aldq hx hb hK hP (1) 0 hx_at_FA rfl g10 d_X_kept_31 ?_
          refine va_get (D := D) (ci := 1) (v := .int (hx_fm_width (hx_fm σ x1.toNatClampNeg))) (C := "HalfFloats$Format") (T := T_F) (N := 8) hx hb hts (hx_up in_F) hown hK hP (2 + x1.toNatClampNeg) (hx_at_F (hx_lt g10)) rfl 3 (by decide) (hts _ (hx_cons _ k_88)) (fun _ h9 => h9) rfl d_X_kept_32 ?_
          refine lv_bipush (v := 11) hx hb d_X_kept_35 (by decide) ?_
          refine lv_icmp_le (tgt := 43) hx hb d_X_kept_37 (by decide) (fun c11 => ?_) (fun c11 => ?_)
          · replace h := hx_ip c11 h
            refine lv_aload_n hx hb d_X_kept_43 rfl (lv_at hl 0 rfl) ?_
            refine va_get (D := D) (ci := 0) (v := .ref (ad 12)) (C := "HalfFloats") (T := T_X) (N := 9) hx hb hts (hx_up in_X) hown hK hP (0) hx_at_X rfl 4 (by decide) (hts _ (hx_cons _ k_208)) (fun _ h9 => h9) rfl d_X_kept_44 ?_
            refine va_get (D := D) (ci := 4) (v := .int (hx_rd_raised σ)) (C := "HalfFloats$Rounder") (T := T_D) (N := 2) hx hb hts (hx_up in_D) hown hK hP (12) hx_at_D rfl 0 (by decide) (hts _ (hx_cons _ k_196)) (fun _ h9 => h9) rfl d_X_kept_47 ?_
            refine lv_topi (fun x12 ex12 => ?_)
            replace h := hx_ns ex12 h
            clear ex12
            refine lv_istore (lv' := [(4, .int x12), (0, .ref (ad 0)), (1, .int x1), (2, .int x2), (3, .int x3)]) hx hb d_X_kept_50 hl (by decide) rfl (fun ls hl => ?_)
            refine lv_iconst (v := 2) hx hb d_X_kept_52 (by decide) ?_
            refine lv_aload_n hx hb d_X_kept_53 rfl (lv_at hl 1 rfl) ?_
            refine va_get (D := D) (ci := 0) (v := .ref (ad 1)) (C := "HalfFloats") (T := T_X) (N := 9) hx hb hts (hx_up in_X) hown hK hP (0) hx_at_X rfl 0 (by decide) (hts _ (hx_cons _ k_204)) (fun _ h9 => h9) rfl d_X_kept_54 ?_
            refine lv_iload_n hx hb d_X_kept_57 rfl (lv_at hl 2 rfl) ?_
            obtain ⟨g13, h⟩ := hx_gs h
            refine va_aldq hx hb hK hP (1) 0 hx_at_FA rfl g13 d_X_kept_58 ?_
            refine va_get (D := D) (ci := 1) (v := .int (hx_fm_width (hx_fm σ x1.toNatClampNeg))) (C := "HalfFloats$Format") (T := T_F) (N := 8) hx hb hts (hx_up in_F) hown hK hP (2 + x1.toNatClampNeg) (hx_at_F (hx_lt g13)) rfl 3 (by decide) (hts _ (hx_cons _ k_88)) (fun _ h9 => h9) rfl d_X_kept_59 ?_
            refine lv_ishl hx hb d_X_kept_62 ?_
            refine lv_topi (fun x14 ex14 => ?_)
            replace h := hx_ns ex14 h
            clear ex14
            refine lv_istore (lv' := [(5, .int x14), (4, .int x12), (0, .ref (ad 0)), (1, .int x1), (2, .int x2), (3, .int x3)]) hx hb d_X_kept_63 hl (by decide) rfl (fun ls hl => ?_)
            refine lv_iconst (v := 0) hx hb d_X_kept_65 (by decide) ?_
            refine lv_istore (lv' := [(6, .int (0 : Int32)), (5, .int x14), (4, .int x12), (0, .ref (ad 0)), (1, .int x1), (2, .int x2), (3, .int x3)]) hx hb d_X_kept_66 hl (by decide) rfl (fun ls hl => ?_)
            refine lv_iconst (v := 0) hx hb d_X_kept_68 (by decide) ?_
            refine lv_istore (lv' := [(7, .int (0 : Int32)), (6, .int (0 : Int32)), (5, .int x14), (4, .int x12), (0, .ref (ad 0)), (1, .int x1), (2, .int x2), (3, .int x3)]) hx hb d_X_kept_69 hl (by decide) rfl (fun ls hl => ?_)
            exact B_71 hx_fuel σ x1 x2 x3 x12 x14 (0 : Int32) (0 : Int32) _ _ ls hP hD hS (lv_sub hl [4, 5, 6, 7, 3, 2, 1, 0] rfl) h
          · replace h := hx_in c11 h
            refine lv_bipush (v := -2) hx hb d_X_kept_40 (by decide) ?_
            exact W.iret hx hb hr (fun t ht hW => hx_endi h ht hW hP hK hD hS) hS.2.2 d_X_kept_42
        · replace h := hx_in c9 h
          refine lv_bipush (v := -2) hx hb d_X_kept_23 (by decide) ?_
          exact W.iret hx hb hr (fun t ht hW => hx_endi h ht hW hP hK hD hS) hS.2.2 d_X_kept_25
