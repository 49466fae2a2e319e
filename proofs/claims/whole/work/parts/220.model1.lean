def f_M_set (τ : hm_S) (x1 : Int32) (x2 : Int32) (x3 : Int32) (x4 : Int32) : Option hm_S := (if x1 < 0 ∨ 4 ≤ x1.toNatClampNeg then none else hx_n (hm_fE_s τ x1.toNatClampNeg x2) (fun σ6 => (if x1 < 0 ∨ 4 ≤ x1.toNatClampNeg then none else hx_n (hm_fF_s σ6 x1.toNatClampNeg x3) (fun σ8 => (if x1 < 0 ∨ 4 ≤ x1.toNatClampNeg then none else hx_n (hm_fK_s σ8 x1.toNatClampNeg x4) (fun σ10 => some σ10))))))
def f_M_isIn (x1 : Int64) (x2 : Int64) (x3 : Int64) : Option Int32 := (if (lg_cmp x1 x2) < 0 then some (0 : Int32) else (if 0 < (lg_cmp x1 x3) then some (0 : Int32) else some (1 : Int32)))
def f_M_isFormat (x1 : Int32) : Option Int32 := hx_b1 (f_M_isIn x1.toInt64 (0 : Int64) (3 : Int64)) (fun r2 => (if r2 = 0 ∨ r2 = 1 then some r2 else none))
def f_M_isWay (x1 : Int32) : Option Int32 := hx_b1 (f_M_isIn x1.toInt64 (0 : Int64) (5 : Int64)) (fun r2 => (if r2 = 0 ∨ r2 = 1 then some r2 else none))
def f_M_format_87 (σ : hm_S) (x21 : Int32) (x22 : Int32) (x23 : Int32) (x24 : Int32) : Option (Int32 × hm_S) := hx_b1 (f_M_set σ x21 x22 x23 x24) (fun q25 => some ((1 : Int32), q25))
def f_M_format_65 (σ : hm_S) (x15 : Int32) (x16 : Int32) (x17 : Int32) (x18 : Int32) : Option (Int32 × hm_S) := (if (1 : Int32) < 0 ∨ 2 ≤ (1 : Int32).toNatClampNeg then none else (if (hm_rF σ (1 : Int32).toNatClampNeg) = x15 then (if (1 : Int32) < 0 ∨ 2 ≤ (1 : Int32).toNatClampNeg then none else (if (hm_rM σ (1 : Int32).toNatClampNeg) ≤ 0 then (f_M_format_87 σ x15 x16 x17 x18) else some ((-2 : Int32), σ))) else (f_M_format_87 σ x15 x16 x17 x18)))
def f_M_format (τ : hm_S) (x1 : Int32) (x2 : Int32) (x3 : Int32) (x4 : Int32) : Option (Int32 × hm_S) := hx_b1 (f_M_isFormat x1) (fun r5 => (if r5 = 0 then some ((-2 : Int32), τ) else hx_b1 (f_M_isIn x2.toInt64 (2 : Int64) (8 : Int64)) (fun r7 => (if r7 = 0 then some ((-2 : Int32), τ) else hx_b1 (f_M_isIn x3.toInt64 (1 : Int64) (23 : Int64)) (fun r9 => (if r9 = 0 then some ((-2 : Int32), τ) else hx_b1 (f_M_isIn x4.toInt64 (0 : Int64) (2 : Int64)) (fun r11 => (if r11 = 0 then some ((-2 : Int32), τ) else (if (0 : Int32) < 0 ∨ 2 ≤ (0 : Int32).toNatClampNeg then none else (if (hm_rF τ (0 : Int32).toNatClampNeg) = x1 then (if (0 : Int32) < 0 ∨ 2 ≤ (0 : Int32).toNatClampNeg then none else (if 0 < (hm_rM τ (0 : Int32).toNatClampNeg) then some ((-2 : Int32), τ) else (f_M_format_65 τ x1 x2 x3 x4))) else (f_M_format_65 τ x1 x2 x3 x4)))))))))))
def f_M_signBit (τ : hm_S) (x1 : Int32) : Option Int64 := (if x1 < 0 ∨ 4 ≤ x1.toNatClampNeg then none else (if x1 < 0 ∨ 4 ≤ x1.toNatClampNeg then none else some ((1 : Int64) <<< (((hm_fE τ x1.toNatClampNeg) + (hm_fF τ x1.toNatClampNeg)).toInt64 &&& 63))))
def f_M_bias (τ : hm_S) (x1 : Int32) : Option Int32 := (if x1 < 0 ∨ 4 ≤ x1.toNatClampNeg then none else some (((1 : Int32) <<< (((hm_fE τ x1.toNatClampNeg) - (1 : Int32)) &&& 31)) - (1 : Int32)))
def f_M_limit (τ : hm_S) (x1 : Int32) : Option Int64 := (if x1 < 0 ∨ 4 ≤ x1.toNatClampNeg then none else (if (hm_fK τ x1.toNatClampNeg) = 0 then (if x1 < 0 ∨ 4 ≤ x1.toNatClampNeg then none else (if x1 < 0 ∨ 4 ≤ x1.toNatClampNeg then none else some ((((1 : Int64) <<< ((hm_fE τ x1.toNatClampNeg).toInt64 &&& 63)) - (1 : Int64)) <<< ((hm_fF τ x1.toNatClampNeg).toInt64 &&& 63)))) else hx_b1 (f_M_signBit τ x1) (fun r4 => some (r4 - (1 : Int64)))))
def f_M_nan (τ : hm_S) (x1 : Int32) : Option Int64 := (if x1 < 0 ∨ 4 ≤ x1.toNatClampNeg then none else (if (hm_fK τ x1.toNatClampNeg) = 0 then hx_b1 (f_M_limit τ x1) (fun r5 => (if x1 < 0 ∨ 4 ≤ x1.toNatClampNeg then none else some (r5 ||| ((1 : Int64) <<< (((hm_fF τ x1.toNatClampNeg) - (1 : Int32)).toInt64 &&& 63))))) else hx_b1 (f_M_limit τ x1) (fun r4 => some r4)))
def f_M_form (τ : hm_S) (x1 : Int32) (x2 : Int32) : Option Int32 := hx_b1 (f_M_isFormat x1) (fun r3 => (if r3 = 0 then some (-2 : Int32) else hx_b1 (f_M_isIn x2.toInt64 (0 : Int64) (4 : Int64)) (fun r5 => (if r5 = 0 then some (-2 : Int32) else (if x2 = 0 then (if x1 < 0 ∨ 4 ≤ x1.toNatClampNeg then none else some (hm_fE τ x1.toNatClampNeg)) else (if x2 = 1 then (if x1 < 0 ∨ 4 ≤ x1.toNatClampNeg then none else some (hm_fF τ x1.toNatClampNeg)) else (if x2 = 2 then (if x1 < 0 ∨ 4 ≤ x1.toNatClampNeg then none else some (hm_fK τ x1.toNatClampNeg)) else (if x2 = 3 then hx_b1 (f_M_limit τ x1) (fun r14 => some ((r14 - (1 : Int64)).toInt32)) else hx_b1 (f_M_nan τ x1) (fun r15 => some r15.toInt32)))))))))
def f_M_pattern (τ : hm_S) (x1 : Int32) (x2 : Int32) : Option Int64 := hx_n (x2.toInt64 &&& (4294967295 : Int64)) (fun x3 => hx_b1 (f_M_signBit τ x1) (fun r4 => (if 0 ≤ (lg_cmp x3 ((2 : Int64) * r4)) then some (-1 : Int64) else some x3)))
def f_M_isPattern (τ : hm_S) (x1 : Int32) (x2 : Int32) : Option Int32 := hx_b1 (f_M_pattern τ x1 x2) (fun r3 => (if (lg_cmp r3 (-1 : Int64)) = 0 then some (0 : Int32) else some (1 : Int32)))
def f_M_sortOf (τ : hm_S) (x1 : Int32) (x2 : Int64) : Option Int32 := hx_b1 (f_M_signBit τ x1) (fun r3 => hx_n (x2 &&& (r3 - (1 : Int64))) (fun x4 => (if (lg_cmp x4 (0 : Int64)) = 0 then some (0 : Int32) else hx_b1 (f_M_limit τ x1) (fun r6 => (if (lg_cmp x4 r6) < 0 then (if x1 < 0 ∨ 4 ≤ x1.toNatClampNeg then none else (if (lg_cmp (x4 >>> ((hm_fF τ x1.toNatClampNeg).toInt64 &&& 63)) (0 : Int64)) = 0 then some (1 : Int32) else some (2 : Int32))) else (if x1 < 0 ∨ 4 ≤ x1.toNatClampNeg then none else (if (hm_fK τ x1.toNatClampNeg) = 0 then hx_b1 (f_M_limit τ x1) (fun r12 => (if (lg_cmp x4 r12) = 0 then some (3 : Int32) else some (4 : Int32))) else some (4 : Int32))))))))
def f_M_isBelow (τ : hm_S) (x1 : Int32) (x2 : Int64) : Option Int32 := hx_b1 (f_M_signBit τ x1) (fun r3 => (if (lg_cmp x2 r3) < 0 then some (0 : Int32) else some (1 : Int32)))
def f_M_wholeOf (τ : hm_S) (x1 : Int32) (x2 : Int64) : Option Int64 := hx_b1 (f_M_sortOf τ x1 x2) (fun r3 => (if x1 < 0 ∨ 4 ≤ x1.toNatClampNeg then none else hx_n (x2 &&& (((1 : Int64) <<< ((hm_fF τ x1.toNatClampNeg).toInt64 &&& 63)) - (1 : Int64))) (fun x5 => (if r3 = (1 : Int32) then some x5 else (if r3 = (2 : Int32) then (if x1 < 0 ∨ 4 ≤ x1.toNatClampNeg then none else some (x5 ||| ((1 : Int64) <<< ((hm_fF τ x1.toNatClampNeg).toInt64 &&& 63)))) else some (0 : Int64))))))
def f_M_powerOf (τ : hm_S) (x1 : Int32) (x2 : Int64) : Option Int32 := hx_b1 (f_M_sortOf τ x1 x2) (fun r3 => hx_b1 (f_M_signBit τ x1) (fun r4 => (if x1 < 0 ∨ 4 ≤ x1.toNatClampNeg then none else hx_n (((x2 &&& (r4 - (1 : Int64))) >>> ((hm_fF τ x1.toNatClampNeg).toInt64 &&& 63)).toInt32) (fun x6 => (if r3 = (1 : Int32) then hx_b1 (f_M_bias τ x1) (fun r11 => (if x1 < 0 ∨ 4 ≤ x1.toNatClampNeg then none else some (((1 : Int32) - r11) - (hm_fF τ x1.toNatClampNeg)))) else (if r3 = (2 : Int32) then hx_b1 (f_M_bias τ x1) (fun r9 => (if x1 < 0 ∨ 4 ≤ x1.toNatClampNeg then none else some ((x6 - r9) - (hm_fF τ x1.toNatClampNeg)))) else some (0 : Int32)))))))
def f_M_part (τ : hm_S) (x1 : Int32) (x2 : Int32) (x3 : Int32) : Option Int32 := hx_b1 (f_M_isFormat x1) (fun r4 => (if r4 = 0 then some (1000000 : Int32) else hx_b1 (f_M_isPattern τ x1 x2) (fun r6 => (if r6 = 0 then some (1000000 : Int32) else hx_b1 (f_M_isIn x3.toInt64 (0 : Int64) (3 : Int64)) (fun r8 => (if r8 = 0 then some (1000000 : Int32) else hx_b1 (f_M_pattern τ x1 x2) (fun r10 => (if x3 = 0 then hx_b1 (f_M_sortOf τ x1 r10) (fun r12 => some r12) else (if x3 = 1 then hx_b1 (f_M_isBelow τ x1 r10) (fun r14 => (if r14 = 0 then some (0 : Int32) else some (1 : Int32))) else (if x3 = 2 then hx_b1 (f_M_wholeOf τ x1 r10) (fun r17 => some r17.toInt32) else hx_b1 (f_M_powerOf τ x1 r10) (fun r18 => some r18)))))))))))
def f_M_begin_2 : Nat → hm_S → Int32 → Option hm_S
  | 0, _, _ => none
  | n + 1, σ, x1 => (if (24 : Int32) ≤ x1 then hx_n (hm_terms_s σ (0 : Int32)) (fun σ3 => hx_n (hm_hasNan_s σ3 (0 : Int32)) (fun σ4 => hx_n (hm_isWrong_s σ4 (0 : Int32)) (fun σ5 => hx_n (hm_hasAbove_s σ5 (0 : Int32)) (fun σ6 => hx_n (hm_hasBelow_s σ6 (0 : Int32)) (fun σ7 => hx_n (hm_allZero_s σ7 (1 : Int32)) (fun σ8 => hx_n (hm_hasPlus_s σ8 (0 : Int32)) (fun σ9 => hx_n (hm_hasMinus_s σ9 (0 : Int32)) (fun σ10 => some σ10)))))))) else (if x1 < 0 ∨ 24 ≤ x1.toNatClampNeg then none else hx_n (hm_limb_s σ x1.toNatClampNeg (0 : Int64)) (fun σ12 => hx_n (x1 + 1) (fun x13 => ((f_M_begin_2 n) σ12 x13)))))
def f_M_begin (τ : hm_S) : Option hm_S := (f_M_begin_2 hx_fuel τ (0 : Int32))
def f_M_put_95 (K36 : hm_S → Int32 → Int32 → Int64 → Int64 → Int64 → Int32 → Option hm_S) (σ : hm_S) (x26 : Int32) (x27 : Int32) (x28 : Int64) (x29 : Int64) (x30 : Int32) (x31 : Int64) (x32 : Int64) : Option hm_S := hx_n (x31 + x32) (fun x33 => hx_n (x33 &&& (4294967295 : Int64)) (fun x34 => (if x30 < 0 ∨ 24 ≤ x30.toNatClampNeg then none else hx_n (hm_limb_s σ x30.toNatClampNeg x34) (fun σ36 => hx_n (x33 >>> ((32 : Int32).toInt64 &&& 63)) (fun x37 => hx_n (x30 + 1) (fun x38 => (K36 σ36 x26 x27 x28 x29 x37 x38)))))))
def f_M_put_70 (K36 : hm_S → Int32 → Int32 → Int64 → Int64 → Int64 → Int32 → Option hm_S) (σ : hm_S) (x17 : Int32) (x18 : Int32) (x19 : Int64) (x20 : Int64) (x21 : Int64) (x22 : Int32) (x23 : Int64) : Option hm_S := (if x22 < 0 ∨ 24 ≤ x22.toNatClampNeg then none else (if x17 = 0 then (f_M_put_95 K36 σ x17 x18 x19 x20 x22 ((hm_limb σ x22.toNatClampNeg) + x21) x23) else (f_M_put_95 K36 σ x17 x18 x19 x20 x22 ((hm_limb σ x22.toNatClampNeg) + x21) (-x23))))
def f_M_put_36 : Nat → hm_S → Int32 → Int32 → Int64 → Int64 → Int64 → Int32 → Option hm_S
  | 0, _, _, _, _, _, _, _ => none
  | n + 1, σ, x8, x9, x10, x11, x12, x13 => (if (24 : Int32) ≤ x13 then some σ else (if x13 = x9 then (f_M_put_70 (f_M_put_36 n) σ x8 x9 x10 x11 x12 x13 x10) else (if x13 = (x9 + (1 : Int32)) then (f_M_put_70 (f_M_put_36 n) σ x8 x9 x10 x11 x12 x13 x11) else (f_M_put_70 (f_M_put_36 n) σ x8 x9 x10 x11 x12 x13 (0 : Int64)))))
def f_M_put (τ : hm_S) (x1 : Int64) (x2 : Int32) (x3 : Int32) : Option hm_S := hx_n (x2 / (32 : Int32)) (fun x4 => hx_n (x1 <<< ((x2 - x2 / (32 : Int32) * (32 : Int32)).toInt64 &&& 63)) (fun x5 => hx_n (x5 &&& (4294967295 : Int64)) (fun x6 => hx_n ((x5.toUInt64 >>> ((32 : Int32).toInt64.toUInt64 &&& Int64.toUInt64 63)).toInt64) (fun x7 => (f_M_put_36 hx_fuel τ x3 x4 x6 x7 (0 : Int64) x4)))))
def f_M_term_96 (σ : hm_S) (x44 : Int32) : Option hm_S := (if x44 = 0 ∨ x44 = 1 then hx_n (hm_hasBelow_s σ x44) (fun σ46 => some σ46) else none)
def f_M_term_91 (σ : hm_S) : Option hm_S := (f_M_term_96 σ (1 : Int32))
def f_M_term_76 (σ : hm_S) (x39 : Int32) (x40 : Int32) : Option hm_S := (if x40 = 0 ∨ x40 = 1 then hx_n (hm_hasAbove_s σ x40) (fun σ42 => (if (hm_hasBelow σ42) = 0 then (if x39 = 0 then (f_M_term_96 σ42 (0 : Int32)) else (f_M_term_91 σ42)) else (f_M_term_91 σ42))) else none)
def f_M_term_71 (σ : hm_S) (x38 : Int32) : Option hm_S := (f_M_term_76 σ x38 (1 : Int32))
def f_M_term_47 (σ : hm_S) (x24 : Int32) (x25 : Int32) (x26 : Int64) (x27 : Int32) (x28 : Int32) : Option hm_S := (if x28 = 0 ∨ x28 = 1 then hx_n (hm_hasMinus_s σ x28) (fun σ30 => (if x25 = 0 then (if (lg_cmp x26 (0 : Int64)) = 0 then some σ30 else hx_n (hm_allZero_s σ30 (0 : Int32)) (fun σ33 => hx_b1 (f_M_put σ33 (x26 &&& (16777215 : Int64)) (x27 - (-352 : Int32)) x24) (fun q34 => hx_b1 (f_M_put q34 (x26 >>> ((24 : Int32).toInt64 &&& 63)) ((x27 - (-352 : Int32)) + (24 : Int32)) x24) (fun q35 => some q35)))) else hx_n (hm_allZero_s σ30 (0 : Int32)) (fun σ36 => (if (hm_hasAbove σ36) = 0 then (if x24 = 0 then (f_M_term_71 σ36 x24) else (f_M_term_76 σ36 x24 (0 : Int32))) else (f_M_term_71 σ36 x24))))) else none)
def f_M_term_42 (σ : hm_S) (x20 : Int32) (x21 : Int32) (x22 : Int64) (x23 : Int32) : Option hm_S := (f_M_term_47 σ x20 x21 x22 x23 (1 : Int32))
def f_M_term_27 (σ : hm_S) (x12 : Int32) (x13 : Int32) (x14 : Int64) (x15 : Int32) (x16 : Int32) : Option hm_S := (if x16 = 0 ∨ x16 = 1 then hx_n (hm_hasPlus_s σ x16) (fun σ18 => (if (hm_hasMinus σ18) = 0 then (if x12 = 0 then (f_M_term_47 σ18 x12 x13 x14 x15 (0 : Int32)) else (f_M_term_42 σ18 x12 x13 x14 x15)) else (f_M_term_42 σ18 x12 x13 x14 x15))) else none)
def f_M_term_22 (σ : hm_S) (x8 : Int32) (x9 : Int32) (x10 : Int64) (x11 : Int32) : Option hm_S := (f_M_term_27 σ x8 x9 x10 x11 (1 : Int32))
def f_M_term (τ : hm_S) (x1 : Int32) (x2 : Int32) (x3 : Int64) (x4 : Int32) : Option hm_S := hx_n ((hm_terms τ) + (1 : Int32)) (fun x5 => hx_n (hm_terms_s τ x5) (fun σ6 => (if (hm_hasPlus σ6) = 0 then (if x1 = 0 then (f_M_term_22 σ6 x1 x2 x3 x4) else (f_M_term_27 σ6 x1 x2 x3 x4 (0 : Int32))) else (f_M_term_22 σ6 x1 x2 x3 x4))))
def f_M_value_58 (σ : hm_S) (x28 : Int32) (x29 : Int64) (x30 : Int32) (x31 : Int32) (x32 : Int32) : Option hm_S := hx_b1 (f_M_wholeOf σ x28 x29) (fun r33 => hx_b1 (f_M_powerOf σ x28 x29) (fun r34 => hx_b1 (f_M_term σ x31 x32 r33 (r34 + x30)) (fun q35 => some q35)))
def f_M_value_47 (σ : hm_S) (x22 : Int32) (x23 : Int64) (x24 : Int32) (x25 : Int32) (x26 : Int32) : Option hm_S := (if x25 = (3 : Int32) then (f_M_value_58 σ x22 x23 x24 x26 (1 : Int32)) else (f_M_value_58 σ x22 x23 x24 x26 (0 : Int32)))
def f_M_value_27 (σ : hm_S) (x12 : Int32) (x13 : Int64) (x14 : Int32) (x15 : Int32) (x16 : Int32) (x17 : Int32) : Option hm_S := (if x17 = 0 ∨ x17 = 1 then hx_n (hm_hasNan_s σ x17) (fun σ19 => hx_b1 (f_M_isBelow σ19 x12 x13) (fun r20 => (if r20 = x14 then (f_M_value_47 σ19 x12 x13 x15 x16 (0 : Int32)) else (f_M_value_47 σ19 x12 x13 x15 x16 (1 : Int32))))) else none)
def f_M_value_22 (σ : hm_S) (x7 : Int32) (x8 : Int64) (x9 : Int32) (x10 : Int32) (x11 : Int32) : Option hm_S := (f_M_value_27 σ x7 x8 x9 x10 x11 (1 : Int32))
def f_M_value (τ : hm_S) (x1 : Int32) (x2 : Int64) (x3 : Int32) (x4 : Int32) : Option hm_S := hx_b1 (f_M_sortOf τ x1 x2) (fun r5 => (if (hm_hasNan τ) = 0 then (if r5 = (4 : Int32) then (f_M_value_22 τ x1 x2 x3 x4 r5) else (f_M_value_27 τ x1 x2 x3 x4 r5 (0 : Int32))) else (f_M_value_22 τ x1 x2 x3 x4 r5)))
def f_M_product_134 (σ : hm_S) (x69 : Int32) (x70 : Int64) (x71 : Int32) (x72 : Int64) (x73 : Int32) (x74 : Int32) : Option hm_S := hx_b1 (f_M_wholeOf σ x69 x70) (fun r75 => hx_b1 (f_M_wholeOf σ x71 x72) (fun r76 => hx_b1 (f_M_powerOf σ x69 x70) (fun r77 => hx_b1 (f_M_powerOf σ x71 x72) (fun r78 => hx_b1 (f_M_term σ x73 x74 (r75 * r76) (r77 + r78)) (fun q79 => some q79)))))
def f_M_product_129 (σ : hm_S) (x64 : Int32) (x65 : Int64) (x66 : Int32) (x67 : Int64) (x68 : Int32) : Option hm_S := (f_M_product_134 σ x64 x65 x66 x67 x68 (1 : Int32))
def f_M_product_117 (σ : hm_S) (x56 : Int32) (x57 : Int64) (x58 : Int32) (x59 : Int64) (x60 : Int32) (x61 : Int32) (x62 : Int32) : Option hm_S := (if x60 = (3 : Int32) then (f_M_product_129 σ x56 x57 x58 x59 x62) else (if x61 = (3 : Int32) then (f_M_product_129 σ x56 x57 x58 x59 x62) else (f_M_product_134 σ x56 x57 x58 x59 x62 (0 : Int32))))
def f_M_product_107 (σ : hm_S) (x47 : Int32) (x48 : Int64) (x49 : Int32) (x50 : Int64) (x51 : Int32) (x52 : Int32) (x53 : Int32) (x54 : Int32) : Option hm_S := (if x54 = x51 then (f_M_product_117 σ x47 x48 x49 x50 x52 x53 (0 : Int32)) else (f_M_product_117 σ x47 x48 x49 x50 x52 x53 (1 : Int32)))
def f_M_product_81 (σ : hm_S) (x34 : Int32) (x35 : Int64) (x36 : Int32) (x37 : Int64) (x38 : Int32) (x39 : Int32) (x40 : Int32) (x41 : Int32) : Option hm_S := (if x41 = 0 ∨ x41 = 1 then hx_n (hm_isWrong_s σ x41) (fun σ43 => hx_b1 (f_M_isBelow σ43 x34 x35) (fun r44 => hx_b1 (f_M_isBelow σ43 x36 x37) (fun r45 => (if r44 = r45 then (f_M_product_107 σ43 x34 x35 x36 x37 x38 x39 x40 (0 : Int32)) else (f_M_product_107 σ43 x34 x35 x36 x37 x38 x39 x40 (1 : Int32)))))) else none)
def f_M_product_76 (σ : hm_S) (x27 : Int32) (x28 : Int64) (x29 : Int32) (x30 : Int64) (x31 : Int32) (x32 : Int32) (x33 : Int32) : Option hm_S := (f_M_product_81 σ x27 x28 x29 x30 x31 x32 x33 (1 : Int32))
def f_M_product_80 (σ : hm_S) (x90 : Int32) (x91 : Int64) (x92 : Int32) (x93 : Int64) (x94 : Int32) (x95 : Int32) (x96 : Int32) : Option hm_S := (f_M_product_81 σ x90 x91 x92 x93 x94 x95 x96 (0 : Int32))
def f_M_product_65 (σ : hm_S) (x82 : Int32) (x83 : Int64) (x84 : Int32) (x85 : Int64) (x86 : Int32) (x87 : Int32) (x88 : Int32) : Option hm_S := (if x87 = 0 then (if x88 = (3 : Int32) then (f_M_product_76 σ x82 x83 x84 x85 x86 x87 x88) else (f_M_product_80 σ x82 x83 x84 x85 x86 x87 x88)) else (f_M_product_80 σ x82 x83 x84 x85 x86 x87 x88))
def f_M_product_43 (σ : hm_S) (x16 : Int32) (x17 : Int64) (x18 : Int32) (x19 : Int64) (x20 : Int32) (x21 : Int32) (x22 : Int32) (x23 : Int32) : Option hm_S := (if x23 = 0 ∨ x23 = 1 then hx_n (hm_hasNan_s σ x23) (fun σ25 => (if (hm_isWrong σ25) = 0 then (if x21 = (3 : Int32) then (if x22 = 0 then (f_M_product_76 σ25 x16 x17 x18 x19 x20 x21 x22) else (f_M_product_65 σ25 x16 x17 x18 x19 x20 x21 x22)) else (f_M_product_65 σ25 x16 x17 x18 x19 x20 x21 x22)) else (f_M_product_76 σ25 x16 x17 x18 x19 x20 x21 x22))) else none)
def f_M_product_38 (σ : hm_S) (x9 : Int32) (x10 : Int64) (x11 : Int32) (x12 : Int64) (x13 : Int32) (x14 : Int32) (x15 : Int32) : Option hm_S := (f_M_product_43 σ x9 x10 x11 x12 x13 x14 x15 (1 : Int32))
def f_M_product (τ : hm_S) (x1 : Int32) (x2 : Int64) (x3 : Int32) (x4 : Int64) (x5 : Int32) : Option hm_S := hx_b1 (f_M_sortOf τ x1 x2) (fun r6 => hx_b1 (f_M_sortOf τ x3 x4) (fun r7 => (if (hm_hasNan τ) = 0 then (if r6 = (4 : Int32) then (f_M_product_38 τ x1 x2 x3 x4 x5 r6 r7) else (if r7 = (4 : Int32) then (f_M_product_38 τ x1 x2 x3 x4 x5 r6 r7) else (f_M_product_43 τ x1 x2 x3 x4 x5 r6 r7 (0 : Int32)))) else (f_M_product_38 τ x1 x2 x3 x4 x5 r6 r7))))
def f_M_bitAt (τ : hm_S) (x1 : Int32) : Option Int32 := (if 0 ≤ x1 then (if (x1 / (32 : Int32)) < 0 ∨ 24 ≤ (x1 / (32 : Int32)).toNatClampNeg then none else some ((((hm_limb τ (x1 / (32 : Int32)).toNatClampNeg) >>> ((x1 - x1 / (32 : Int32) * (32 : Int32)).toInt64 &&& 63)) &&& (1 : Int64)).toInt32)) else some (0 : Int32))
def f_M_hasLower_2 : Nat → hm_S → Int32 → Int32 → Option Int32
  | 0, _, _, _ => none
  | n + 1, τ, x2, x3 => (if x2 ≤ x3 then some (0 : Int32) else hx_b1 (f_M_bitAt τ x3) (fun r5 => (if r5 = (1 : Int32) then some (1 : Int32) else hx_n (x3 + 1) (fun x7 => ((f_M_hasLower_2 n) τ x2 x7)))))
def f_M_hasLower (τ : hm_S) (x1 : Int32) : Option Int32 := (f_M_hasLower_2 hx_fuel τ x1 (0 : Int32))
def f_M_negate_4 : Nat → hm_S → Int64 → Int32 → Option hm_S
  | 0, _, _, _ => none
  | n + 1, σ, x1, x2 => (if (24 : Int32) ≤ x2 then some σ else (if x2 < 0 ∨ 24 ≤ x2.toNatClampNeg then none else hx_n ((((hm_limb σ x2.toNatClampNeg) ^^^ (-1 : Int64)) &&& (4294967295 : Int64)) + x1) (fun x5 => hx_n (x5 &&& (4294967295 : Int64)) (fun x6 => (if x2 < 0 ∨ 24 ≤ x2.toNatClampNeg then none else hx_n (hm_limb_s σ x2.toNatClampNeg x6) (fun σ8 => hx_n (x5 >>> ((32 : Int32).toInt64 &&& 63)) (fun x9 => hx_n (x2 + 1) (fun x10 => ((f_M_negate_4 n) σ8 x9 x10)))))))))
def f_M_negate (τ : hm_S) : Option hm_S := (f_M_negate_4 hx_fuel τ (1 : Int64) (0 : Int32))
def f_M_drawn (τ : hm_S) : Option (Int32 × hm_S) := hx_n (((hm_state τ) * (48271 : Int64)) - ((hm_state τ) * (48271 : Int64)) / (2147483647 : Int64) * (2147483647 : Int64)) (fun x1 => hx_n (hm_state_s τ x1) (fun σ2 => some ((((hm_state σ2) / (16 : Int64)) - ((hm_state σ2) / (16 : Int64)) / (65536 : Int64) * (65536 : Int64)).toInt32, σ2)))
def f_M_isFarther_116 : Nat → hm_S → Int32 → Int32 → Int32 → Option (Int32 × hm_S)
  | 0, _, _, _, _ => none
  | n + 1, σ, x25, x26, x27 => (if x27 ≤ (x25 - (17 : Int32)) then hx_b2 (f_M_drawn σ) (fun r30 q29 => (if x26 ≤ r30 then some ((0 : Int32), q29) else some ((1 : Int32), q29))) else hx_b1 (f_M_bitAt σ x27) (fun r32 => hx_n (((2 : Int32) * x26) + r32) (fun x33 => hx_n (x27 + (-1)) (fun x34 => ((f_M_isFarther_116 n) σ x25 x33 x34)))))
def f_M_isFarther_16 (σ : hm_S) (x7 : Int32) (x8 : Int32) (x9 : Int32) (x10 : Int64) (x11 : Int32) : Option (Int32 × hm_S) := hx_b1 (f_M_hasLower σ (x9 - (1 : Int32))) (fun r12 => (if x7 = 0 then (if x11 = 0 then some ((0 : Int32), σ) else (if r12 = 0 then (if (lg_cmp (x10 - x10 / (2 : Int64) * (2 : Int64)) (1 : Int64)) = 0 then some ((1 : Int32), σ) else some ((0 : Int32), σ)) else some ((1 : Int32), σ))) else (if x7 = 1 then (if x11 = 0 ∨ x11 = 1 then some (x11, σ) else none) else (if x7 = 2 then some ((0 : Int32), σ) else (if x7 = 3 then (if x8 = 0 then some ((1 : Int32), σ) else some ((0 : Int32), σ)) else (if x7 = 4 then (if x8 = 0 ∨ x8 = 1 then some (x8, σ) else none) else hx_n (x9 - (1 : Int32)) (fun x24 => (f_M_isFarther_116 hx_fuel σ x9 (0 : Int32) x24))))))))
def f_M_isFarther (τ : hm_S) (x1 : Int32) (x2 : Int32) (x3 : Int32) (x4 : Int64) : Option (Int32 × hm_S) := hx_b1 (f_M_bitAt τ (x3 - (1 : Int32))) (fun r5 => (if r5 = (1 : Int32) then (f_M_isFarther_16 τ x1 x2 x3 x4 (1 : Int32)) else (f_M_isFarther_16 τ x1 x2 x3 x4 (0 : Int32))))
def f_M_round_253 (σ : hm_S) (x51 : Int32) (x52 : Int64) (x53 : Int32) : Option (Int64 × hm_S) := (if x51 < 0 ∨ 4 ≤ x51.toNatClampNeg then none else (if (hm_fK σ x51.toNatClampNeg) = (2 : Int32) then hx_b1 (f_M_nan σ x51) (fun r59 => some (r59, σ)) else (if x53 = 0 then hx_b1 (f_M_limit σ x51) (fun r57 => some ((x52 ||| r57), σ)) else hx_b1 (f_M_limit σ x51) (fun r58 => some ((x52 ||| (r58 - (1 : Int64))), σ)))))
def f_M_round_248 (σ : hm_S) (x49 : Int32) (x50 : Int64) : Option (Int64 × hm_S) := (f_M_round_253 σ x49 x50 (1 : Int32))
def f_M_round_252 (σ : hm_S) (x67 : Int32) (x68 : Int64) : Option (Int64 × hm_S) := (f_M_round_253 σ x67 x68 (0 : Int32))
def f_M_round_239 (σ : hm_S) (x62 : Int32) (x63 : Int32) (x64 : Int32) (x65 : Int64) : Option (Int64 × hm_S) := (if x63 = (4 : Int32) then (if x64 = 0 then (f_M_round_248 σ x62 x65) else (f_M_round_252 σ x62 x65)) else (f_M_round_252 σ x62 x65))
def f_M_round_191 (σ : hm_S) (x38 : Int32) (x39 : Int32) (x40 : Int32) (x41 : Int64) (x42 : Int64) : Option (Int64 × hm_S) := hx_b1 (f_M_limit σ x38) (fun r43 => (if (lg_cmp x41 r43) < 0 then some ((x42 ||| x41), σ) else hx_n ((hm_flags σ) ||| (10 : Int32)) (fun x45 => hx_n (hm_flags_s σ x45) (fun σ46 => (if x38 < 0 ∨ 4 ≤ x38.toNatClampNeg then none else (if (hm_fK σ46 x38.toNatClampNeg) = (1 : Int32) then (f_M_round_248 σ46 x38 x42) else (if x39 = (2 : Int32) then (f_M_round_248 σ46 x38 x42) else (if x39 = (3 : Int32) then (if x40 = 0 then (f_M_round_239 σ46 x38 x39 x40 x42) else (f_M_round_248 σ46 x38 x42)) else (f_M_round_239 σ46 x38 x39 x40 x42)))))))))
def f_M_round_148 (σ : hm_S) (x28 : Int32) (x29 : Int32) (x30 : Int32) (x31 : Int32) (x32 : Int64) : Option (Int64 × hm_S) := hx_b1 (f_M_bias σ x28) (fun r33 => (if x28 < 0 ∨ 4 ≤ x28.toNatClampNeg then none else (if x28 < 0 ∨ 4 ≤ x28.toNatClampNeg then none else hx_n ((((x31 + r33).toInt64 <<< ((hm_fF σ x28.toNatClampNeg).toInt64 &&& 63)) + x32) - ((1 : Int64) <<< ((hm_fF σ x28.toNatClampNeg).toInt64 &&& 63))) (fun x36 => (if x30 = 0 then (f_M_round_191 σ x28 x29 x30 x36 (0 : Int64)) else hx_b1 (f_M_signBit σ x28) (fun r71 => (f_M_round_191 σ x28 x29 x30 x36 r71)))))))
def f_M_round_145 (σ : hm_S) (x87 : Int32) (x88 : Int32) (x89 : Int32) (x90 : Int32) (x91 : Int64) (x92 : Int64) : Option (Int64 × hm_S) := hx_n (x91 + x92) (fun x93 => (f_M_round_148 σ x87 x88 x89 x90 x93))
def f_M_round_120 (σ : hm_S) (x73 : Int32) (x74 : Int32) (x75 : Int32) (x76 : Int32) (x77 : Int32) (x78 : Int64) (x79 : Int32) (x80 : Int32) (x81 : Int32) : Option (Int64 × hm_S) := hx_n (x79 ||| (x80 ||| x81)) (fun x82 => hx_n (hm_flags_s σ x82) (fun σ83 => hx_b2 (f_M_isFarther σ83 x74 x75 x77 x78) (fun r85 q84 => (if r85 = 0 then (f_M_round_145 q84 x73 x74 x75 x76 x78 (0 : Int64)) else (f_M_round_145 q84 x73 x74 x75 x76 x78 (1 : Int64))))))
def f_M_round_55 : Nat → hm_S → Int32 → Int32 → Int32 → Int32 → Int32 → Int32 → Int32 → Int64 → Int32 → Option (Int64 × hm_S)
  | 0, _, _, _, _, _, _, _, _, _, _ => none
  | n + 1, σ, x16, x17, x18, x19, x20, x21, x22, x23, x24 => (if x24 < x22 then hx_b1 (f_M_hasLower σ x22) (fun r26 => (if r26 = 0 then (f_M_round_148 σ x16 x17 x18 x21 x23) else (if x20 ≤ (x19 + (-352 : Int32)) then (f_M_round_120 σ x16 x17 x18 x21 x22 x23 (hm_flags σ) (8 : Int32) (0 : Int32)) else (f_M_round_120 σ x16 x17 x18 x21 x22 x23 (hm_flags σ) (8 : Int32) (4 : Int32))))) else hx_b1 (f_M_bitAt σ x24) (fun r94 => hx_n (((2 : Int64) * x23) + r94.toInt64) (fun x95 => hx_n (x24 + (-1)) (fun x96 => ((f_M_round_55 n) σ x16 x17 x18 x19 x20 x21 x22 x95 x96)))))
def f_M_round_31 (σ : hm_S) (x8 : Int32) (x9 : Int32) (x10 : Int32) (x11 : Int32) (x12 : Int32) (x13 : Int32) : Option (Int64 × hm_S) := (if x8 < 0 ∨ 4 ≤ x8.toNatClampNeg then none else hx_n ((x13 - (hm_fF σ x8.toNatClampNeg)) - (-352 : Int32)) (fun x15 => (f_M_round_55 hx_fuel σ x8 x9 x10 x11 x12 x13 x15 (0 : Int64) x11)))
def f_M_round (τ : hm_S) (x1 : Int32) (x2 : Int32) (x3 : Int32) (x4 : Int32) : Option (Int64 × hm_S) := hx_b1 (f_M_bias τ x1) (fun r5 => hx_n ((1 : Int32) - r5) (fun x6 => (if x6 ≤ (x4 + (-352 : Int32)) then (f_M_round_31 τ x1 x2 x3 x4 x6 (x4 + (-352 : Int32))) else (f_M_round_31 τ x1 x2 x3 x4 x6 x6))))
def f_M_end_34 (σ : hm_S) (x5 : Int32) : Option (Int64 × hm_S) := hx_n ((hm_flags σ) ||| (1 : Int32)) (fun x6 => hx_n (hm_flags_s σ x6) (fun σ7 => hx_b1 (f_M_nan σ7 x5) (fun r8 => some (r8, σ7))))
def f_M_end_80 (σ : hm_S) (x15 : Int32) (x16 : Int64) : Option (Int64 × hm_S) := (if x15 < 0 ∨ 4 ≤ x15.toNatClampNeg then none else (if (hm_fK σ x15.toNatClampNeg) = 0 then hx_b1 (f_M_limit σ x15) (fun r23 => some ((x16 ||| r23), σ)) else (if x15 < 0 ∨ 4 ≤ x15.toNatClampNeg then none else (if (hm_fK σ x15.toNatClampNeg) = (1 : Int32) then hx_b1 (f_M_limit σ x15) (fun r22 => some ((x16 ||| (r22 - (1 : Int64))), σ)) else hx_b1 (f_M_nan σ x15) (fun r21 => some (r21, σ))))))
def f_M_end_64 (σ : hm_S) (x13 : Int32) : Option (Int64 × hm_S) := (if (hm_hasBelow σ) = 0 then (f_M_end_80 σ x13 (0 : Int64)) else hx_b1 (f_M_signBit σ x13) (fun r24 => (f_M_end_80 σ x13 r24)))
def f_M_end_237 (σ : hm_S) (x56 : Int32) (x57 : Int32) : Option (Int64 × hm_S) := (if x57 = 0 then some ((0 : Int64), σ) else hx_b1 (f_M_signBit σ x56) (fun r59 => some (r59, σ)))
def f_M_end_236 (σ : hm_S) (x55 : Int32) : Option (Int64 × hm_S) := (f_M_end_237 σ x55 (0 : Int32))
def f_M_end_206 (σ : hm_S) (x50 : Int32) (x51 : Int32) (x52 : Int32) : Option (Int64 × hm_S) := (if x52 = 0 then (if (hm_terms σ) ≤ 0 then (f_M_end_236 σ x50) else (if x51 = (4 : Int32) then (f_M_end_237 σ x50 (1 : Int32)) else (f_M_end_236 σ x50))) else (f_M_end_237 σ x50 (hm_hasMinus σ)))
def f_M_end_205 (σ : hm_S) (x48 : Int32) (x49 : Int32) : Option (Int64 × hm_S) := (f_M_end_206 σ x48 x49 (0 : Int32))
def f_M_end_178 (σ : hm_S) (x40 : Int32) (x41 : Int32) (x42 : Int32) (x43 : Int32) : Option (Int64 × hm_S) := (if 0 ≤ x43 then hx_b2 (f_M_round σ x40 x41 x42 x43) (fun r46 q45 => some (r46, q45)) else (if (hm_allZero σ) = 0 then (f_M_end_205 σ x40 x41) else (if (hm_hasPlus σ) = (hm_hasMinus σ) then (f_M_end_205 σ x40 x41) else (f_M_end_206 σ x40 x41 (1 : Int32)))))
def f_M_end_158 : Nat → hm_S → Int32 → Int32 → Int32 → Int32 → Option (Int64 × hm_S)
  | 0, _, _, _, _, _ => none
  | n + 1, σ, x35, x36, x37, x38 => (if x38 < 0 then (f_M_end_178 σ x35 x36 x37 x38) else hx_b1 (f_M_bitAt σ x38) (fun r62 => (if r62 = 0 then hx_n (x38 + (-1)) (fun x64 => ((f_M_end_158 n) σ x35 x36 x37 x64)) else (f_M_end_178 σ x35 x36 x37 x38))))
def f_M_end_153 (σ : hm_S) (x32 : Int32) (x33 : Int32) (x34 : Int32) : Option (Int64 × hm_S) := (f_M_end_158 hx_fuel σ x32 x33 x34 (767 : Int32))
def f_M_end_144 (σ : hm_S) (x28 : Int32) (x29 : Int32) (x30 : Int32) : Option (Int64 × hm_S) := (if x30 = 0 then (f_M_end_153 σ x28 x29 x30) else hx_b1 (f_M_negate σ) (fun q65 => (f_M_end_153 q65 x28 x29 x30)))
def f_M_end_50 (σ : hm_S) (x10 : Int32) (x11 : Int32) : Option (Int64 × hm_S) := (if (hm_hasAbove σ) = 0 then (if (hm_hasBelow σ) = 0 then hx_b1 (f_M_bitAt σ (767 : Int32)) (fun r26 => (if r26 = (1 : Int32) then (f_M_end_144 σ x10 x11 (1 : Int32)) else (f_M_end_144 σ x10 x11 (0 : Int32)))) else (f_M_end_64 σ x10)) else (f_M_end_64 σ x10))
def f_M_end (τ : hm_S) (x1 : Int32) (x2 : Int32) : Option (Int64 × hm_S) := (if (hm_hasNan τ) = 0 then (if (hm_isWrong τ) = 0 then (if (hm_hasAbove τ) = 0 then (f_M_end_50 τ x1 x2) else (if (hm_hasBelow τ) = 0 then (f_M_end_50 τ x1 x2) else (f_M_end_34 τ x1))) else (f_M_end_34 τ x1)) else hx_b1 (f_M_nan τ x1) (fun r67 => some (r67, τ)))
abbrev m_M_set : Room := { frames := 0, cells := 0, slots := 0, locals := 0 }
set_option maxHeartbeats 4000000 in
set_option maxRecDepth 100000 in
theorem c_M_set (l : Launch) (D : va_G) (T3 : hx_T3) (bd : Nat → Nat) (sz : Nat) (τ : hm_S) (x1 : Int32) (x2 : Int32) (x3 : Int32) (x4 : Int32)  (σ0 : hm_S) (h : f_M_set τ x1 x2 x3 x4 = some σ0) : hx_Wv l D (hx_ty T3) y_M_set w_M_set m_M_set [.ref (bd 0), .int x1, .int x2, .int x3, .int x4] sz (hm_W T3 bd τ) (hm_W T3 bd σ0) := by
  refine Met.ofW (cc := b_M_set) (maxL := 5) (ret := none) (by decide) rfl ?_
  intro p e s m args below meth c s₁ B hml hv
  obtain ⟨hargs, hsz, hP, hK, hD0⟩ := hv
  have hx := B.exec
  have hb := B.bytes
  have hr := B.returns
  have hts := atoms_spec (ws := w_M_set) B.pre
  have hown : s.vm.findClass "HalfFloatsModel" = some m.cls := findClass_of_methodNamed B.named
  have hlocks := B.notSynchronized
  subst hsz
  have hD := hD0.self (sz := s.heap.size)
  generalize hAe : va_A (hm_W T3 bd τ) s.heap.size = A at hD ⊢
  have hA : ∀ q : Nat, s.heap.size ≤ q → A q := fun q h => by rw [← hAe]; exact Or.inr h
  have hS : va_S A s.heap s.heap [] := va_S.rf
  refine W.eq (g2 := F0 m 0 ((lg_sl [.ref (bd 0), .int x1, .int x2, .int x3, .int x4] ++ List.replicate (5 - (lg_sl [.ref (bd 0), .int x1, .int x2, .int x3, .int x4]).length) Slot.unset).toArray) []) (by rw [hargs, lg_entry_eq]) ?_
  have hl := lv_entry ([.ref (bd 0), .int x1, .int x2, .int x3, .int x4]) (n := 5) (Nat.le_of_ble_eq_true rfl)
  generalize (lg_sl ([.ref (bd 0), .int x1, .int x2, .int x3, .int x4]) ++ List.replicate (5 - (lg_sl ([.ref (bd 0), .int x1, .int x2, .int x3, .int x4])).length) Slot.unset).toArray = ls at hl ⊢
  have hl : lv_has ls 5 [(0, .ref (bd 0)), (1, .int x1), (2, .int x2), (3, .int x3), (4, .int x4)] := hl
  rw [f_M_set] at h
  refine lv_aload_n hx hb d_M_set_0 rfl (lv_at hl 0 rfl) ?_
  refine va_get (D := D) (ci := 5) (v := .ref (bd 1)) (C := "HalfFloatsModel") (T := T_M) (N := 21) hx hb hts (hx_up in_M) hown hK hP (0) hm_at_M rfl 0 (by decide) (hts _ (hx_cons _ k_556)) (fun _ h9 => h9) rfl d_M_set_1 ?_
  refine lv_iload_n hx hb d_M_set_4 rfl (lv_at hl 1 rfl) ?_
  refine lv_iload_n hx hb d_M_set_5 rfl (lv_at hl 2 rfl) ?_
  obtain ⟨g5, h⟩ := hx_gs h
  refine va_iast hx hb hK hP hD hS (1) 1 hm_at_fE rfl g5 d_M_set_6 (fun H locs hP hD hS => ?_)
  obtain ⟨σ6, eσ6⟩ : ∃ y : hm_S, y = (hm_fE_s τ x1.toNatClampNeg x2) := ⟨_, rfl⟩
  replace hP : va_P D vwCl (hm_W T3 bd σ6) H := by rw [eσ6]; exact hP
  replace hD : va_D A (hm_W T3 bd σ6) := by rw [eσ6]; exact hD
  replace h := hx_ns eσ6 h
  clear eσ6
  refine lv_aload_n hx hb d_M_set_7 rfl (lv_at hl 0 rfl) ?_
  refine va_get (D := D) (ci := 5) (v := .ref (bd 2)) (C := "HalfFloatsModel") (T := T_M) (N := 21) hx hb hts (hx_up in_M) hown hK hP (0) hm_at_M rfl 1 (by decide) (hts _ (hx_cons _ k_557)) (fun _ h9 => h9) rfl d_M_set_8 ?_
  refine lv_iload_n hx hb d_M_set_11 rfl (lv_at hl 1 rfl) ?_
  refine lv_iload_n hx hb d_M_set_12 rfl (lv_at hl 3 rfl) ?_
  obtain ⟨g7, h⟩ := hx_gs h
  refine va_iast hx hb hK hP hD hS (2) 1 hm_at_fF rfl g7 d_M_set_13 (fun H locs hP hD hS => ?_)
  obtain ⟨σ8, eσ8⟩ : ∃ y : hm_S, y = (hm_fF_s σ6 x1.toNatClampNeg x3) := ⟨_, rfl⟩
  replace hP : va_P D vwCl (hm_W T3 bd σ8) H := by rw [eσ8]; exact hP
  replace hD : va_D A (hm_W T3 bd σ8) := by rw [eσ8]; exact hD
  replace h := hx_ns eσ8 h
  clear eσ8
  refine lv_aload_n hx hb d_M_set_14 rfl (lv_at hl 0 rfl) ?_
  refine va_get (D := D) (ci := 5) (v := .ref (bd 3)) (C := "HalfFloatsModel") (T := T_M) (N := 21) hx hb hts (hx_up in_M) hown hK hP (0) hm_at_M rfl 2 (by decide) (hts _ (hx_cons _ k_558)) (fun _ h9 => h9) rfl d_M_set_15 ?_
  refine lv_iload_n hx hb d_M_set_18 rfl (lv_at hl 1 rfl) ?_
  refine lv_iload hx hb d_M_set_19 (lv_at hl 4 rfl) ?_
  obtain ⟨g9, h⟩ := hx_gs h
  refine va_iast hx hb hK hP hD hS (3) 1 hm_at_fK rfl g9 d_M_set_21 (fun H locs hP hD hS => ?_)
  obtain ⟨σ10, eσ10⟩ : ∃ y : hm_S, y = (hm_fK_s σ8 x1.toNatClampNeg x4) := ⟨_, rfl⟩
  replace hP : va_P D vwCl (hm_W T3 bd σ10) H := by rw [eσ10]; exact hP
  replace hD : va_D A (hm_W T3 bd σ10) := by rw [eσ10]; exact hD
  replace h := hx_ns eσ10 h
  clear eσ10
  exact W.vret hx hb hr (fun t ht hW => hx_endv h ht hW hP hK hD hS) hS.2.2 d_M_set_22
abbrev m_M_isIn : Room := { frames := 0, cells := 0, slots := 0, locals := 0 }
set_option maxHeartbeats 4000000 in
set_option maxRecDepth 100000 in
theorem c_M_isIn (l : Launch) (D : va_G) (T3 : hx_T3)  (x1 : Int64) (x2 : Int64) (x3 : Int64) (r0 : Int32) (h : f_M_isIn x1 x2 x3 = some r0) : hx_R l D (hx_ty T3) [] y_M_isIn w_M_isIn m_M_isIn [.long x1, .long x2, .long x3] (.int r0) := by
  refine Met.ofW (cc := b_M_isIn) (maxL := 6) (ret := (some .boolean)) (by decide) rfl ?_
  intro p e s m args below meth c s₁ B hml hv
  obtain ⟨hargs, hP, hK⟩ := hv
  have hx := B.exec
  have hb := B.bytes
  have hr := B.returns
  have hts := atoms_spec (ws := w_M_isIn) B.pre
  have hown : s.vm.findClass "HalfFloatsModel" = some m.cls := findClass_of_methodNamed B.named
  have hlocks := B.notSynchronized
  refine W.eq (g2 := F0 m 0 ((lg_sl [.long x1, .long x2, .long x3] ++ List.replicate (6 - (lg_sl [.long x1, .long x2, .long x3]).length) Slot.unset).toArray) []) (by rw [hargs, lg_entry_eq]) ?_
  have hl := lv_entry ([.long x1, .long x2, .long x3]) (n := 6) (Nat.le_of_ble_eq_true rfl)
  generalize (lg_sl ([.long x1, .long x2, .long x3]) ++ List.replicate (6 - (lg_sl ([.long x1, .long x2, .long x3])).length) Slot.unset).toArray = ls at hl ⊢
  have hl : lv_has ls 6 [(0, .long x1), (2, .long x2), (4, .long x3)] := hl
  rw [f_M_isIn] at h
  refine lv_lload_n hx hb d_M_isIn_0 rfl (lv_at hl 0 rfl) ?_
  refine lv_lload_n hx hb d_M_isIn_1 rfl (lv_at hl 1 rfl) ?_
  refine W.lcmp hx hb d_M_isIn_2 ?_
  refine lv_if_lt (tgt := 17) hx hb d_M_isIn_3 (by decide) (fun c4 => ?_) (fun c4 => ?_)
  · replace h := hx_ip c4 h
    refine lv_iconst (v := 0) hx hb d_M_isIn_17 (by decide) ?_
    exact W.zret hx hb hr (hx_nb (Or.inl rfl)) (fun t ht hW => ⟨by rw [Option.some.inj h], ht⟩) (fun q hq => nomatch hq) d_M_isIn_18
  · replace h := hx_in c4 h
    refine lv_lload_n hx hb d_M_isIn_6 rfl (lv_at hl 0 rfl) ?_
    refine lv_lload hx hb d_M_isIn_7 (lv_at hl 2 rfl) ?_
    refine W.lcmp hx hb d_M_isIn_9 ?_
    refine lv_if_gt (tgt := 17) hx hb d_M_isIn_10 (by decide) (fun c5 => ?_) (fun c5 => ?_)
    · replace h := hx_ip c5 h
      refine lv_iconst (v := 0) hx hb d_M_isIn_17 (by decide) ?_
      exact W.zret hx hb hr (hx_nb (Or.inl rfl)) (fun t ht hW => ⟨by rw [Option.some.inj h], ht⟩) (fun q hq => nomatch hq) d_M_isIn_18
    · replace h := hx_in c5 h
      refine lv_iconst (v := 1) hx hb d_M_isIn_13 (by decide) ?_
      refine lv_goto (tgt := 18) hx hb d_M_isIn_14 (by decide) ?_
      exact W.zret hx hb hr (hx_nb (Or.inr rfl)) (fun t ht hW => ⟨by rw [Option.some.inj h], ht⟩) (fun q hq => nomatch hq) d_M_isIn_18
abbrev m_M_isFormat : Room := { frames := 1, cells := 0, slots := 0, locals := 25 }
set_option maxHeartbeats 4000000 in
set_option maxRecDepth 100000 in
theorem c_M_isFormat (l : Launch) (D : va_G) (T3 : hx_T3)  (x1 : Int32) (r0 : Int32) (h : f_M_isFormat x1 = some r0) : hx_R l D (hx_ty T3) [] y_M_isFormat w_M_isFormat m_M_isFormat [.int x1] (.int r0) := by
  refine Met.ofW (cc := b_M_isFormat) (maxL := 1) (ret := (some .boolean)) (by decide) rfl ?_
  intro p e s m args below meth c s₁ B hml hv
  obtain ⟨hargs, hP, hK⟩ := hv
  have hx := B.exec
  have hb := B.bytes
  have hr := B.returns
  have hts := atoms_spec (ws := w_M_isFormat) B.pre
  have hown : s.vm.findClass "HalfFloatsModel" = some m.cls := findClass_of_methodNamed B.named
  have hlocks := B.notSynchronized
  refine W.eq (g2 := F0 m 0 ((lg_sl [.int x1] ++ List.replicate (1 - (lg_sl [.int x1]).length) Slot.unset).toArray) []) (by rw [hargs, lg_entry_eq]) ?_
  have hl := lv_entry ([.int x1]) (n := 1) (Nat.le_of_ble_eq_true rfl)
  generalize (lg_sl ([.int x1]) ++ List.replicate (1 - (lg_sl ([.int x1])).length) Slot.unset).toArray = ls at hl ⊢
  have hl : lv_has ls 1 [(0, .int x1)] := hl
  rw [f_M_isFormat] at h
  refine lv_iload_n hx hb d_M_isFormat_0 rfl (lv_at hl 0 rfl) ?_
  refine lv_i2l hx hb d_M_isFormat_1 rfl ?_
  refine lv_lconst (v := 0) hx hb d_M_isFormat_2 rfl ?_
  refine lv_ldc2 (v := 3) hx hb hown (hts _ (hx_cons _ k_627)) d_M_isFormat_3 ?_
  obtain ⟨r2, er2, h⟩ := hx_b1s h
  refine hx_rd (va_runS (As := [.long x1.toInt64, .long (0 : Int64), .long (3 : Int64)]) (rest := []) ⟨hx, hb, hml, hown, hts⟩ (c_M_isIn l D T3 x1.toInt64 (0 : Int64) (3 : Int64) _ er2) (va_cwS 3 hts (hx_gS hx_cons k_628 k_629 k_55 k_630) rfl rfl rfl (by decide +kernel) ⟨Nat.le_of_ble_eq_true rfl, Nat.le_of_ble_eq_true rfl⟩) (hx_preS hx_nil hK) rfl rfl hl.1 rfl (lv_room (Nat.le_of_ble_eq_true rfl)) d_M_isFormat_6 ⟨Nat.zero_le _, Nat.zero_le _⟩) ?_
  obtain ⟨g3, h⟩ := hx_gt h
  exact W.zret hx hb hr (hx_nb g3) (fun t ht hW => ⟨by rw [Option.some.inj h], ht⟩) (fun q hq => nomatch hq) d_M_isFormat_9
abbrev m_M_isWay : Room := { frames := 1, cells := 0, slots := 0, locals := 25 }
set_option maxHeartbeats 4000000 in
set_option maxRecDepth 100000 in
theorem c_M_isWay (l : Launch) (D : va_G) (T3 : hx_T3)  (x1 : Int32) (r0 : Int32) (h : f_M_isWay x1 = some r0) : hx_R l D (hx_ty T3) [] y_M_isWay w_M_isWay m_M_isWay [.int x1] (.int r0) := by
  refine Met.ofW (cc := b_M_isWay) (maxL := 1) (ret := (some .boolean)) (by decide) rfl ?_
  intro p e s m args below meth c s₁ B hml hv
  obtain ⟨hargs, hP, hK⟩ := hv
  have hx := B.exec
  have hb := B.bytes
  have hr := B.returns
  have hts := atoms_spec (ws := w_M_isWay) B.pre
  have hown : s.vm.findClass "HalfFloatsModel" = some m.cls := findClass_of_methodNamed B.named
  have hlocks := B.notSynchronized
  refine W.eq (g2 := F0 m 0 ((lg_sl [.int x1] ++ List.replicate (1 - (lg_sl [.int x1]).length) Slot.unset).toArray) []) (by rw [hargs, lg_entry_eq]) ?_
  have hl := lv_entry ([.int x1]) (n := 1) (Nat.le_of_ble_eq_true rfl)
  generalize (lg_sl ([.int x1]) ++ List.replicate (1 - (lg_sl ([.int x1])).length) Slot.unset).toArray = ls at hl ⊢
  have hl : lv_has ls 1 [(0, .int x1)] := hl
  rw [f_M_isWay] at h
  refine lv_iload_n hx hb d_M_isWay_0 rfl (lv_at hl 0 rfl) ?_
  refine lv_i2l hx hb d_M_isWay_1 rfl ?_
  refine lv_lconst (v := 0) hx hb d_M_isWay_2 rfl ?_
  refine lv_ldc2 (v := 5) hx hb hown (hts _ (hx_cons _ k_693)) d_M_isWay_3 ?_
  obtain ⟨r2, er2, h⟩ := hx_b1s h
  refine hx_rd (va_runS (As := [.long x1.toInt64, .long (0 : Int64), .long (5 : Int64)]) (rest := []) ⟨hx, hb, hml, hown, hts⟩ (c_M_isIn l D T3 x1.toInt64 (0 : Int64) (5 : Int64) _ er2) (va_cwS 3 hts (hx_gS hx_cons k_628 k_629 k_55 k_630) rfl rfl rfl (by decide +kernel) ⟨Nat.le_of_ble_eq_true rfl, Nat.le_of_ble_eq_true rfl⟩) (hx_preS hx_nil hK) rfl rfl hl.1 rfl (lv_room (Nat.le_of_ble_eq_true rfl)) d_M_isWay_6 ⟨Nat.zero_le _, Nat.zero_le _⟩) ?_
  obtain ⟨g3, h⟩ := hx_gt h
  exact W.zret hx hb hr (hx_nb g3) (fun t ht hW => ⟨by rw [Option.some.inj h], ht⟩) (fun q hq => nomatch hq) d_M_isWay_9
abbrev m_M_format : Room := { frames := 2, cells := 0, slots := 0, locals := 45 }
set_option maxHeartbeats 4000000 in
set_option maxRecDepth 100000 in
theorem c_M_format (l : Launch) (D : va_G) (T3 : hx_T3) (bd : Nat → Nat) (sz : Nat) (τ : hm_S) (x1 : Int32) (x2 : Int32) (x3 : Int32) (x4 : Int32) (r0 : Int32) (σ0 : hm_S) (h : f_M_format τ x1 x2 x3 x4 = some (r0, σ0)) : hx_Wi l D (hx_ty T3) y_M_format w_M_format m_M_format [.ref (bd 0), .int x1, .int x2, .int x3, .int x4] sz (hm_W T3 bd τ) r0 (hm_W T3 bd σ0) := by
  refine Met.ofW (cc := b_M_format) (maxL := 5) (ret := (some .int)) (by decide) rfl ?_
  intro p e s m args below meth c s₁ B hml hv
  obtain ⟨hargs, hsz, hP, hK, hD0⟩ := hv
  have hx := B.exec
  have hb := B.bytes
  have hr := B.returns
  have hts := atoms_spec (ws := w_M_format) B.pre
  have hown : s.vm.findClass "HalfFloatsModel" = some m.cls := findClass_of_methodNamed B.named
  have hlocks := B.notSynchronized
  subst hsz
  have hD := hD0.self (sz := s.heap.size)
  generalize hAe : va_A (hm_W T3 bd τ) s.heap.size = A at hD ⊢
  have hA : ∀ q : Nat, s.heap.size ≤ q → A q := fun q h => by rw [← hAe]; exact Or.inr h
  have hS : va_S A s.heap s.heap [] := va_S.rf
  have B_87 : ∀ (σ : hm_S) (x21 : Int32) (x22 : Int32) (x23 : Int32) (x24 : Int32) (H : Heap) (locs : List Loc) (ls : Array Slot), va_P D vwCl (hm_W T3 bd σ) H → va_D A (hm_W T3 bd σ) → va_S A s.heap H locs → lv_has ls 5 [(0, .ref (bd 0)), (1, .int x21), (2, .int x22), (3, .int x23), (4, .int x24)] → f_M_format_87 σ x21 x22 x23 x24 = some (r0, σ0) → W p l e (headSpec w_M_format m_M_format).room s m args below meth c H locs 0 0 (MQ below (hx_Qi D (hx_ty T3) A r0 (hm_W T3 bd σ0)) args s 0 0 A) (F0 m 87 ls []) := by
      intro σ x21 x22 x23 x24 H locs ls hP hD hS hl h
      rw [f_M_format_87] at h
      refine lv_aload_n hx hb d_M_format_87 rfl (lv_at hl 0 rfl) ?_
      refine lv_iload_n hx hb d_M_format_88 rfl (lv_at hl 1 rfl) ?_
      refine lv_iload_n hx hb d_M_format_89 rfl (lv_at hl 2 rfl) ?_
      refine lv_iload_n hx hb d_M_format_90 rfl (lv_at hl 3 rfl) ?_
      refine lv_iload hx hb d_M_format_91 (lv_at hl 4 rfl) ?_
      obtain ⟨q25, eq25, h⟩ := hx_b1s h
      refine hx_wv (va_runV (As := [.int x21, .int x22, .int x23, .int x24]) (rest := []) ⟨hx, hb, hml, hown, hts⟩ (c_M_set l D T3 bd _ σ x21 x22 x23 x24 _ eq25) (cwV 4 hts (hx_gV hx_cons k_552 k_554 k_22 k_55 k_555) rfl rfl rfl (by decide +kernel) ⟨Nat.le_of_ble_eq_true rfl, Nat.le_of_ble_eq_true rfl⟩) (hx_preVw (va_recv hK hP (ci := 5) (q0 := 0) rfl hm_at_M) hP hK hD) rfl rfl hl.1 rfl (lv_room (Nat.le_of_ble_eq_true rfl)) d_M_format_93 ⟨Nat.zero_le _, Nat.zero_le _⟩) hD hS hA (fun H locs hP hD hS => ?_)
      refine lv_iconst (v := 1) hx hb d_M_format_96 (by decide) ?_
      exact W.iret hx hb hr (fun t ht hW => hx_endi h ht hW hP hK hD hS) hS.2.2 d_M_format_97
  have B_65 : ∀ (σ : hm_S) (x15 : Int32) (x16 : Int32) (x17 : Int32) (x18 : Int32) (H : Heap) (locs : List Loc) (ls : Array Slot), va_P D vwCl (hm_W T3 bd σ) H → va_D A (hm_W T3 bd σ) → va_S A s.heap H locs → lv_has ls 5 [(0, .ref (bd 0)), (1, .int x15), (2, .int x16), (3, .int x17), (4, .int x18)] → f_M_format_65 σ x15 x16 x17 x18 = some (r0, σ0) → W p l e (headSpec w_M_format m_M_format).room s m args below meth c H locs 0 0 (MQ below (hx_Qi D (hx_ty T3) A r0 (hm_W T3 bd σ0)) args s 0 0 A) (F0 m 65 ls []) := by
      intro σ x15 x16 x17 x18 H locs ls hP hD hS hl h
      rw [f_M_format_65] at h
      refine lv_aload_n hx hb d_M_format_65 rfl (lv_at hl 0 rfl) ?_
      refine va_get (D := D) (ci := 5) (v := .ref (bd 4)) (C := "HalfFloatsModel") (T := T_M) (N := 21) hx hb hts (hx_up in_M) hown hK hP (0) hm_at_M rfl 3 (by decide) (hts _ (hx_cons _ k_559)) (fun _ h9 => h9) rfl d_M_format_66 ?_
      refine lv_iconst (v := 1) hx hb d_M_format_69 (by decide) ?_
      obtain ⟨g19, h⟩ := hx_gs h
      refine va_iald hx hb hK hP (4) 1 hm_at_rF rfl g19 d_M_format_70 ?_
      refine lv_iload_n hx hb d_M_format_71 rfl (lv_at hl 1 rfl) ?_
      refine lv_icmp_ne (tgt := 87) hx hb d_M_format_72 (by decide) (fun c20 => ?_) (fun c20 => ?_)
      · replace h := hx_in c20 h
        exact B_87 σ x15 x16 x17 x18 _ _ ls hP hD hS (lv_sub hl [0, 1, 2, 3, 4] rfl) h
      · replace h := hx_ip c20 h
        refine lv_aload_n hx hb d_M_format_75 rfl (lv_at hl 0 rfl) ?_
        refine va_get (D := D) (ci := 5) (v := .ref (bd 5)) (C := "HalfFloatsModel") (T := T_M) (N := 21) hx hb hts (hx_up in_M) hown hK hP (0) hm_at_M rfl 4 (by decide) (hts _ (hx_cons _ k_560)) (fun _ h9 => h9) rfl d_M_format_76 ?_
        refine lv_iconst (v := 1) hx hb d_M_format_79 (by decide) ?_
        obtain ⟨g26, h⟩ := hx_gs h
        refine va_iald hx hb hK hP (5) 1 hm_at_rM rfl g26 d_M_format_80 ?_
        refine lv_if_le (tgt := 87) hx hb d_M_format_81 (by decide) (fun c27 => ?_) (fun c27 => ?_)
        · replace h := hx_ip c27 h
          exact B_87 σ x15 x16 x17 x18 _ _ ls hP hD hS (lv_sub hl [0, 1, 2, 3, 4] rfl) h
        · replace h := hx_in c27 h
          refine lv_bipush (v := -2) hx hb d_M_format_84 (by decide) ?_
          exact W.iret hx hb hr (fun t ht hW => hx_endi h ht hW hP hK hD hS) hS.2.2 d_M_format_86
  refine W.eq (g2 := F0 m 0 ((lg_sl [.ref (bd 0), .int x1, .int x2, .int x3, .int x4] ++ List.replicate (5 - (lg_sl [.ref (bd 0), .int x1, .int x2, .int x3, .int x4]).length) Slot.unset).toArray) []) (by rw [hargs, lg_entry_eq]) ?_
  have hl := lv_entry ([.ref (bd 0), .int x1, .int x2, .int x3, .int x4]) (n := 5) (Nat.le_of_ble_eq_true rfl)
  generalize (lg_sl ([.ref (bd 0), .int x1, .int x2, .int x3, .int x4]) ++ List.replicate (5 - (lg_sl ([.ref (bd 0), .int x1, .int x2, .int x3, .int x4])).length) Slot.unset).toArray = ls at hl ⊢
  have hl : lv_has ls 5 [(0, .ref (bd 0)), (1, .int x1), (2, .int x2), (3, .int x3), (4, .int x4)] := hl
  rw [f_M_format] at h
  refine lv_iload_n hx hb d_M_format_0 rfl (lv_at hl 1 rfl) ?_
  obtain ⟨r5, er5, h⟩ := hx_b1s h
  refine hx_rd (va_runS (As := [.int x1]) (rest := []) ⟨hx, hb, hml, hown, hts⟩ (c_M_isFormat l D T3 x1 _ er5) (va_cwS 1 hts (hx_gS hx_cons k_624 k_625 k_55 k_626) rfl rfl rfl (by decide +kernel) ⟨Nat.le_of_ble_eq_true rfl, Nat.le_of_ble_eq_true rfl⟩) (hx_preS hx_nil hK) rfl rfl hl.1 rfl (lv_room (Nat.le_of_ble_eq_true rfl)) d_M_format_1 ⟨Nat.zero_le _, Nat.zero_le _⟩) ?_
  refine lv_if_eq (tgt := 84) hx hb d_M_format_4 (by decide) (fun c6 => ?_) (fun c6 => ?_)
  · replace h := hx_ip c6 h
    refine lv_bipush (v := -2) hx hb d_M_format_84 (by decide) ?_
    exact W.iret hx hb hr (fun t ht hW => hx_endi h ht hW hP hK hD hS) hS.2.2 d_M_format_86
  · replace h := hx_in c6 h
    refine lv_iload_n hx hb d_M_format_7 rfl (lv_at hl 2 rfl) ?_
    refine lv_i2l hx hb d_M_format_8 rfl ?_
    refine lv_ldc2 (v := 2) hx hb hown (hts _ (hx_cons _ k_631)) d_M_format_9 ?_
    refine lv_ldc2 (v := 8) hx hb hown (hts _ (hx_cons _ k_632)) d_M_format_12 ?_
    obtain ⟨r7, er7, h⟩ := hx_b1s h
    refine hx_rd (va_runS (As := [.long x2.toInt64, .long (2 : Int64), .long (8 : Int64)]) (rest := []) ⟨hx, hb, hml, hown, hts⟩ (c_M_isIn l D T3 x2.toInt64 (2 : Int64) (8 : Int64) _ er7) (va_cwS 3 hts (hx_gS hx_cons k_628 k_629 k_55 k_630) rfl rfl rfl (by decide +kernel) ⟨Nat.le_of_ble_eq_true rfl, Nat.le_of_ble_eq_true rfl⟩) (hx_preS hx_nil hK) rfl rfl hl.1 rfl (lv_room (Nat.le_of_ble_eq_true rfl)) d_M_format_15 ⟨Nat.zero_le _, Nat.zero_le _⟩) ?_
    refine lv_if_eq (tgt := 84) hx hb d_M_format_18 (by decide) (fun c8 => ?_) (fun c8 => ?_)
    · replace h := hx_ip c8 h
      refine lv_bipush (v := -2) hx hb d_M_format_84 (by decide) ?_
      exact W.iret hx hb hr (fun t ht hW => hx_endi h ht hW hP hK hD hS) hS.2.2 d_M_format_86
    · replace h := hx_in c8 h
      refine lv_iload_n hx hb d_M_format_21 rfl (lv_at hl 3 rfl) ?_
      refine lv_i2l hx hb d_M_format_22 rfl ?_
      refine lv_lconst (v := 1) hx hb d_M_format_23 rfl ?_
      refine lv_ldc2 (v := 23) hx hb hown (hts _ (hx_cons _ k_633)) d_M_format_24 ?_
      obtain ⟨r9, er9, h⟩ := hx_b1s h
      refine hx_rd (va_runS (As := [.long x3.toInt64, .long (1 : Int64), .long (23 : Int64)]) (rest := []) ⟨hx, hb, hml, hown, hts⟩ (c_M_isIn l D T3 x3.toInt64 (1 : Int64) (23 : Int64) _ er9) (va_cwS 3 hts (hx_gS hx_cons k_628 k_629 k_55 k_630) rfl rfl rfl (by decide +kernel) ⟨Nat.le_of_ble_eq_true rfl, Nat.le_of_ble_eq_true rfl⟩) (hx_preS hx_nil hK) rfl rfl hl.1 rfl (lv_room (Nat.le_of_ble_eq_true rfl)) d_M_format_27 ⟨Nat.zero_le _, Nat.zero_le _⟩) ?_
      refine lv_if_eq (tgt := 84) hx hb d_M_format_30 (by decide) (fun c10 => ?_) (fun c10 => ?_)
      · replace h := hx_ip c10 h
        refine lv_bipush (v := -2) hx hb d_M_format_84 (by decide) ?_
        exact W.iret hx hb hr (fun t ht hW => hx_endi h ht hW hP hK hD hS) hS.2.2 d_M_format_86
      · replace h := hx_in c10 h
        refine lv_iload hx hb d_M_format_33 (lv_at hl 4 rfl) ?_
        refine lv_i2l hx hb d_M_format_35 rfl ?_
        refine lv_lconst (v := 0) hx hb d_M_format_36 rfl ?_
        refine lv_ldc2 (v := 2) hx hb hown (hts _ (hx_cons _ k_631)) d_M_format_37 ?_
        obtain ⟨r11, er11, h⟩ := hx_b1s h
        refine hx_rd (va_runS (As := [.long x4.toInt64, .long (0 : Int64), .long (2 : Int64)]) (rest := []) ⟨hx, hb, hml, hown, hts⟩ (c_M_isIn l D T3 x4.toInt64 (0 : Int64) (2 : Int64) _ er11) (va_cwS 3 hts (hx_gS hx_cons k_628 k_629 k_55 k_630) rfl rfl rfl (by decide +kernel) ⟨Nat.le_of_ble_eq_true rfl, Nat.le_of_ble_eq_true rfl⟩) (hx_preS hx_nil hK) rfl rfl hl.1 rfl (lv_room (Nat.le_of_ble_eq_true rfl)) d_M_format_40 ⟨Nat.zero_le _, Nat.zero_le _⟩) ?_
        refine lv_if_eq (tgt := 84) hx hb d_M_format_43 (by decide) (fun c12 => ?_) (fun c12 => ?_)
        · replace h := hx_ip c12 h
          refine lv_bipush (v := -2) hx hb d_M_format_84 (by decide) ?_
          exact W.iret hx hb hr (fun t ht hW => hx_endi h ht hW hP hK hD hS) hS.2.2 d_M_format_86
        · replace h := hx_in c12 h
          refine lv_aload_n hx hb d_M_format_46 rfl (lv_at hl 0 rfl) ?_
          refine va_get (D := D) (ci := 5) (v := .ref (bd 4)) (C := "HalfFloatsModel") (T := T_M) (N := 21) hx hb hts (hx_up in_M) hown hK hP (0) hm_at_M rfl 3 (by decide) (hts _ (hx_cons _ k_559)) (fun _ h9 => h9) rfl d_M_format_47 ?_
          refine lv_iconst (v := 0) hx hb d_M_format_50 (by decide) ?_
          obtain ⟨g13, h⟩ := hx_gs h
          refine va_iald hx hb hK hP (4) 1 hm_at_rF rfl g13 d_M_format_51 ?_
          refine lv_iload_n hx hb d_M_format_52 rfl (lv_at hl 1 rfl) ?_
          refine lv_icmp_ne (tgt := 65) hx hb d_M_format_53 (by decide) (fun c14 => ?_) (fun c14 => ?_)
          · replace h := hx_in c14 h
            exact B_65 τ x1 x2 x3 x4 _ _ ls hP hD hS (lv_sub hl [0, 1, 2, 3, 4] rfl) h
          · replace h := hx_ip c14 h
            refine lv_aload_n hx hb d_M_format_56 rfl (lv_at hl 0 rfl) ?_
            refine va_get (D := D) (ci := 5) (v := .ref (bd 5)) (C := "HalfFloatsModel") (T := T_M) (N := 21) hx hb hts (hx_up in_M) hown hK hP (0) hm_at_M rfl 4 (by decide) (hts _ (hx_cons _ k_560)) (fun _ h9 => h9) rfl d_M_format_57 ?_
            refine lv_iconst (v := 0) hx hb d_M_format_60 (by decide) ?_
            obtain ⟨g28, h⟩ := hx_gs h
            refine va_iald hx hb hK hP (5) 1 hm_at_rM rfl g28 d_M_format_61 ?_
            refine lv_if_gt (tgt := 84) hx hb d_M_format_62 (by decide) (fun c29 => ?_) (fun c29 => ?_)
            · replace h := hx_ip c29 h
              refine lv_bipush (v := -2) hx hb d_M_format_84 (by decide) ?_
              exact W.iret hx hb hr (fun t ht hW => hx_endi h ht hW hP hK hD hS) hS.2.2 d_M_format_86
            · replace h := hx_in c29 h
              exact B_65 τ x1 x2 x3 x4 _ _ ls hP hD hS (lv_sub hl [0, 1, 2, 3, 4] rfl) h
abbrev m_M_signBit : Room := { frames := 0, cells := 0, slots := 0, locals := 0 }
set_option maxHeartbeats 4000000 in
set_option maxRecDepth 100000 in
theorem c_M_signBit (l : Launch) (D : va_G) (T3 : hx_T3) (bd : Nat → Nat) (τ : hm_S) (x1 : Int32) (r0 : Int64) (h : f_M_signBit τ x1 = some r0) : hx_R l D (hx_ty T3) (hm_W T3 bd τ) y_M_signBit w_M_signBit m_M_signBit [.ref (bd 0), .int x1] (.long r0) := by
  refine Met.ofW (cc := b_M_signBit) (maxL := 2) (ret := (some .long)) (by decide) rfl ?_
  intro p e s m args below meth c s₁ B hml hv
  obtain ⟨hargs, hP, hK⟩ := hv
  have hx := B.exec
  have hb := B.bytes
  have hr := B.returns
  have hts := atoms_spec (ws := w_M_signBit) B.pre
  have hown : s.vm.findClass "HalfFloatsModel" = some m.cls := findClass_of_methodNamed B.named
  have hlocks := B.notSynchronized
  refine W.eq (g2 := F0 m 0 ((lg_sl [.ref (bd 0), .int x1] ++ List.replicate (2 - (lg_sl [.ref (bd 0), .int x1]).length) Slot.unset).toArray) []) (by rw [hargs, lg_entry_eq]) ?_
  have hl := lv_entry ([.ref (bd 0), .int x1]) (n := 2) (Nat.le_of_ble_eq_true rfl)
  generalize (lg_sl ([.ref (bd 0), .int x1]) ++ List.replicate (2 - (lg_sl ([.ref (bd 0), .int x1])).length) Slot.unset).toArray = ls at hl ⊢
  have hl : lv_has ls 2 [(0, .ref (bd 0)), (1, .int x1)] := hl
  rw [f_M_signBit] at h
  refine lv_lconst (v := 1) hx hb d_M_signBit_0 rfl ?_
  refine lv_aload_n hx hb d_M_signBit_1 rfl (lv_at hl 0 rfl) ?_
  refine va_get (D := D) (ci := 5) (v := .ref (bd 1)) (C := "HalfFloatsModel") (T := T_M) (N := 21) hx hb hts (hx_up in_M) hown hK hP (0) hm_at_M rfl 0 (by decide) (hts _ (hx_cons _ k_556)) (fun _ h9 => h9) rfl d_M_signBit_2 ?_
  refine lv_iload_n hx hb d_M_signBit_5 rfl (lv_at hl 1 rfl) ?_
  obtain ⟨g2, h⟩ := hx_gs h
  refine va_iald hx hb hK hP (1) 1 hm_at_fE rfl g2 d_M_signBit_6 ?_
  refine lv_aload_n hx hb d_M_signBit_7 rfl (lv_at hl 0 rfl) ?_
  refine va_get (D := D) (ci := 5) (v := .ref (bd 2)) (C := "HalfFloatsModel") (T := T_M) (N := 21) hx hb hts (hx_up in_M) hown hK hP (0) hm_at_M rfl 1 (by decide) (hts _ (hx_cons _ k_557)) (fun _ h9 => h9) rfl d_M_signBit_8 ?_
  refine lv_iload_n hx hb d_M_signBit_11 rfl (lv_at hl 1 rfl) ?_
  obtain ⟨g3, h⟩ := hx_gs h
  refine va_iald hx hb hK hP (2) 1 hm_at_fF rfl g3 d_M_signBit_12 ?_
  refine lv_iadd hx hb d_M_signBit_13 ?_
  refine lv_lshl hx hb d_M_signBit_14 rfl ?_
  exact W.lret hx hb hr (fun t ht hW => ⟨by rw [Option.some.inj h], ht⟩) (fun q hq => nomatch hq) d_M_signBit_15
abbrev m_M_bias : Room := { frames := 0, cells := 0, slots := 0, locals := 0 }
set_option maxHeartbeats 4000000 in
set_option maxRecDepth 100000 in
theorem c_M_bias (l : Launch) (D : va_G) (T3 : hx_T3) (bd : Nat → Nat) (τ : hm_S) (x1 : Int32) (r0 : Int32) (h : f_M_bias τ x1 = some r0) : hx_R l D (hx_ty T3) (hm_W T3 bd τ) y_M_bias w_M_bias m_M_bias [.ref (bd 0), .int x1] (.int r0) := by
  refine Met.ofW (cc := b_M_bias) (maxL := 2) (ret := (some .int)) (by decide) rfl ?_
  intro p e s m args below meth c s₁ B hml hv
  obtain ⟨hargs, hP, hK⟩ := hv
  have hx := B.exec
  have hb := B.bytes
  have hr := B.returns
  have hts := atoms_spec (ws := w_M_bias) B.pre
  have hown : s.vm.findClass "HalfFloatsModel" = some m.cls := findClass_of_methodNamed B.named
  have hlocks := B.notSynchronized
  refine W.eq (g2 := F0 m 0 ((lg_sl [.ref (bd 0), .int x1] ++ List.replicate (2 - (lg_sl [.ref (bd 0), .int x1]).length) Slot.unset).toArray) []) (by rw [hargs, lg_entry_eq]) ?_
  have hl := lv_entry ([.ref (bd 0), .int x1]) (n := 2) (Nat.le_of_ble_eq_true rfl)
  generalize (lg_sl ([.ref (bd 0), .int x1]) ++ List.replicate (2 - (lg_sl ([.ref (bd 0), .int x1])).length) Slot.unset).toArray = ls at hl ⊢
  have hl : lv_has ls 2 [(0, .ref (bd 0)), (1, .int x1)] := hl
  rw [f_M_bias] at h
  refine lv_iconst (v := 1) hx hb d_M_bias_0 (by decide) ?_
  refine lv_aload_n hx hb d_M_bias_1 rfl (lv_at hl 0 rfl) ?_
  refine va_get (D := D) (ci := 5) (v := .ref (bd 1)) (C := "HalfFloatsModel") (T := T_M) (N := 21) hx hb hts (hx_up in_M) hown hK hP (0) hm_at_M rfl 0 (by decide) (hts _ (hx_cons _ k_556)) (fun _ h9 => h9) rfl d_M_bias_2 ?_
  refine lv_iload_n hx hb d_M_bias_5 rfl (lv_at hl 1 rfl) ?_
  obtain ⟨g2, h⟩ := hx_gs h
  refine va_iald hx hb hK hP (1) 1 hm_at_fE rfl g2 d_M_bias_6 ?_
  refine lv_iconst (v := 1) hx hb d_M_bias_7 (by decide) ?_
  refine lv_isub hx hb d_M_bias_8 ?_
  refine lv_ishl hx hb d_M_bias_9 ?_
  refine lv_iconst (v := 1) hx hb d_M_bias_10 (by decide) ?_
  refine lv_isub hx hb d_M_bias_11 ?_
  exact W.iret hx hb hr (fun t ht hW => ⟨by rw [Option.some.inj h], ht⟩) (fun q hq => nomatch hq) d_M_bias_12
abbrev m_M_limit : Room := { frames := 1, cells := 0, slots := 0, locals := 21 }
set_option maxHeartbeats 4000000 in
set_option maxRecDepth 100000 in
theorem c_M_limit (l : Launch) (D : va_G) (T3 : hx_T3) (bd : Nat → Nat) (τ : hm_S) (x1 : Int32) (r0 : Int64) (h : f_M_limit τ x1 = some r0) : hx_R l D (hx_ty T3) (hm_W T3 bd τ) y_M_limit w_M_limit m_M_limit [.ref (bd 0), .int x1] (.long r0) := by
  refine Met.ofW (cc := b_M_limit) (maxL := 2) (ret := (some .long)) (by decide) rfl ?_
  intro p e s m args below meth c s₁ B hml hv
  obtain ⟨hargs, hP, hK⟩ := hv
  have hx := B.exec
  have hb := B.bytes
  have hr := B.returns
  have hts := atoms_spec (ws := w_M_limit) B.pre
  have hown : s.vm.findClass "HalfFloatsModel" = some m.cls := findClass_of_methodNamed B.named
  have hlocks := B.notSynchronized
  refine W.eq (g2 := F0 m 0 ((lg_sl [.ref (bd 0), .int x1] ++ List.replicate (2 - (lg_sl [.ref (bd 0), .int x1]).length) Slot.unset).toArray) []) (by rw [hargs, lg_entry_eq]) ?_
  have hl := lv_entry ([.ref (bd 0), .int x1]) (n := 2) (Nat.le_of_ble_eq_true rfl)
  generalize (lg_sl ([.ref (bd 0), .int x1]) ++ List.replicate (2 - (lg_sl ([.ref (bd 0), .int x1])).length) Slot.unset).toArray = ls at hl ⊢
  have hl : lv_has ls 2 [(0, .ref (bd 0)), (1, .int x1)] := hl
  rw [f_M_limit] at h
  refine lv_aload_n hx hb d_M_limit_0 rfl (lv_at hl 0 rfl) ?_
  refine va_get (D := D) (ci := 5) (v := .ref (bd 3)) (C := "HalfFloatsModel") (T := T_M) (N := 21) hx hb hts (hx_up in_M) hown hK hP (0) hm_at_M rfl 2 (by decide) (hts _ (hx_cons _ k_558)) (fun _ h9 => h9) rfl d_M_limit_1 ?_
  refine lv_iload_n hx hb d_M_limit_4 rfl (lv_at hl 1 rfl) ?_
  obtain ⟨g2, h⟩ := hx_gs h
  refine va_iald hx hb hK hP (3) 1 hm_at_fK rfl g2 d_M_limit_5 ?_
  refine lv_if_ne (tgt := 29) hx hb d_M_limit_6 (by decide) (fun c3 => ?_) (fun c3 => ?_)
  · replace h := hx_in c3 h
    refine lv_aload_n hx hb d_M_limit_29 rfl (lv_at hl 0 rfl) ?_
    refine lv_iload_n hx hb d_M_limit_30 rfl (lv_at hl 1 rfl) ?_
    obtain ⟨r4, er4, h⟩ := hx_b1s h
    refine hx_rd (va_runV (As := [.int x1]) (rest := []) ⟨hx, hb, hml, hown, hts⟩ (c_M_signBit l D T3 bd τ x1 _ er4) (cwV 1 hts (hx_gV hx_cons k_643 k_645 k_24 k_55 k_646) rfl rfl rfl (by decide +kernel) ⟨Nat.le_of_ble_eq_true rfl, Nat.le_of_ble_eq_true rfl⟩) (hx_preV (va_recv hK hP (ci := 5) (q0 := 0) rfl hm_at_M) hP hK) rfl rfl hl.1 rfl (lv_room (Nat.le_of_ble_eq_true rfl)) d_M_limit_31 ⟨Nat.zero_le _, Nat.zero_le _⟩) ?_
    refine lv_lconst (v := 1) hx hb d_M_limit_34 rfl ?_
    refine lv_lsub hx hb d_M_limit_35 ?_
    exact W.lret hx hb hr (fun t ht hW => ⟨by rw [Option.some.inj h], ht⟩) (fun q hq => nomatch hq) d_M_limit_36
  · replace h := hx_ip c3 h
    refine lv_lconst (v := 1) hx hb d_M_limit_9 rfl ?_
    refine lv_aload_n hx hb d_M_limit_10 rfl (lv_at hl 0 rfl) ?_
    refine va_get (D := D) (ci := 5) (v := .ref (bd 1)) (C := "HalfFloatsModel") (T := T_M) (N := 21) hx hb hts (hx_up in_M) hown hK hP (0) hm_at_M rfl 0 (by decide) (hts _ (hx_cons _ k_556)) (fun _ h9 => h9) rfl d_M_limit_11 ?_
    refine lv_iload_n hx hb d_M_limit_14 rfl (lv_at hl 1 rfl) ?_
    obtain ⟨g5, h⟩ := hx_gs h
    refine va_iald hx hb hK hP (1) 1 hm_at_fE rfl g5 d_M_limit_15 ?_
    refine lv_lshl hx hb d_M_limit_16 rfl ?_
    refine lv_lconst (v := 1) hx hb d_M_limit_17 rfl ?_
    refine lv_lsub hx hb d_M_limit_18 ?_
    refine lv_aload_n hx hb d_M_limit_19 rfl (lv_at hl 0 rfl) ?_
    refine va_get (D := D) (ci := 5) (v := .ref (bd 2)) (C := "HalfFloatsModel") (T := T_M) (N := 21) hx hb hts (hx_up in_M) hown hK hP (0) hm_at_M rfl 1 (by decide) (hts _ (hx_cons _ k_557)) (fun _ h9 => h9) rfl d_M_limit_20 ?_
    refine lv_iload_n hx hb d_M_limit_23 rfl (lv_at hl 1 rfl) ?_
    obtain ⟨g6, h⟩ := hx_gs h
    refine va_iald hx hb hK hP (2) 1 hm_at_fF rfl g6 d_M_limit_24 ?_
    refine lv_lshl hx hb d_M_limit_25 rfl ?_
    refine lv_goto (tgt := 36) hx hb d_M_limit_26 (by decide) ?_
    exact W.lret hx hb hr (fun t ht hW => ⟨by rw [Option.some.inj h], ht⟩) (fun q hq => nomatch hq) d_M_limit_36
abbrev m_M_nan : Room := { frames := 2, cells := 0, slots := 0, locals := 42 }
set_option maxHeartbeats 4000000 in
set_option maxRecDepth 100000 in
theorem c_M_nan (l : Launch) (D : va_G) (T3 : hx_T3) (bd : Nat → Nat) (τ : hm_S) (x1 : Int32) (r0 : Int64) (h : f_M_nan τ x1 = some r0) : hx_R l D (hx_ty T3) (hm_W T3 bd τ) y_M_nan w_M_nan m_M_nan [.ref (bd 0), .int x1] (.long r0) := by
  refine Met.ofW (cc := b_M_nan) (maxL := 2) (ret := (some .long)) (by decide) rfl ?_
  intro p e s m args below meth c s₁ B hml hv
  obtain ⟨hargs, hP, hK⟩ := hv
  have hx := B.exec
  have hb := B.bytes
  have hr := B.returns
  have hts := atoms_spec (ws := w_M_nan) B.pre
  have hown : s.vm.findClass "HalfFloatsModel" = some m.cls := findClass_of_methodNamed B.named
  have hlocks := B.notSynchronized
  refine W.eq (g2 := F0 m 0 ((lg_sl [.ref (bd 0), .int x1] ++ List.replicate (2 - (lg_sl [.ref (bd 0), .int x1]).length) Slot.unset).toArray) []) (by rw [hargs, lg_entry_eq]) ?_
  have hl := lv_entry ([.ref (bd 0), .int x1]) (n := 2) (Nat.le_of_ble_eq_true rfl)
  generalize (lg_sl ([.ref (bd 0), .int x1]) ++ List.replicate (2 - (lg_sl ([.ref (bd 0), .int x1])).length) Slot.unset).toArray = ls at hl ⊢
  have hl : lv_has ls 2 [(0, .ref (bd 0)), (1, .int x1)] := hl
  rw [f_M_nan] at h
  refine lv_aload_n hx hb d_M_nan_0 rfl (lv_at hl 0 rfl) ?_
  refine va_get (D := D) (ci := 5) (v := .ref (bd 3)) (C := "HalfFloatsModel") (T := T_M) (N := 21) hx hb hts (hx_up in_M) hown hK hP (0) hm_at_M rfl 2 (by decide) (hts _ (hx_cons _ k_558)) (fun _ h9 => h9) rfl d_M_nan_1 ?_
  refine lv_iload_n hx hb d_M_nan_4 rfl (lv_at hl 1 rfl) ?_
  obtain ⟨g2, h⟩ := hx_gs h
  refine va_iald hx hb hK hP (3) 1 hm_at_fK rfl g2 d_M_nan_5 ?_
  refine lv_if_ne (tgt := 28) hx hb d_M_nan_6 (by decide) (fun c3 => ?_) (fun c3 => ?_)
  · replace h := hx_in c3 h
    refine lv_aload_n hx hb d_M_nan_28 rfl (lv_at hl 0 rfl) ?_
    refine lv_iload_n hx hb d_M_nan_29 rfl (lv_at hl 1 rfl) ?_
    obtain ⟨r4, er4, h⟩ := hx_b1s h
    refine hx_rd (va_runV (As := [.int x1]) (rest := []) ⟨hx, hb, hml, hown, hts⟩ (c_M_limit l D T3 bd τ x1 _ er4) (cwV 1 hts (hx_gV hx_cons k_639 k_641 k_23 k_55 k_642) rfl rfl rfl (by decide +kernel) ⟨Nat.le_of_ble_eq_true rfl, Nat.le_of_ble_eq_true rfl⟩) (hx_preV (va_recv hK hP (ci := 5) (q0 := 0) rfl hm_at_M) hP hK) rfl rfl hl.1 rfl (lv_room (Nat.le_of_ble_eq_true rfl)) d_M_nan_30 ⟨Nat.zero_le _, Nat.zero_le _⟩) ?_
    exact W.lret hx hb hr (fun t ht hW => ⟨by rw [Option.some.inj h], ht⟩) (fun q hq => nomatch hq) d_M_nan_33
  · replace h := hx_ip c3 h
    refine lv_aload_n hx hb d_M_nan_9 rfl (lv_at hl 0 rfl) ?_
    refine lv_iload_n hx hb d_M_nan_10 rfl (lv_at hl 1 rfl) ?_
    obtain ⟨r5, er5, h⟩ := hx_b1s h
    refine hx_rd (va_runV (As := [.int x1]) (rest := []) ⟨hx, hb, hml, hown, hts⟩ (c_M_limit l D T3 bd τ x1 _ er5) (cwV 1 hts (hx_gV hx_cons k_639 k_641 k_23 k_55 k_642) rfl rfl rfl (by decide +kernel) ⟨Nat.le_of_ble_eq_true rfl, Nat.le_of_ble_eq_true rfl⟩) (hx_preV (va_recv hK hP (ci := 5) (q0 := 0) rfl hm_at_M) hP hK) rfl rfl hl.1 rfl (lv_room (Nat.le_of_ble_eq_true rfl)) d_M_nan_11 ⟨Nat.zero_le _, Nat.zero_le _⟩) ?_
    refine lv_lconst (v := 1) hx hb d_M_nan_14 rfl ?_
    refine lv_aload_n hx hb d_M_nan_15 rfl (lv_at hl 0 rfl) ?_
    refine va_get (D := D) (ci := 5) (v := .ref (bd 2)) (C := "HalfFloatsModel") (T := T_M) (N := 21) hx hb hts (hx_up in_M) hown hK hP (0) hm_at_M rfl 1 (by decide) (hts _ (hx_cons _ k_557)) (fun _ h9 => h9) rfl d_M_nan_16 ?_
    refine lv_iload_n hx hb d_M_nan_19 rfl (lv_at hl 1 rfl) ?_
    obtain ⟨g6, h⟩ := hx_gs h
    refine va_iald hx hb hK hP (2) 1 hm_at_fF rfl g6 d_M_nan_20 ?_
    refine lv_iconst (v := 1) hx hb d_M_nan_21 (by decide) ?_
    refine lv_isub hx hb d_M_nan_22 ?_
    refine lv_lshl hx hb d_M_nan_23 rfl ?_
    refine lv_lor hx hb d_M_nan_24 ?_
    refine lv_goto (tgt := 33) hx hb d_M_nan_25 (by decide) ?_
    exact W.lret hx hb hr (fun t ht hW => ⟨by rw [Option.some.inj h], ht⟩) (fun q hq => nomatch hq) d_M_nan_33
abbrev m_M_form : Room := { frames := 3, cells := 0, slots := 0, locals := 63 }
set_option maxHeartbeats 4000000 in
set_option maxRecDepth 100000 in
theorem c_M_form (l : Launch) (D : va_G) (T3 : hx_T3) (bd : Nat → Nat) (τ : hm_S) (x1 : Int32) (x2 : Int32) (r0 : Int32) (h : f_M_form τ x1 x2 = some r0) : hx_R l D (hx_ty T3) (hm_W T3 bd τ) y_M_form w_M_form m_M_form [.ref (bd 0), .int x1, .int x2] (.int r0) := by
  refine Met.ofW (cc := b_M_form) (maxL := 3) (ret := (some .int)) (by decide) rfl ?_
  intro p e s m args below meth c s₁ B hml hv
  obtain ⟨hargs, hP, hK⟩ := hv
  have hx := B.exec
  have hb := B.bytes
  have hr := B.returns
  have hts := atoms_spec (ws := w_M_form) B.pre
  have hown : s.vm.findClass "HalfFloatsModel" = some m.cls := findClass_of_methodNamed B.named
  have hlocks := B.notSynchronized
  refine W.eq (g2 := F0 m 0 ((lg_sl [.ref (bd 0), .int x1, .int x2] ++ List.replicate (3 - (lg_sl [.ref (bd 0), .int x1, .int x2]).length) Slot.unset).toArray) []) (by rw [hargs, lg_entry_eq]) ?_
  have hl := lv_entry ([.ref (bd 0), .int x1, .int x2]) (n := 3) (Nat.le_of_ble_eq_true rfl)
  generalize (lg_sl ([.ref (bd 0), .int x1, .int x2]) ++ List.replicate (3 - (lg_sl ([.ref (bd 0), .int x1, .int x2])).length) Slot.unset).toArray = ls at hl ⊢
  have hl : lv_has ls 3 [(0, .ref (bd 0)), (1, .int x1), (2, .int x2)] := hl
  rw [f_M_form] at h
  refine lv_iload_n hx hb d_M_form_0 rfl (lv_at hl 1 rfl) ?_
  obtain ⟨r3, er3, h⟩ := hx_b1s h
  refine hx_rd (va_runS (As := [.int x1]) (rest := []) ⟨hx, hb, hml, hown, hts⟩ (c_M_isFormat l D T3 x1 _ er3) (va_cwS 1 hts (hx_gS hx_cons k_624 k_625 k_55 k_626) rfl rfl rfl (by decide +kernel) ⟨Nat.le_of_ble_eq_true rfl, Nat.le_of_ble_eq_true rfl⟩) (hx_preS hx_nil hK) rfl rfl hl.1 rfl (lv_room (Nat.le_of_ble_eq_true rfl)) d_M_form_1 ⟨Nat.zero_le _, Nat.zero_le _⟩) ?_
  refine lv_if_eq (tgt := 19) hx hb d_M_form_4 (by decide) (fun c4 => ?_) (fun c4 => ?_)
  · replace h := hx_ip c4 h
    refine lv_bipush (v := -2) hx hb d_M_form_19 (by decide) ?_
    exact W.iret hx hb hr (fun t ht hW => ⟨by rw [Option.some.inj h], ht⟩) (fun q hq => nomatch hq) d_M_form_21
  · replace h := hx_in c4 h
    refine lv_iload_n hx hb d_M_form_7 rfl (lv_at hl 2 rfl) ?_
    refine lv_i2l hx hb d_M_form_8 rfl ?_
    refine lv_lconst (v := 0) hx hb d_M_form_9 rfl ?_
    refine lv_ldc2 (v := 4) hx hb hown (hts _ (hx_cons _ k_638)) d_M_form_10 ?_
    obtain ⟨r5, er5, h⟩ := hx_b1s h
    refine hx_rd (va_runS (As := [.long x2.toInt64, .long (0 : Int64), .long (4 : Int64)]) (rest := []) ⟨hx, hb, hml, hown, hts⟩ (c_M_isIn l D T3 x2.toInt64 (0 : Int64) (4 : Int64) _ er5) (va_cwS 3 hts (hx_gS hx_cons k_628 k_629 k_55 k_630) rfl rfl rfl (by decide +kernel) ⟨Nat.le_of_ble_eq_true rfl, Nat.le_of_ble_eq_true rfl⟩) (hx_preS hx_nil hK) rfl rfl hl.1 rfl (lv_room (Nat.le_of_ble_eq_true rfl)) d_M_form_13 ⟨Nat.zero_le _, Nat.zero_le _⟩) ?_
    refine lv_if_ne (tgt := 22) hx hb d_M_form_16 (by decide) (fun c6 => ?_) (fun c6 => ?_)
    · replace h := hx_in c6 h
      refine lv_iload_n hx hb d_M_form_22 rfl (lv_at hl 2 rfl) ?_
      by_cases c7 : x2 = 0
      · replace h := hx_ip c7 h
        refine lv_tableIn (tgt := 52) hx hb d_M_form_23 (by rw [c7]; decide) (by rw [c7]; decide) (by rw [c7]; rfl) (by decide) ?_
        refine lv_aload_n hx hb d_M_form_52 rfl (lv_at hl 0 rfl) ?_
        refine va_get (D := D) (ci := 5) (v := .ref (bd 1)) (C := "HalfFloatsModel") (T := T_M) (N := 21) hx hb hts (hx_up in_M) hown hK hP (0) hm_at_M rfl 0 (by decide) (hts _ (hx_cons _ k_556)) (fun _ h9 => h9) rfl d_M_form_53 ?_
        refine lv_iload_n hx hb d_M_form_56 rfl (lv_at hl 1 rfl) ?_
        obtain ⟨g8, h⟩ := hx_gs h
        refine va_iald hx hb hK hP (1) 1 hm_at_fE rfl g8 d_M_form_57 ?_
        exact W.iret hx hb hr (fun t ht hW => ⟨by rw [Option.some.inj h], ht⟩) (fun q hq => nomatch hq) d_M_form_58
      · replace h := hx_in c7 h
        by_cases c9 : x2 = 1
        · replace h := hx_ip c9 h
          refine lv_tableIn (tgt := 59) hx hb d_M_form_23 (by rw [c9]; decide) (by rw [c9]; decide) (by rw [c9]; rfl) (by decide) ?_
          refine lv_aload_n hx hb d_M_form_59 rfl (lv_at hl 0 rfl) ?_
          refine va_get (D := D) (ci := 5) (v := .ref (bd 2)) (C := "HalfFloatsModel") (T := T_M) (N := 21) hx hb hts (hx_up in_M) hown hK hP (0) hm_at_M rfl 1 (by decide) (hts _ (hx_cons _ k_557)) (fun _ h9 => h9) rfl d_M_form_60 ?_
          refine lv_iload_n hx hb d_M_form_63 rfl (lv_at hl 1 rfl) ?_
          obtain ⟨g10, h⟩ := hx_gs h
          refine va_iald hx hb hK hP (2) 1 hm_at_fF rfl g10 d_M_form_64 ?_
          exact W.iret hx hb hr (fun t ht hW => ⟨by rw [Option.some.inj h], ht⟩) (fun q hq => nomatch hq) d_M_form_65
        · replace h := hx_in c9 h
          by_cases c11 : x2 = 2
          · replace h := hx_ip c11 h
            refine lv_tableIn (tgt := 66) hx hb d_M_form_23 (by rw [c11]; decide) (by rw [c11]; decide) (by rw [c11]; rfl) (by decide) ?_
            refine lv_aload_n hx hb d_M_form_66 rfl (lv_at hl 0 rfl) ?_
            refine va_get (D := D) (ci := 5) (v := .ref (bd 3)) (C := "HalfFloatsModel") (T := T_M) (N := 21) hx hb hts (hx_up in_M) hown hK hP (0) hm_at_M rfl 2 (by decide) (hts _ (hx_cons _ k_558)) (fun _ h9 => h9) rfl d_M_form_67 ?_
            refine lv_iload_n hx hb d_M_form_70 rfl (lv_at hl 1 rfl) ?_
            obtain ⟨g12, h⟩ := hx_gs h
            refine va_iald hx hb hK hP (3) 1 hm_at_fK rfl g12 d_M_form_71 ?_
            exact W.iret hx hb hr (fun t ht hW => ⟨by rw [Option.some.inj h], ht⟩) (fun q hq => nomatch hq) d_M_form_72
          · replace h := hx_in c11 h
            by_cases c13 : x2 = 3
            · replace h := hx_ip c13 h
              refine lv_tableIn (tgt := 73) hx hb d_M_form_23 (by rw [c13]; decide) (by rw [c13]; decide) (by rw [c13]; rfl) (by decide) ?_
              refine lv_aload_n hx hb d_M_form_73 rfl (lv_at hl 0 rfl) ?_
              refine lv_iload_n hx hb d_M_form_74 rfl (lv_at hl 1 rfl) ?_
              obtain ⟨r14, er14, h⟩ := hx_b1s h
              refine hx_rd (va_runV (As := [.int x1]) (rest := []) ⟨hx, hb, hml, hown, hts⟩ (c_M_limit l D T3 bd τ x1 _ er14) (cwV 1 hts (hx_gV hx_cons k_639 k_641 k_23 k_55 k_642) rfl rfl rfl (by decide +kernel) ⟨Nat.le_of_ble_eq_true rfl, Nat.le_of_ble_eq_true rfl⟩) (hx_preV (va_recv hK hP (ci := 5) (q0 := 0) rfl hm_at_M) hP hK) rfl rfl hl.1 rfl (lv_room (Nat.le_of_ble_eq_true rfl)) d_M_form_75 ⟨Nat.zero_le _, Nat.zero_le _⟩) ?_
              refine lv_lconst (v := 1) hx hb d_M_form_78 rfl ?_
              refine lv_lsub hx hb d_M_form_79 ?_
              refine lv_l2i hx hb d_M_form_80 rfl ?_
              exact W.iret hx hb hr (fun t ht hW => ⟨by rw [Option.some.inj h], ht⟩) (fun q hq => nomatch hq) d_M_form_81
            · replace h := hx_in c13 h
              have tc7 := lv_neT (a := 0) c7 (by decide)
              have tc9 := lv_neT (a := 1) c9 (by decide)
              have tc11 := lv_neT (a := 2) c11 (by decide)
              have tc13 := lv_neT (a := 3) c13 (by decide)
              refine lv_tableOut (tgt := 82) hx hb d_M_form_23 (by omega) (by decide) ?_
              refine lv_aload_n hx hb d_M_form_82 rfl (lv_at hl 0 rfl) ?_
              refine lv_iload_n hx hb d_M_form_83 rfl (lv_at hl 1 rfl) ?_
              obtain ⟨r15, er15, h⟩ := hx_b1s h
              refine hx_rd (va_runV (As := [.int x1]) (rest := []) ⟨hx, hb, hml, hown, hts⟩ (c_M_nan l D T3 bd τ x1 _ er15) (cwV 1 hts (hx_gV hx_cons k_647 k_649 k_25 k_55 k_650) rfl rfl rfl (by decide +kernel) ⟨Nat.le_of_ble_eq_true rfl, Nat.le_of_ble_eq_true rfl⟩) (hx_preV (va_recv hK hP (ci := 5) (q0 := 0) rfl hm_at_M) hP hK) rfl rfl hl.1 rfl (lv_room (Nat.le_of_ble_eq_true rfl)) d_M_form_84 ⟨Nat.zero_le _, Nat.zero_le _⟩) ?_
              refine lv_l2i hx hb d_M_form_87 rfl ?_
              exact W.iret hx hb hr (fun t ht hW => ⟨by rw [Option.some.inj h], ht⟩) (fun q hq => nomatch hq) d_M_form_88
    · replace h := hx_ip c6 h
      refine lv_bipush (v := -2) hx hb d_M_form_19 (by decide) ?_
      exact W.iret hx hb hr (fun t ht hW => ⟨by rw [Option.some.inj h], ht⟩) (fun q hq => nomatch hq) d_M_form_21
abbrev m_M_pattern : Room := { frames := 1, cells := 0, slots := 0, locals := 21 }
set_option maxHeartbeats 4000000 in
set_option maxRecDepth 100000 in
theorem c_M_pattern (l : Launch) (D : va_G) (T3 : hx_T3) (bd : Nat → Nat) (τ : hm_S) (x1 : Int32) (x2 : Int32) (r0 : Int64) (h : f_M_pattern τ x1 x2 = some r0) : hx_R l D (hx_ty T3) (hm_W T3 bd τ) y_M_pattern w_M_pattern m_M_pattern [.ref (bd 0), .int x1, .int x2] (.long r0) := by
  refine Met.ofW (cc := b_M_pattern) (maxL := 5) (ret := (some .long)) (by decide) rfl ?_
  intro p e s m args below meth c s₁ B hml hv
  obtain ⟨hargs, hP, hK⟩ := hv
  have hx := B.exec
  have hb := B.bytes
  have hr := B.returns
  have hts := atoms_spec (ws := w_M_pattern) B.pre
  have hown : s.vm.findClass "HalfFloatsModel" = some m.cls := findClass_of_methodNamed B.named
  have hlocks := B.notSynchronized
  refine W.eq (g2 := F0 m 0 ((lg_sl [.ref (bd 0), .int x1, .int x2] ++ List.replicate (5 - (lg_sl [.ref (bd 0), .int x1, .int x2]).length) Slot.unset).toArray) []) (by rw [hargs, lg_entry_eq]) ?_
  have hl := lv_entry ([.ref (bd 0), .int x1, .int x2]) (n := 5) (Nat.le_of_ble_eq_true rfl)
  generalize (lg_sl ([.ref (bd 0), .int x1, .int x2]) ++ List.replicate (5 - (lg_sl ([.ref (bd 0), .int x1, .int x2])).length) Slot.unset).toArray = ls at hl ⊢
  have hl : lv_has ls 5 [(0, .ref (bd 0)), (1, .int x1), (2, .int x2)] := hl
  rw [f_M_pattern] at h
  refine lv_iload_n hx hb d_M_pattern_0 rfl (lv_at hl 2 rfl) ?_
  refine lv_i2l hx hb d_M_pattern_1 rfl ?_
  refine lv_ldc2 (v := 4294967295) hx hb hown (hts _ (hx_cons _ k_663)) d_M_pattern_2 ?_
  refine lv_land hx hb d_M_pattern_5 ?_
  refine lv_topl (fun x3 ex3 => ?_)
  replace h := hx_ns ex3 h
  clear ex3
  refine lv_lstore_n (lv' := [(3, .long x3), (0, .ref (bd 0)), (1, .int x1), (2, .int x2)]) hx hb d_M_pattern_6 rfl hl (by decide) rfl (fun ls hl => ?_)
  refine lv_lload_n hx hb d_M_pattern_7 rfl (lv_at hl 0 rfl) ?_
  refine lv_ldc2 (v := 2) hx hb hown (hts _ (hx_cons _ k_631)) d_M_pattern_8 ?_
  refine lv_aload_n hx hb d_M_pattern_11 rfl (lv_at hl 1 rfl) ?_
  refine lv_iload_n hx hb d_M_pattern_12 rfl (lv_at hl 2 rfl) ?_
  obtain ⟨r4, er4, h⟩ := hx_b1s h
  refine hx_rd (va_runV (As := [.int x1]) (rest := [.long (2 : Int64), .long x3]) ⟨hx, hb, hml, hown, hts⟩ (c_M_signBit l D T3 bd τ x1 _ er4) (cwV 1 hts (hx_gV hx_cons k_643 k_645 k_24 k_55 k_646) rfl rfl rfl (by decide +kernel) ⟨Nat.le_of_ble_eq_true rfl, Nat.le_of_ble_eq_true rfl⟩) (hx_preV (va_recv hK hP (ci := 5) (q0 := 0) rfl hm_at_M) hP hK) rfl rfl hl.1 rfl (lv_room (Nat.le_of_ble_eq_true rfl)) d_M_pattern_13 ⟨Nat.zero_le _, Nat.zero_le _⟩) ?_
  refine lv_lmul hx hb d_M_pattern_16 ?_
  refine W.lcmp hx hb d_M_pattern_17 ?_
  refine lv_if_ge (tgt := 25) hx hb d_M_pattern_18 (by decide) (fun c5 => ?_) (fun c5 => ?_)
  · replace h := hx_ip c5 h
    refine lv_ldc2 (v := -1) hx hb hown (hts _ (hx_cons _ k_664)) d_M_pattern_25 ?_
    exact W.lret hx hb hr (fun t ht hW => ⟨by rw [Option.some.inj h], ht⟩) (fun q hq => nomatch hq) d_M_pattern_28
  · replace h := hx_in c5 h
    refine lv_lload_n hx hb d_M_pattern_21 rfl (lv_at hl 0 rfl) ?_
    refine lv_goto (tgt := 28) hx hb d_M_pattern_22 (by decide) ?_
    exact W.lret hx hb hr (fun t ht hW => ⟨by rw [Option.some.inj h], ht⟩) (fun q hq => nomatch hq) d_M_pattern_28
abbrev m_M_isPattern : Room := { frames := 2, cells := 0, slots := 0, locals := 45 }
set_option maxHeartbeats 4000000 in
set_option maxRecDepth 100000 in
theorem c_M_isPattern (l : Launch) (D : va_G) (T3 : hx_T3) (bd : Nat → Nat) (τ : hm_S) (x1 : Int32) (x2 : Int32) (r0 : Int32) (h : f_M_isPattern τ x1 x2 = some r0) : hx_R l D (hx_ty T3) (hm_W T3 bd τ) y_M_isPattern w_M_isPattern m_M_isPattern [.ref (bd 0), .int x1, .int x2] (.int r0) := by
  refine Met.ofW (cc := b_M_isPattern) (maxL := 3) (ret := (some .boolean)) (by decide) rfl ?_
  intro p e s m args below meth c s₁ B hml hv
  obtain ⟨hargs, hP, hK⟩ := hv
  have hx := B.exec
  have hb := B.bytes
  have hr := B.returns
  have hts := atoms_spec (ws := w_M_isPattern) B.pre
  have hown : s.vm.findClass "HalfFloatsModel" = some m.cls := findClass_of_methodNamed B.named
  have hlocks := B.notSynchronized
  refine W.eq (g2 := F0 m 0 ((lg_sl [.ref (bd 0), .int x1, .int x2] ++ List.replicate (3 - (lg_sl [.ref (bd 0), .int x1, .int x2]).length) Slot.unset).toArray) []) (by rw [hargs, lg_entry_eq]) ?_
  have hl := lv_entry ([.ref (bd 0), .int x1, .int x2]) (n := 3) (Nat.le_of_ble_eq_true rfl)
  generalize (lg_sl ([.ref (bd 0), .int x1, .int x2]) ++ List.replicate (3 - (lg_sl ([.ref (bd 0), .int x1, .int x2])).length) Slot.unset).toArray = ls at hl ⊢
  have hl : lv_has ls 3 [(0, .ref (bd 0)), (1, .int x1), (2, .int x2)] := hl
  rw [f_M_isPattern] at h
  refine lv_aload_n hx hb d_M_isPattern_0 rfl (lv_at hl 0 rfl) ?_
  refine lv_iload_n hx hb d_M_isPattern_1 rfl (lv_at hl 1 rfl) ?_
  refine lv_iload_n hx hb d_M_isPattern_2 rfl (lv_at hl 2 rfl) ?_
  obtain ⟨r3, er3, h⟩ := hx_b1s h
  refine hx_rd (va_runV (As := [.int x1, .int x2]) (rest := []) ⟨hx, hb, hml, hown, hts⟩ (c_M_pattern l D T3 bd τ x1 x2 _ er3) (cwV 2 hts (hx_gV hx_cons k_659 k_661 k_27 k_55 k_662) rfl rfl rfl (by decide +kernel) ⟨Nat.le_of_ble_eq_true rfl, Nat.le_of_ble_eq_true rfl⟩) (hx_preV (va_recv hK hP (ci := 5) (q0 := 0) rfl hm_at_M) hP hK) rfl rfl hl.1 rfl (lv_room (Nat.le_of_ble_eq_true rfl)) d_M_isPattern_3 ⟨Nat.zero_le _, Nat.zero_le _⟩) ?_
  refine lv_ldc2 (v := -1) hx hb hown (hts _ (hx_cons _ k_664)) d_M_isPattern_6 ?_
  refine W.lcmp hx hb d_M_isPattern_9 ?_
  refine lv_if_eq (tgt := 17) hx hb d_M_isPattern_10 (by decide) (fun c4 => ?_) (fun c4 => ?_)
  · replace h := hx_ip c4 h
    refine lv_iconst (v := 0) hx hb d_M_isPattern_17 (by decide) ?_
    exact W.zret hx hb hr (hx_nb (Or.inl rfl)) (fun t ht hW => ⟨by rw [Option.some.inj h], ht⟩) (fun q hq => nomatch hq) d_M_isPattern_18
  · replace h := hx_in c4 h
    refine lv_iconst (v := 1) hx hb d_M_isPattern_13 (by decide) ?_
    refine lv_goto (tgt := 18) hx hb d_M_isPattern_14 (by decide) ?_
    exact W.zret hx hb hr (hx_nb (Or.inr rfl)) (fun t ht hW => ⟨by rw [Option.some.inj h], ht⟩) (fun q hq => nomatch hq) d_M_isPattern_18
abbrev m_M_sortOf : Room := { frames := 2, cells := 0, slots := 0, locals := 42 }
set_option maxHeartbeats 4000000 in
set_option maxRecDepth 100000 in
theorem c_M_sortOf (l : Launch) (D : va_G) (T3 : hx_T3) (bd : Nat → Nat) (τ : hm_S) (x1 : Int32) (x2 : Int64) (r0 : Int32) (h : f_M_sortOf τ x1 x2 = some r0) : hx_R l D (hx_ty T3) (hm_W T3 bd τ) y_M_sortOf w_M_sortOf m_M_sortOf [.ref (bd 0), .int x1, .long x2] (.int r0) := by
  refine Met.ofW (cc := b_M_sortOf) (maxL := 6) (ret := (some .int)) (by decide) rfl ?_
  intro p e s m args below meth c s₁ B hml hv
  obtain ⟨hargs, hP, hK⟩ := hv
  have hx := B.exec
  have hb := B.bytes
  have hr := B.returns
  have hts := atoms_spec (ws := w_M_sortOf) B.pre
  have hown : s.vm.findClass "HalfFloatsModel" = some m.cls := findClass_of_methodNamed B.named
  have hlocks := B.notSynchronized
  refine W.eq (g2 := F0 m 0 ((lg_sl [.ref (bd 0), .int x1, .long x2] ++ List.replicate (6 - (lg_sl [.ref (bd 0), .int x1, .long x2]).length) Slot.unset).toArray) []) (by rw [hargs, lg_entry_eq]) ?_
  have hl := lv_entry ([.ref (bd 0), .int x1, .long x2]) (n := 6) (Nat.le_of_ble_eq_true rfl)
  generalize (lg_sl ([.ref (bd 0), .int x1, .long x2]) ++ List.replicate (6 - (lg_sl ([.ref (bd 0), .int x1, .long x2])).length) Slot.unset).toArray = ls at hl ⊢
  have hl : lv_has ls 6 [(0, .ref (bd 0)), (1, .int x1), (2, .long x2)] := hl
  rw [f_M_sortOf] at h
  refine lv_lload_n hx hb d_M_sortOf_0 rfl (lv_at hl 2 rfl) ?_
  refine lv_aload_n hx hb d_M_sortOf_1 rfl (lv_at hl 0 rfl) ?_
  refine lv_iload_n hx hb d_M_sortOf_2 rfl (lv_at hl 1 rfl) ?_
  obtain ⟨r3, er3, h⟩ := hx_b1s h
  refine hx_rd (va_runV (As := [.int x1]) (rest := [.long x2]) ⟨hx, hb, hml, hown, hts⟩ (c_M_signBit l D T3 bd τ x1 _ er3) (cwV 1 hts (hx_gV hx_cons k_643 k_645 k_24 k_55 k_646) rfl rfl rfl (by decide +kernel) ⟨Nat.le_of_ble_eq_true rfl, Nat.le_of_ble_eq_true rfl⟩) (hx_preV (va_recv hK hP (ci := 5) (q0 := 0) rfl hm_at_M) hP hK) rfl rfl hl.1 rfl (lv_room (Nat.le_of_ble_eq_true rfl)) d_M_sortOf_3 ⟨Nat.zero_le _, Nat.zero_le _⟩) ?_
  refine lv_lconst (v := 1) hx hb d_M_sortOf_6 rfl ?_
  refine lv_lsub hx hb d_M_sortOf_7 ?_
  refine lv_land hx hb d_M_sortOf_8 ?_
  refine lv_topl (fun x4 ex4 => ?_)
  replace h := hx_ns ex4 h
  clear ex4
  refine lv_lstore (lv' := [(4, .long x4), (0, .ref (bd 0)), (1, .int x1), (2, .long x2)]) hx hb d_M_sortOf_9 hl (by decide) rfl (fun ls hl => ?_)
  refine lv_lload hx hb d_M_sortOf_11 (lv_at hl 0 rfl) ?_
  refine lv_lconst (v := 0) hx hb d_M_sortOf_13 rfl ?_
  refine W.lcmp hx hb d_M_sortOf_14 ?_
  refine lv_if_ne (tgt := 20) hx hb d_M_sortOf_15 (by decide) (fun c5 => ?_) (fun c5 => ?_)
  · replace h := hx_in c5 h
    refine lv_lload hx hb d_M_sortOf_20 (lv_at hl 0 rfl) ?_
    refine lv_aload_n hx hb d_M_sortOf_22 rfl (lv_at hl 1 rfl) ?_
    refine lv_iload_n hx hb d_M_sortOf_23 rfl (lv_at hl 2 rfl) ?_
    obtain ⟨r6, er6, h⟩ := hx_b1s h
    refine hx_rd (va_runV (As := [.int x1]) (rest := [.long x4]) ⟨hx, hb, hml, hown, hts⟩ (c_M_limit l D T3 bd τ x1 _ er6) (cwV 1 hts (hx_gV hx_cons k_639 k_641 k_23 k_55 k_642) rfl rfl rfl (by decide +kernel) ⟨Nat.le_of_ble_eq_true rfl, Nat.le_of_ble_eq_true rfl⟩) (hx_preV (va_recv hK hP (ci := 5) (q0 := 0) rfl hm_at_M) hP hK) rfl rfl hl.1 rfl (lv_room (Nat.le_of_ble_eq_true rfl)) d_M_sortOf_24 ⟨Nat.zero_le _, Nat.zero_le _⟩) ?_
    refine W.lcmp hx hb d_M_sortOf_27 ?_
    refine lv_if_lt (tgt := 57) hx hb d_M_sortOf_28 (by decide) (fun c7 => ?_) (fun c7 => ?_)
    · replace h := hx_ip c7 h
      refine lv_lload hx hb d_M_sortOf_57 (lv_at hl 0 rfl) ?_
      refine lv_aload_n hx hb d_M_sortOf_59 rfl (lv_at hl 1 rfl) ?_
      refine va_get (D := D) (ci := 5) (v := .ref (bd 2)) (C := "HalfFloatsModel") (T := T_M) (N := 21) hx hb hts (hx_up in_M) hown hK hP (0) hm_at_M rfl 1 (by decide) (hts _ (hx_cons _ k_557)) (fun _ h9 => h9) rfl d_M_sortOf_60 ?_
      refine lv_iload_n hx hb d_M_sortOf_63 rfl (lv_at hl 2 rfl) ?_
      obtain ⟨g8, h⟩ := hx_gs h
      refine va_iald hx hb hK hP (2) 1 hm_at_fF rfl g8 d_M_sortOf_64 ?_
      refine lv_lshr hx hb d_M_sortOf_65 rfl ?_
      refine lv_lconst (v := 0) hx hb d_M_sortOf_66 rfl ?_
      refine W.lcmp hx hb d_M_sortOf_67 ?_
      refine lv_if_ne (tgt := 75) hx hb d_M_sortOf_68 (by decide) (fun c9 => ?_) (fun c9 => ?_)
      · replace h := hx_in c9 h
        refine lv_iconst (v := 2) hx hb d_M_sortOf_75 (by decide) ?_
        exact W.iret hx hb hr (fun t ht hW => ⟨by rw [Option.some.inj h], ht⟩) (fun q hq => nomatch hq) d_M_sortOf_76
      · replace h := hx_ip c9 h
        refine lv_iconst (v := 1) hx hb d_M_sortOf_71 (by decide) ?_
        refine lv_goto (tgt := 76) hx hb d_M_sortOf_72 (by decide) ?_
        exact W.iret hx hb hr (fun t ht hW => ⟨by rw [Option.some.inj h], ht⟩) (fun q hq => nomatch hq) d_M_sortOf_76
    · replace h := hx_in c7 h
      refine lv_aload_n hx hb d_M_sortOf_31 rfl (lv_at hl 1 rfl) ?_
      refine va_get (D := D) (ci := 5) (v := .ref (bd 3)) (C := "HalfFloatsModel") (T := T_M) (N := 21) hx hb hts (hx_up in_M) hown hK hP (0) hm_at_M rfl 2 (by decide) (hts _ (hx_cons _ k_558)) (fun _ h9 => h9) rfl d_M_sortOf_32 ?_
      refine lv_iload_n hx hb d_M_sortOf_35 rfl (lv_at hl 2 rfl) ?_
      obtain ⟨g10, h⟩ := hx_gs h
      refine va_iald hx hb hK hP (3) 1 hm_at_fK rfl g10 d_M_sortOf_36 ?_
      refine lv_if_ne (tgt := 55) hx hb d_M_sortOf_37 (by decide) (fun c11 => ?_) (fun c11 => ?_)
      · replace h := hx_in c11 h
        refine lv_iconst (v := 4) hx hb d_M_sortOf_55 (by decide) ?_
        exact W.iret hx hb hr (fun t ht hW => ⟨by rw [Option.some.inj h], ht⟩) (fun q hq => nomatch hq) d_M_sortOf_56
      · replace h := hx_ip c11 h
        refine lv_lload hx hb d_M_sortOf_40 (lv_at hl 0 rfl) ?_
        refine lv_aload_n hx hb d_M_sortOf_42 rfl (lv_at hl 1 rfl) ?_
        refine lv_iload_n hx hb d_M_sortOf_43 rfl (lv_at hl 2 rfl) ?_
        obtain ⟨r12, er12, h⟩ := hx_b1s h
        refine hx_rd (va_runV (As := [.int x1]) (rest := [.long x4]) ⟨hx, hb, hml, hown, hts⟩ (c_M_limit l D T3 bd τ x1 _ er12) (cwV 1 hts (hx_gV hx_cons k_639 k_641 k_23 k_55 k_642) rfl rfl rfl (by decide +kernel) ⟨Nat.le_of_ble_eq_true rfl, Nat.le_of_ble_eq_true rfl⟩) (hx_preV (va_recv hK hP (ci := 5) (q0 := 0) rfl hm_at_M) hP hK) rfl rfl hl.1 rfl (lv_room (Nat.le_of_ble_eq_true rfl)) d_M_sortOf_44 ⟨Nat.zero_le _, Nat.zero_le _⟩) ?_
        refine W.lcmp hx hb d_M_sortOf_47 ?_
        refine lv_if_ne (tgt := 55) hx hb d_M_sortOf_48 (by decide) (fun c13 => ?_) (fun c13 => ?_)
        · replace h := hx_in c13 h
          refine lv_iconst (v := 4) hx hb d_M_sortOf_55 (by decide) ?_
          exact W.iret hx hb hr (fun t ht hW => ⟨by rw [Option.some.inj h], ht⟩) (fun q hq => nomatch hq) d_M_sortOf_56
        · replace h := hx_ip c13 h
          refine lv_iconst (v := 3) hx hb d_M_sortOf_51 (by decide) ?_
          refine lv_goto (tgt := 56) hx hb d_M_sortOf_52 (by decide) ?_
          exact W.iret hx hb hr (fun t ht hW => ⟨by rw [Option.some.inj h], ht⟩) (fun q hq => nomatch hq) d_M_sortOf_56
  · replace h := hx_ip c5 h
    refine lv_iconst (v := 0) hx hb d_M_sortOf_18 (by decide) ?_
    exact W.iret hx hb hr (fun t ht hW => ⟨by rw [Option.some.inj h], ht⟩) (fun q hq => nomatch hq) d_M_sortOf_19
abbrev m_M_isBelow : Room := { frames := 1, cells := 0, slots := 0, locals := 21 }
set_option maxHeartbeats 4000000 in
set_option maxRecDepth 100000 in
theorem c_M_isBelow (l : Launch) (D : va_G) (T3 : hx_T3) (bd : Nat → Nat) (τ : hm_S) (x1 : Int32) (x2 : Int64) (r0 : Int32) (h : f_M_isBelow τ x1 x2 = some r0) : hx_R l D (hx_ty T3) (hm_W T3 bd τ) y_M_isBelow w_M_isBelow m_M_isBelow [.ref (bd 0), .int x1, .long x2] (.int r0) := by
  refine Met.ofW (cc := b_M_isBelow) (maxL := 4) (ret := (some .boolean)) (by decide) rfl ?_
  intro p e s m args below meth c s₁ B hml hv
  obtain ⟨hargs, hP, hK⟩ := hv
  have hx := B.exec
  have hb := B.bytes
  have hr := B.returns
  have hts := atoms_spec (ws := w_M_isBelow) B.pre
  have hown : s.vm.findClass "HalfFloatsModel" = some m.cls := findClass_of_methodNamed B.named
  have hlocks := B.notSynchronized
  refine W.eq (g2 := F0 m 0 ((lg_sl [.ref (bd 0), .int x1, .long x2] ++ List.replicate (4 - (lg_sl [.ref (bd 0), .int x1, .long x2]).length) Slot.unset).toArray) []) (by rw [hargs, lg_entry_eq]) ?_
  have hl := lv_entry ([.ref (bd 0), .int x1, .long x2]) (n := 4) (Nat.le_of_ble_eq_true rfl)
  generalize (lg_sl ([.ref (bd 0), .int x1, .long x2]) ++ List.replicate (4 - (lg_sl ([.ref (bd 0), .int x1, .long x2])).length) Slot.unset).toArray = ls at hl ⊢
  have hl : lv_has ls 4 [(0, .ref (bd 0)), (1, .int x1), (2, .long x2)] := hl
  rw [f_M_isBelow] at h
  refine lv_lload_n hx hb d_M_isBelow_0 rfl (lv_at hl 2 rfl) ?_
  refine lv_aload_n hx hb d_M_isBelow_1 rfl (lv_at hl 0 rfl) ?_
  refine lv_iload_n hx hb d_M_isBelow_2 rfl (lv_at hl 1 rfl) ?_
  obtain ⟨r3, er3, h⟩ := hx_b1s h
  refine hx_rd (va_runV (As := [.int x1]) (rest := [.long x2]) ⟨hx, hb, hml, hown, hts⟩ (c_M_signBit l D T3 bd τ x1 _ er3) (cwV 1 hts (hx_gV hx_cons k_643 k_645 k_24 k_55 k_646) rfl rfl rfl (by decide +kernel) ⟨Nat.le_of_ble_eq_true rfl, Nat.le_of_ble_eq_true rfl⟩) (hx_preV (va_recv hK hP (ci := 5) (q0 := 0) rfl hm_at_M) hP hK) rfl rfl hl.1 rfl (lv_room (Nat.le_of_ble_eq_true rfl)) d_M_isBelow_3 ⟨Nat.zero_le _, Nat.zero_le _⟩) ?_
  refine W.lcmp hx hb d_M_isBelow_6 ?_
  refine lv_if_lt (tgt := 14) hx hb d_M_isBelow_7 (by decide) (fun c4 => ?_) (fun c4 => ?_)
  · replace h := hx_ip c4 h
    refine lv_iconst (v := 0) hx hb d_M_isBelow_14 (by decide) ?_
    exact W.zret hx hb hr (hx_nb (Or.inl rfl)) (fun t ht hW => ⟨by rw [Option.some.inj h], ht⟩) (fun q hq => nomatch hq) d_M_isBelow_15
  · replace h := hx_in c4 h
    refine lv_iconst (v := 1) hx hb d_M_isBelow_10 (by decide) ?_
    refine lv_goto (tgt := 15) hx hb d_M_isBelow_11 (by decide) ?_
    exact W.zret hx hb hr (hx_nb (Or.inr rfl)) (fun t ht hW => ⟨by rw [Option.some.inj h], ht⟩) (fun q hq => nomatch hq) d_M_isBelow_15
abbrev m_M_wholeOf : Room := { frames := 3, cells := 0, slots := 0, locals := 67 }
set_option maxHeartbeats 4000000 in
set_option maxRecDepth 100000 in
theorem c_M_wholeOf (l : Launch) (D : va_G) (T3 : hx_T3) (bd : Nat → Nat) (τ : hm_S) (x1 : Int32) (x2 : Int64) (r0 : Int64) (h : f_M_wholeOf τ x1 x2 = some r0) : hx_R l D (hx_ty T3) (hm_W T3 bd τ) y_M_wholeOf w_M_wholeOf m_M_wholeOf [.ref (bd 0), .int x1, .long x2] (.long r0) := by
  refine Met.ofW (cc := b_M_wholeOf) (maxL := 7) (ret := (some .long)) (by decide) rfl ?_
  intro p e s m args below meth c s₁ B hml hv
  obtain ⟨hargs, hP, hK⟩ := hv
  have hx := B.exec
  have hb := B.bytes
  have hr := B.returns
  have hts := atoms_spec (ws := w_M_wholeOf) B.pre
  have hown : s.vm.findClass "HalfFloatsModel" = some m.cls := findClass_of_methodNamed B.named
  have hlocks := B.notSynchronized
  refine W.eq (g2 := F0 m 0 ((lg_sl [.ref (bd 0), .int x1, .long x2] ++ List.replicate (7 - (lg_sl [.ref (bd 0), .int x1, .long x2]).length) Slot.unset).toArray) []) (by rw [hargs, lg_entry_eq]) ?_
  have hl := lv_entry ([.ref (bd 0), .int x1, .long x2]) (n := 7) (Nat.le_of_ble_eq_true rfl)
  generalize (lg_sl ([.ref (bd 0), .int x1, .long x2]) ++ List.replicate (7 - (lg_sl ([.ref (bd 0), .int x1, .long x2])).length) Slot.unset).toArray = ls at hl ⊢
  have hl : lv_has ls 7 [(0, .ref (bd 0)), (1, .int x1), (2, .long x2)] := hl
  rw [f_M_wholeOf] at h
  refine lv_aload_n hx hb d_M_wholeOf_0 rfl (lv_at hl 0 rfl) ?_
  refine lv_iload_n hx hb d_M_wholeOf_1 rfl (lv_at hl 1 rfl) ?_
  refine lv_lload_n hx hb d_M_wholeOf_2 rfl (lv_at hl 2 rfl) ?_
  obtain ⟨r3, er3, h⟩ := hx_b1s h
  refine hx_rd (va_runV (As := [.int x1, .long x2]) (rest := []) ⟨hx, hb, hml, hown, hts⟩ (c_M_sortOf l D T3 bd τ x1 x2 _ er3) (cwV 2 hts (hx_gV hx_cons k_666 k_668 k_28 k_55 k_669) rfl rfl rfl (by decide +kernel) ⟨Nat.le_of_ble_eq_true rfl, Nat.le_of_ble_eq_true rfl⟩) (hx_preV (va_recv hK hP (ci := 5) (q0 := 0) rfl hm_at_M) hP hK) rfl rfl hl.1 rfl (lv_room (Nat.le_of_ble_eq_true rfl)) d_M_wholeOf_3 ⟨Nat.zero_le _, Nat.zero_le _⟩) ?_
  refine lv_istore (lv' := [(4, .int r3), (0, .ref (bd 0)), (1, .int x1), (2, .long x2)]) hx hb d_M_wholeOf_6 hl (by decide) rfl (fun ls hl => ?_)
  refine lv_lload_n hx hb d_M_wholeOf_8 rfl (lv_at hl 3 rfl) ?_
  refine lv_lconst (v := 1) hx hb d_M_wholeOf_9 rfl ?_
  refine lv_aload_n hx hb d_M_wholeOf_10 rfl (lv_at hl 1 rfl) ?_
  refine va_get (D := D) (ci := 5) (v := .ref (bd 2)) (C := "HalfFloatsModel") (T := T_M) (N := 21) hx hb hts (hx_up in_M) hown hK hP (0) hm_at_M rfl 1 (by decide) (hts _ (hx_cons _ k_557)) (fun _ h9 => h9) rfl d_M_wholeOf_11 ?_
  refine lv_iload_n hx hb d_M_wholeOf_14 rfl (lv_at hl 2 rfl) ?_
  obtain ⟨g4, h⟩ := hx_gs h
  refine va_iald hx hb hK hP (2) 1 hm_at_fF rfl g4 d_M_wholeOf_15 ?_
  refine lv_lshl hx hb d_M_wholeOf_16 rfl ?_
  refine lv_lconst (v := 1) hx hb d_M_wholeOf_17 rfl ?_
  refine lv_lsub hx hb d_M_wholeOf_18 ?_
  refine lv_land hx hb d_M_wholeOf_19 ?_
  refine lv_topl (fun x5 ex5 => ?_)
  replace h := hx_ns ex5 h
  clear ex5
  refine lv_lstore (lv' := [(5, .long x5), (4, .int r3), (0, .ref (bd 0)), (1, .int x1), (2, .long x2)]) hx hb d_M_wholeOf_20 hl (by decide) rfl (fun ls hl => ?_)
  refine lv_iload hx hb d_M_wholeOf_22 (lv_at hl 1 rfl) ?_
  refine lv_iconst (v := 1) hx hb d_M_wholeOf_24 (by decide) ?_
  refine lv_icmp_ne (tgt := 33) hx hb d_M_wholeOf_25 (by decide) (fun c6 => ?_) (fun c6 => ?_)
  · replace h := hx_in c6 h
    refine lv_iload hx hb d_M_wholeOf_33 (lv_at hl 1 rfl) ?_
    refine lv_iconst (v := 2) hx hb d_M_wholeOf_35 (by decide) ?_
    refine lv_icmp_ne (tgt := 53) hx hb d_M_wholeOf_36 (by decide) (fun c7 => ?_) (fun c7 => ?_)
    · replace h := hx_in c7 h
      refine lv_lconst (v := 0) hx hb d_M_wholeOf_53 rfl ?_
      exact W.lret hx hb hr (fun t ht hW => ⟨by rw [Option.some.inj h], ht⟩) (fun q hq => nomatch hq) d_M_wholeOf_54
    · replace h := hx_ip c7 h
      refine lv_lload hx hb d_M_wholeOf_39 (lv_at hl 0 rfl) ?_
      refine lv_lconst (v := 1) hx hb d_M_wholeOf_41 rfl ?_
      refine lv_aload_n hx hb d_M_wholeOf_42 rfl (lv_at hl 2 rfl) ?_
      refine va_get (D := D) (ci := 5) (v := .ref (bd 2)) (C := "HalfFloatsModel") (T := T_M) (N := 21) hx hb hts (hx_up in_M) hown hK hP (0) hm_at_M rfl 1 (by decide) (hts _ (hx_cons _ k_557)) (fun _ h9 => h9) rfl d_M_wholeOf_43 ?_
      refine lv_iload_n hx hb d_M_wholeOf_46 rfl (lv_at hl 3 rfl) ?_
      obtain ⟨g8, h⟩ := hx_gs h
      refine va_iald hx hb hK hP (2) 1 hm_at_fF rfl g8 d_M_wholeOf_47 ?_
      refine lv_lshl hx hb d_M_wholeOf_48 rfl ?_
      refine lv_lor hx hb d_M_wholeOf_49 ?_
      refine lv_goto (tgt := 54) hx hb d_M_wholeOf_50 (by decide) ?_
      exact W.lret hx hb hr (fun t ht hW => ⟨by rw [Option.some.inj h], ht⟩) (fun q hq => nomatch hq) d_M_wholeOf_54
  · replace h := hx_ip c6 h
    refine lv_lload hx hb d_M_wholeOf_28 (lv_at hl 0 rfl) ?_
    refine lv_goto (tgt := 54) hx hb d_M_wholeOf_30 (by decide) ?_
    exact W.lret hx hb hr (fun t ht hW => ⟨by rw [Option.some.inj h], ht⟩) (fun q hq => nomatch hq) d_M_wholeOf_54
abbrev m_M_powerOf : Room := { frames := 3, cells := 0, slots := 0, locals := 67 }
set_option maxHeartbeats 4000000 in
set_option maxRecDepth 100000 in
theorem c_M_powerOf (l : Launch) (D : va_G) (T3 : hx_T3) (bd : Nat → Nat) (τ : hm_S) (x1 : Int32) (x2 : Int64) (r0 : Int32) (h : f_M_powerOf τ x1 x2 = some r0) : hx_R l D (hx_ty T3) (hm_W T3 bd τ) y_M_powerOf w_M_powerOf m_M_powerOf [.ref (bd 0), .int x1, .long x2] (.int r0) := by
  refine Met.ofW (cc := b_M_powerOf) (maxL := 6) (ret := (some .int)) (by decide) rfl ?_
  intro p e s m args below meth c s₁ B hml hv
  obtain ⟨hargs, hP, hK⟩ := hv
  have hx := B.exec
  have hb := B.bytes
  have hr := B.returns
  have hts := atoms_spec (ws := w_M_powerOf) B.pre
  have hown : s.vm.findClass "HalfFloatsModel" = some m.cls := findClass_of_methodNamed B.named
  have hlocks := B.notSynchronized
  refine W.eq (g2 := F0 m 0 ((lg_sl [.ref (bd 0), .int x1, .long x2] ++ List.replicate (6 - (lg_sl [.ref (bd 0), .int x1, .long x2]).length) Slot.unset).toArray) []) (by rw [hargs, lg_entry_eq]) ?_
  have hl := lv_entry ([.ref (bd 0), .int x1, .long x2]) (n := 6) (Nat.le_of_ble_eq_true rfl)
  generalize (lg_sl ([.ref (bd 0), .int x1, .long x2]) ++ List.replicate (6 - (lg_sl ([.ref (bd 0), .int x1, .long x2])).length) Slot.unset).toArray = ls at hl ⊢
  have hl : lv_has ls 6 [(0, .ref (bd 0)), (1, .int x1), (2, .long x2)] := hl
  rw [f_M_powerOf] at h
  refine lv_aload_n hx hb d_M_powerOf_0 rfl (lv_at hl 0 rfl) ?_
  refine lv_iload_n hx hb d_M_powerOf_1 rfl (lv_at hl 1 rfl) ?_
  refine lv_lload_n hx hb d_M_powerOf_2 rfl (lv_at hl 2 rfl) ?_
  obtain ⟨r3, er3, h⟩ := hx_b1s h
  refine hx_rd (va_runV (As := [.int x1, .long x2]) (rest := []) ⟨hx, hb, hml, hown, hts⟩ (c_M_sortOf l D T3 bd τ x1 x2 _ er3) (cwV 2 hts (hx_gV hx_cons k_666 k_668 k_28 k_55 k_669) rfl rfl rfl (by decide +kernel) ⟨Nat.le_of_ble_eq_true rfl, Nat.le_of_ble_eq_true rfl⟩) (hx_preV (va_recv hK hP (ci := 5) (q0 := 0) rfl hm_at_M) hP hK) rfl rfl hl.1 rfl (lv_room (Nat.le_of_ble_eq_true rfl)) d_M_powerOf_3 ⟨Nat.zero_le _, Nat.zero_le _⟩) ?_
  refine lv_istore (lv' := [(4, .int r3), (0, .ref (bd 0)), (1, .int x1), (2, .long x2)]) hx hb d_M_powerOf_6 hl (by decide) rfl (fun ls hl => ?_)
  refine lv_lload_n hx hb d_M_powerOf_8 rfl (lv_at hl 3 rfl) ?_
  refine lv_aload_n hx hb d_M_powerOf_9 rfl (lv_at hl 1 rfl) ?_
  refine lv_iload_n hx hb d_M_powerOf_10 rfl (lv_at hl 2 rfl) ?_
  obtain ⟨r4, er4, h⟩ := hx_b1s h
  refine hx_rd (va_runV (As := [.int x1]) (rest := [.long x2]) ⟨hx, hb, hml, hown, hts⟩ (c_M_signBit l D T3 bd τ x1 _ er4) (cwV 1 hts (hx_gV hx_cons k_643 k_645 k_24 k_55 k_646) rfl rfl rfl (by decide +kernel) ⟨Nat.le_of_ble_eq_true rfl, Nat.le_of_ble_eq_true rfl⟩) (hx_preV (va_recv hK hP (ci := 5) (q0 := 0) rfl hm_at_M) hP hK) rfl rfl hl.1 rfl (lv_room (Nat.le_of_ble_eq_true rfl)) d_M_powerOf_11 ⟨Nat.zero_le _, Nat.zero_le _⟩) ?_
  refine lv_lconst (v := 1) hx hb d_M_powerOf_14 rfl ?_
  refine lv_lsub hx hb d_M_powerOf_15 ?_
  refine lv_land hx hb d_M_powerOf_16 ?_
  refine lv_aload_n hx hb d_M_powerOf_17 rfl (lv_at hl 1 rfl) ?_
  refine va_get (D := D) (ci := 5) (v := .ref (bd 2)) (C := "HalfFloatsModel") (T := T_M) (N := 21) hx hb hts (hx_up in_M) hown hK hP (0) hm_at_M rfl 1 (by decide) (hts _ (hx_cons _ k_557)) (fun _ h9 => h9) rfl d_M_powerOf_18 ?_
  refine lv_iload_n hx hb d_M_powerOf_21 rfl (lv_at hl 2 rfl) ?_
  obtain ⟨g5, h⟩ := hx_gs h
  refine va_iald hx hb hK hP (2) 1 hm_at_fF rfl g5 d_M_powerOf_22 ?_
  refine lv_lshr hx hb d_M_powerOf_23 rfl ?_
  refine lv_l2i hx hb d_M_powerOf_24 rfl ?_
  refine lv_topi (fun x6 ex6 => ?_)
  replace h := hx_ns ex6 h
  clear ex6
  refine lv_istore (lv' := [(5, .int x6), (4, .int r3), (0, .ref (bd 0)), (1, .int x1), (2, .long x2)]) hx hb d_M_powerOf_25 hl (by decide) rfl (fun ls hl => ?_)
  refine lv_iload hx hb d_M_powerOf_27 (lv_at hl 1 rfl) ?_
  refine lv_iconst (v := 1) hx hb d_M_powerOf_29 (by decide) ?_
  refine lv_icmp_ne (tgt := 50) hx hb d_M_powerOf_30 (by decide) (fun c7 => ?_) (fun c7 => ?_)
  · replace h := hx_in c7 h
    refine lv_iload hx hb d_M_powerOf_50 (lv_at hl 1 rfl) ?_
    refine lv_iconst (v := 2) hx hb d_M_powerOf_52 (by decide) ?_
    refine lv_icmp_ne (tgt := 74) hx hb d_M_powerOf_53 (by decide) (fun c8 => ?_) (fun c8 => ?_)
    · replace h := hx_in c8 h
      refine lv_iconst (v := 0) hx hb d_M_powerOf_74 (by decide) ?_
      exact W.iret hx hb hr (fun t ht hW => ⟨by rw [Option.some.inj h], ht⟩) (fun q hq => nomatch hq) d_M_powerOf_75
    · replace h := hx_ip c8 h
      refine lv_iload hx hb d_M_powerOf_56 (lv_at hl 0 rfl) ?_
      refine lv_aload_n hx hb d_M_powerOf_58 rfl (lv_at hl 2 rfl) ?_
      refine lv_iload_n hx hb d_M_powerOf_59 rfl (lv_at hl 3 rfl) ?_
      obtain ⟨r9, er9, h⟩ := hx_b1s h
      refine hx_rd (va_runV (As := [.int x1]) (rest := [.int x6]) ⟨hx, hb, hml, hown, hts⟩ (c_M_bias l D T3 bd τ x1 _ er9) (cwV 1 hts (hx_gV hx_cons k_682 k_684 k_32 k_55 k_685) rfl rfl rfl (by decide +kernel) ⟨Nat.le_of_ble_eq_true rfl, Nat.le_of_ble_eq_true rfl⟩) (hx_preV (va_recv hK hP (ci := 5) (q0 := 0) rfl hm_at_M) hP hK) rfl rfl hl.1 rfl (lv_room (Nat.le_of_ble_eq_true rfl)) d_M_powerOf_60 ⟨Nat.zero_le _, Nat.zero_le _⟩) ?_
      refine lv_isub hx hb d_M_powerOf_63 ?_
      refine lv_aload_n hx hb d_M_powerOf_64 rfl (lv_at hl 2 rfl) ?_
      refine va_get (D := D) (ci := 5) (v := .ref (bd 2)) (C := "HalfFloatsModel") (T := T_M) (N := 21) hx hb hts (hx_up in_M) hown hK hP (0) hm_at_M rfl 1 (by decide) (hts _ (hx_cons _ k_557)) (fun _ h9 => h9) rfl d_M_powerOf_65 ?_
      refine lv_iload_n hx hb d_M_powerOf_68 rfl (lv_at hl 3 rfl) ?_
      obtain ⟨g10, h⟩ := hx_gs h
      refine va_iald hx hb hK hP (2) 1 hm_at_fF rfl g10 d_M_powerOf_69 ?_
      refine lv_isub hx hb d_M_powerOf_70 ?_
      refine lv_goto (tgt := 75) hx hb d_M_powerOf_71 (by decide) ?_
      exact W.iret hx hb hr (fun t ht hW => ⟨by rw [Option.some.inj h], ht⟩) (fun q hq => nomatch hq) d_M_powerOf_75
  · replace h := hx_ip c7 h
    refine lv_iconst (v := 1) hx hb d_M_powerOf_33 (by decide) ?_
    refine lv_aload_n hx hb d_M_powerOf_34 rfl (lv_at hl 2 rfl) ?_
    refine lv_iload_n hx hb d_M_powerOf_35 rfl (lv_at hl 3 rfl) ?_
    obtain ⟨r11, er11, h⟩ := hx_b1s h
    refine hx_rd (va_runV (As := [.int x1]) (rest := [.int (1 : Int32)]) ⟨hx, hb, hml, hown, hts⟩ (c_M_bias l D T3 bd τ x1 _ er11) (cwV 1 hts (hx_gV hx_cons k_682 k_684 k_32 k_55 k_685) rfl rfl rfl (by decide +kernel) ⟨Nat.le_of_ble_eq_true rfl, Nat.le_of_ble_eq_true rfl⟩) (hx_preV (va_recv hK hP (ci := 5) (q0 := 0) rfl hm_at_M) hP hK) rfl rfl hl.1 rfl (lv_room (Nat.le_of_ble_eq_true rfl)) d_M_powerOf_36 ⟨Nat.zero_le _, Nat.zero_le _⟩) ?_
    refine lv_isub hx hb d_M_powerOf_39 ?_
    refine lv_aload_n hx hb d_M_powerOf_40 rfl (lv_at hl 2 rfl) ?_
    refine va_get (D := D) (ci := 5) (v := .ref (bd 2)) (C := "HalfFloatsModel") (T := T_M) (N := 21) hx hb hts (hx_up in_M) hown hK hP (0) hm_at_M rfl 1 (by decide) (hts _ (hx_cons _ k_557)) (fun _ h9 => h9) rfl d_M_powerOf_41 ?_
    refine lv_iload_n hx hb d_M_powerOf_44 rfl (lv_at hl 3 rfl) ?_
    obtain ⟨g12, h⟩ := hx_gs h
    refine va_iald hx hb hK hP (2) 1 hm_at_fF rfl g12 d_M_powerOf_45 ?_
    refine lv_isub hx hb d_M_powerOf_46 ?_
    refine lv_goto (tgt := 75) hx hb d_M_powerOf_47 (by decide) ?_
    exact W.iret hx hb hr (fun t ht hW => ⟨by rw [Option.some.inj h], ht⟩) (fun q hq => nomatch hq) d_M_powerOf_75
abbrev m_M_part : Room := { frames := 4, cells := 0, slots := 0, locals := 93 }
set_option maxHeartbeats 4000000 in
set_option maxRecDepth 100000 in
theorem c_M_part (l : Launch) (D : va_G) (T3 : hx_T3) (bd : Nat → Nat) (τ : hm_S) (x1 : Int32) (x2 : Int32) (x3 : Int32) (r0 : Int32) (h : f_M_part τ x1 x2 x3 = some r0) : hx_R l D (hx_ty T3) (hm_W T3 bd τ) y_M_part w_M_part m_M_part [.ref (bd 0), .int x1, .int x2, .int x3] (.int r0) := by
  refine Met.ofW (cc := b_M_part) (maxL := 6) (ret := (some .int)) (by decide) rfl ?_
  intro p e s m args below meth c s₁ B hml hv
  obtain ⟨hargs, hP, hK⟩ := hv
  have hx := B.exec
  have hb := B.bytes
  have hr := B.returns
  have hts := atoms_spec (ws := w_M_part) B.pre
  have hown : s.vm.findClass "HalfFloatsModel" = some m.cls := findClass_of_methodNamed B.named
  have hlocks := B.notSynchronized
  refine W.eq (g2 := F0 m 0 ((lg_sl [.ref (bd 0), .int x1, .int x2, .int x3] ++ List.replicate (6 - (lg_sl [.ref (bd 0), .int x1, .int x2, .int x3]).length) Slot.unset).toArray) []) (by rw [hargs, lg_entry_eq]) ?_
  have hl := lv_entry ([.ref (bd 0), .int x1, .int x2, .int x3]) (n := 6) (Nat.le_of_ble_eq_true rfl)
  generalize (lg_sl ([.ref (bd 0), .int x1, .int x2, .int x3]) ++ List.replicate (6 - (lg_sl ([.ref (bd 0), .int x1, .int x2, .int x3])).length) Slot.unset).toArray = ls at hl ⊢
  have hl : lv_has ls 6 [(0, .ref (bd 0)), (1, .int x1), (2, .int x2), (3, .int x3)] := hl
  rw [f_M_part] at h
  refine lv_iload_n hx hb d_M_part_0 rfl (lv_at hl 1 rfl) ?_
  obtain ⟨r4, er4, h⟩ := hx_b1s h
  refine hx_rd (va_runS (As := [.int x1]) (rest := []) ⟨hx, hb, hml, hown, hts⟩ (c_M_isFormat l D T3 x1 _ er4) (va_cwS 1 hts (hx_gS hx_cons k_624 k_625 k_55 k_626) rfl rfl rfl (by decide +kernel) ⟨Nat.le_of_ble_eq_true rfl, Nat.le_of_ble_eq_true rfl⟩) (hx_preS hx_nil hK) rfl rfl hl.1 rfl (lv_room (Nat.le_of_ble_eq_true rfl)) d_M_part_1 ⟨Nat.zero_le _, Nat.zero_le _⟩) ?_
  refine lv_if_eq (tgt := 28) hx hb d_M_part_4 (by decide) (fun c5 => ?_) (fun c5 => ?_)
  · replace h := hx_ip c5 h
    refine lv_ldc (v := 1000000) hx hb hown (hts _ (hx_cons _ k_665)) d_M_part_28 ?_
    exact W.iret hx hb hr (fun t ht hW => ⟨by rw [Option.some.inj h], ht⟩) (fun q hq => nomatch hq) d_M_part_30
  · replace h := hx_in c5 h
    refine lv_aload_n hx hb d_M_part_7 rfl (lv_at hl 0 rfl) ?_
    refine lv_iload_n hx hb d_M_part_8 rfl (lv_at hl 1 rfl) ?_
    refine lv_iload_n hx hb d_M_part_9 rfl (lv_at hl 2 rfl) ?_
    obtain ⟨r6, er6, h⟩ := hx_b1s h
    refine hx_rd (va_runV (As := [.int x1, .int x2]) (rest := []) ⟨hx, hb, hml, hown, hts⟩ (c_M_isPattern l D T3 bd τ x1 x2 _ er6) (cwV 2 hts (hx_gV hx_cons k_655 k_657 k_26 k_55 k_658) rfl rfl rfl (by decide +kernel) ⟨Nat.le_of_ble_eq_true rfl, Nat.le_of_ble_eq_true rfl⟩) (hx_preV (va_recv hK hP (ci := 5) (q0 := 0) rfl hm_at_M) hP hK) rfl rfl hl.1 rfl (lv_room (Nat.le_of_ble_eq_true rfl)) d_M_part_10 ⟨Nat.zero_le _, Nat.zero_le _⟩) ?_
    refine lv_if_eq (tgt := 28) hx hb d_M_part_13 (by decide) (fun c7 => ?_) (fun c7 => ?_)
    · replace h := hx_ip c7 h
      refine lv_ldc (v := 1000000) hx hb hown (hts _ (hx_cons _ k_665)) d_M_part_28 ?_
      exact W.iret hx hb hr (fun t ht hW => ⟨by rw [Option.some.inj h], ht⟩) (fun q hq => nomatch hq) d_M_part_30
    · replace h := hx_in c7 h
      refine lv_iload_n hx hb d_M_part_16 rfl (lv_at hl 3 rfl) ?_
      refine lv_i2l hx hb d_M_part_17 rfl ?_
      refine lv_lconst (v := 0) hx hb d_M_part_18 rfl ?_
      refine lv_ldc2 (v := 3) hx hb hown (hts _ (hx_cons _ k_627)) d_M_part_19 ?_
      obtain ⟨r8, er8, h⟩ := hx_b1s h
      refine hx_rd (va_runS (As := [.long x3.toInt64, .long (0 : Int64), .long (3 : Int64)]) (rest := []) ⟨hx, hb, hml, hown, hts⟩ (c_M_isIn l D T3 x3.toInt64 (0 : Int64) (3 : Int64) _ er8) (va_cwS 3 hts (hx_gS hx_cons k_628 k_629 k_55 k_630) rfl rfl rfl (by decide +kernel) ⟨Nat.le_of_ble_eq_true rfl, Nat.le_of_ble_eq_true rfl⟩) (hx_preS hx_nil hK) rfl rfl hl.1 rfl (lv_room (Nat.le_of_ble_eq_true rfl)) d_M_part_22 ⟨Nat.zero_le _, Nat.zero_le _⟩) ?_
      refine lv_if_ne (tgt := 31) hx hb d_M_part_25 (by decide) (fun c9 => ?_) (fun c9 => ?_)
      · replace h := hx_in c9 h
        refine lv_aload_n hx hb d_M_part_31 rfl (lv_at hl 0 rfl) ?_
        refine lv_iload_n hx hb d_M_part_32 rfl (lv_at hl 1 rfl) ?_
        refine lv_iload_n hx hb d_M_part_33 rfl (lv_at hl 2 rfl) ?_
        obtain ⟨r10, er10, h⟩ := hx_b1s h
        refine hx_rd (va_runV (As := [.int x1, .int x2]) (rest := []) ⟨hx, hb, hml, hown, hts⟩ (c_M_pattern l D T3 bd τ x1 x2 _ er10) (cwV 2 hts (hx_gV hx_cons k_659 k_661 k_27 k_55 k_662) rfl rfl rfl (by decide +kernel) ⟨Nat.le_of_ble_eq_true rfl, Nat.le_of_ble_eq_true rfl⟩) (hx_preV (va_recv hK hP (ci := 5) (q0 := 0) rfl hm_at_M) hP hK) rfl rfl hl.1 rfl (lv_room (Nat.le_of_ble_eq_true rfl)) d_M_part_34 ⟨Nat.zero_le _, Nat.zero_le _⟩) ?_
        refine lv_lstore (lv' := [(4, .long r10), (0, .ref (bd 0)), (1, .int x1), (2, .int x2), (3, .int x3)]) hx hb d_M_part_37 hl (by decide) rfl (fun ls hl => ?_)
        refine lv_iload_n hx hb d_M_part_39 rfl (lv_at hl 4 rfl) ?_
        by_cases c11 : x3 = 0
        · replace h := hx_ip c11 h
          refine lv_tableIn (tgt := 68) hx hb d_M_part_40 (by rw [c11]; decide) (by rw [c11]; decide) (by rw [c11]; rfl) (by decide) ?_
          refine lv_aload_n hx hb d_M_part_68 rfl (lv_at hl 1 rfl) ?_
          refine lv_iload_n hx hb d_M_part_69 rfl (lv_at hl 2 rfl) ?_
          refine lv_lload hx hb d_M_part_70 (lv_at hl 0 rfl) ?_
          obtain ⟨r12, er12, h⟩ := hx_b1s h
          refine hx_rd (va_runV (As := [.int x1, .long r10]) (rest := []) ⟨hx, hb, hml, hown, hts⟩ (c_M_sortOf l D T3 bd τ x1 r10 _ er12) (cwV 2 hts (hx_gV hx_cons k_666 k_668 k_28 k_55 k_669) rfl rfl rfl (by decide +kernel) ⟨Nat.le_of_ble_eq_true rfl, Nat.le_of_ble_eq_true rfl⟩) (hx_preV (va_recv hK hP (ci := 5) (q0 := 0) rfl hm_at_M) hP hK) rfl rfl hl.1 rfl (lv_room (Nat.le_of_ble_eq_true rfl)) d_M_part_72 ⟨Nat.zero_le _, Nat.zero_le _⟩) ?_
          exact W.iret hx hb hr (fun t ht hW => ⟨by rw [Option.some.inj h], ht⟩) (fun q hq => nomatch hq) d_M_part_75
        · replace h := hx_in c11 h
          by_cases c13 : x3 = 1
          · replace h := hx_ip c13 h
            refine lv_tableIn (tgt := 76) hx hb d_M_part_40 (by rw [c13]; decide) (by rw [c13]; decide) (by rw [c13]; rfl) (by decide) ?_
            refine lv_aload_n hx hb d_M_part_76 rfl (lv_at hl 1 rfl) ?_
            refine lv_iload_n hx hb d_M_part_77 rfl (lv_at hl 2 rfl) ?_
            refine lv_lload hx hb d_M_part_78 (lv_at hl 0 rfl) ?_
            obtain ⟨r14, er14, h⟩ := hx_b1s h
            refine hx_rd (va_runV (As := [.int x1, .long r10]) (rest := []) ⟨hx, hb, hml, hown, hts⟩ (c_M_isBelow l D T3 bd τ x1 r10 _ er14) (cwV 2 hts (hx_gV hx_cons k_670 k_672 k_29 k_55 k_673) rfl rfl rfl (by decide +kernel) ⟨Nat.le_of_ble_eq_true rfl, Nat.le_of_ble_eq_true rfl⟩) (hx_preV (va_recv hK hP (ci := 5) (q0 := 0) rfl hm_at_M) hP hK) rfl rfl hl.1 rfl (lv_room (Nat.le_of_ble_eq_true rfl)) d_M_part_80 ⟨Nat.zero_le _, Nat.zero_le _⟩) ?_
            refine lv_if_eq (tgt := 90) hx hb d_M_part_83 (by decide) (fun c15 => ?_) (fun c15 => ?_)
            · replace h := hx_ip c15 h
              refine lv_iconst (v := 0) hx hb d_M_part_90 (by decide) ?_
              exact W.iret hx hb hr (fun t ht hW => ⟨by rw [Option.some.inj h], ht⟩) (fun q hq => nomatch hq) d_M_part_91
            · replace h := hx_in c15 h
              refine lv_iconst (v := 1) hx hb d_M_part_86 (by decide) ?_
              refine lv_goto (tgt := 91) hx hb d_M_part_87 (by decide) ?_
              exact W.iret hx hb hr (fun t ht hW => ⟨by rw [Option.some.inj h], ht⟩) (fun q hq => nomatch hq) d_M_part_91
          · replace h := hx_in c13 h
            by_cases c16 : x3 = 2
            · replace h := hx_ip c16 h
              refine lv_tableIn (tgt := 92) hx hb d_M_part_40 (by rw [c16]; decide) (by rw [c16]; decide) (by rw [c16]; rfl) (by decide) ?_
              refine lv_aload_n hx hb d_M_part_92 rfl (lv_at hl 1 rfl) ?_
              refine lv_iload_n hx hb d_M_part_93 rfl (lv_at hl 2 rfl) ?_
              refine lv_lload hx hb d_M_part_94 (lv_at hl 0 rfl) ?_
              obtain ⟨r17, er17, h⟩ := hx_b1s h
              refine hx_rd (va_runV (As := [.int x1, .long r10]) (rest := []) ⟨hx, hb, hml, hown, hts⟩ (c_M_wholeOf l D T3 bd τ x1 r10 _ er17) (cwV 2 hts (hx_gV hx_cons k_674 k_676 k_30 k_55 k_677) rfl rfl rfl (by decide +kernel) ⟨Nat.le_of_ble_eq_true rfl, Nat.le_of_ble_eq_true rfl⟩) (hx_preV (va_recv hK hP (ci := 5) (q0 := 0) rfl hm_at_M) hP hK) rfl rfl hl.1 rfl (lv_room (Nat.le_of_ble_eq_true rfl)) d_M_part_96 ⟨Nat.zero_le _, Nat.zero_le _⟩) ?_
              refine lv_l2i hx hb d_M_part_99 rfl ?_
              exact W.iret hx hb hr (fun t ht hW => ⟨by rw [Option.some.inj h], ht⟩) (fun q hq => nomatch hq) d_M_part_100
            · replace h := hx_in c16 h
              have tc11 := lv_neT (a := 0) c11 (by decide)
              have tc13 := lv_neT (a := 1) c13 (by decide)
              have tc16 := lv_neT (a := 2) c16 (by decide)
              refine lv_tableOut (tgt := 101) hx hb d_M_part_40 (by omega) (by decide) ?_
              refine lv_aload_n hx hb d_M_part_101 rfl (lv_at hl 1 rfl) ?_
              refine lv_iload_n hx hb d_M_part_102 rfl (lv_at hl 2 rfl) ?_
              refine lv_lload hx hb d_M_part_103 (lv_at hl 0 rfl) ?_
              obtain ⟨r18, er18, h⟩ := hx_b1s h
              refine hx_rd (va_runV (As := [.int x1, .long r10]) (rest := []) ⟨hx, hb, hml, hown, hts⟩ (c_M_powerOf l D T3 bd τ x1 r10 _ er18) (cwV 2 hts (hx_gV hx_cons k_678 k_680 k_31 k_55 k_681) rfl rfl rfl (by decide +kernel) ⟨Nat.le_of_ble_eq_true rfl, Nat.le_of_ble_eq_true rfl⟩) (hx_preV (va_recv hK hP (ci := 5) (q0 := 0) rfl hm_at_M) hP hK) rfl rfl hl.1 rfl (lv_room (Nat.le_of_ble_eq_true rfl)) d_M_part_105 ⟨Nat.zero_le _, Nat.zero_le _⟩) ?_
              exact W.iret hx hb hr (fun t ht hW => ⟨by rw [Option.some.inj h], ht⟩) (fun q hq => nomatch hq) d_M_part_108
      · replace h := hx_ip c9 h
        refine lv_ldc (v := 1000000) hx hb hown (hts _ (hx_cons _ k_665)) d_M_part_28 ?_
        exact W.iret hx hb hr (fun t ht hW => ⟨by rw [Option.some.inj h], ht⟩) (fun q hq => nomatch hq) d_M_part_30
abbrev m_M_begin : Room := { frames := 0, cells := 0, slots := 0, locals := 0 }
set_option maxHeartbeats 4000000 in
set_option maxRecDepth 100000 in
theorem c_M_begin (l : Launch) (D : va_G) (T3 : hx_T3) (bd : Nat → Nat) (sz : Nat) (τ : hm_S)  (σ0 : hm_S) (h : f_M_begin τ = some σ0) : hx_Wv l D (hx_ty T3) y_M_begin w_M_begin m_M_begin [.ref (bd 0)] sz (hm_W T3 bd τ) (hm_W T3 bd σ0) := by
  refine Met.ofW (cc := b_M_begin) (maxL := 2) (ret := none) (by decide) rfl ?_
  intro p e s m args below meth c s₁ B hml hv
  obtain ⟨hargs, hsz, hP, hK, hD0⟩ := hv
  have hx := B.exec
  have hb := B.bytes
  have hr := B.returns
  have hts := atoms_spec (ws := w_M_begin) B.pre
  have hown : s.vm.findClass "HalfFloatsModel" = some m.cls := findClass_of_methodNamed B.named
  have hlocks := B.notSynchronized
  subst hsz
  have hD := hD0.self (sz := s.heap.size)
  generalize hAe : va_A (hm_W T3 bd τ) s.heap.size = A at hD ⊢
  have hA : ∀ q : Nat, s.heap.size ≤ q → A q := fun q h => by rw [← hAe]; exact Or.inr h
  have hS : va_S A s.heap s.heap [] := va_S.rf
  have B_2 : ∀ (n : Nat), ∀ (σ : hm_S) (x1 : Int32) (H : Heap) (locs : List Loc) (ls : Array Slot), va_P D vwCl (hm_W T3 bd σ) H → va_D A (hm_W T3 bd σ) → va_S A s.heap H locs → lv_has ls 2 [(0, .ref (bd 0)), (1, .int x1)] → f_M_begin_2 n σ x1 = some σ0 → W p l e (headSpec w_M_begin m_M_begin).room s m args below meth c H locs 0 0 (MQ below (hx_Qv D (hx_ty T3) A (hm_W T3 bd σ0)) args s 0 0 A) (F0 m 2 ls []) := by
    intro n
    induction n with
    | zero =>
      intro σ x1 H locs ls hP hD hS hl h
      rw [f_M_begin_2] at h
      cases h
    | succ n ih =>
        intro σ x1 H locs ls hP hD hS hl h
        rw [f_M_begin_2] at h
        refine lv_iload_n hx hb d_M_begin_2 rfl (lv_at hl 1 rfl) ?_
        refine lv_bipush (v := 24) hx hb d_M_begin_3 (by decide) ?_
        refine lv_icmp_ge (tgt := 21) hx hb d_M_begin_5 (by decide) (fun c2 => ?_) (fun c2 => ?_)
        · replace h := hx_ip c2 h
          refine lv_aload_n hx hb d_M_begin_21 rfl (lv_at hl 0 rfl) ?_
          refine lv_iconst (v := 0) hx hb d_M_begin_22 (by decide) ?_
          refine va_put (D := D) (ci := 5) (v := .int (0 : Int32)) (ty := .int) (C := "HalfFloatsModel") (T := T_M) (N := 21) hx hb hts (hx_up in_M) ty_M tyok_M nm_M hown hK hP hD hS (0) hm_at_M rfl 12 (by decide) (hts _ (hx_cons _ k_568)) (fun _ h9 => h9) rfl (by decide +kernel) rfl rfl (Nat.le_of_ble_eq_true rfl) d_M_begin_23 (fun H locs hP hD hS => ?_)
          obtain ⟨σ3, eσ3⟩ : ∃ y : hm_S, y = (hm_terms_s σ (0 : Int32)) := ⟨_, rfl⟩
          replace hP : va_P D vwCl (hm_W T3 bd σ3) H := by rw [eσ3]; exact hP
          replace hD : va_D A (hm_W T3 bd σ3) := by rw [eσ3]; exact hD
          replace h := hx_ns eσ3 h
          clear eσ3
          refine lv_aload_n hx hb d_M_begin_26 rfl (lv_at hl 0 rfl) ?_
          refine lv_iconst (v := 0) hx hb d_M_begin_27 (by decide) ?_
          refine va_put (D := D) (ci := 5) (v := .int (0 : Int32)) (ty := .boolean) (C := "HalfFloatsModel") (T := T_M) (N := 21) hx hb hts (hx_up in_M) ty_M tyok_M nm_M hown hK hP hD hS (0) hm_at_M rfl 13 (by decide) (hts _ (hx_cons _ k_569)) (fun _ h9 => h9) rfl (by decide +kernel) (hx_nb (Or.inl rfl)) (hx_fb (Or.inl rfl)) (Nat.le_of_ble_eq_true rfl) d_M_begin_28 (fun H locs hP hD hS => ?_)
          obtain ⟨σ4, eσ4⟩ : ∃ y : hm_S, y = (hm_hasNan_s σ3 (0 : Int32)) := ⟨_, rfl⟩
          replace hP : va_P D vwCl (hm_W T3 bd σ4) H := by rw [eσ4]; exact hP
          replace hD : va_D A (hm_W T3 bd σ4) := by rw [eσ4]; exact hD
          replace h := hx_ns eσ4 h
          clear eσ4
          refine lv_aload_n hx hb d_M_begin_31 rfl (lv_at hl 0 rfl) ?_
          refine lv_iconst (v := 0) hx hb d_M_begin_32 (by decide) ?_
          refine va_put (D := D) (ci := 5) (v := .int (0 : Int32)) (ty := .boolean) (C := "HalfFloatsModel") (T := T_M) (N := 21) hx hb hts (hx_up in_M) ty_M tyok_M nm_M hown hK hP hD hS (0) hm_at_M rfl 14 (by decide) (hts _ (hx_cons _ k_570)) (fun _ h9 => h9) rfl (by decide +kernel) (hx_nb (Or.inl rfl)) (hx_fb (Or.inl rfl)) (Nat.le_of_ble_eq_true rfl) d_M_begin_33 (fun H locs hP hD hS => ?_)
          obtain ⟨σ5, eσ5⟩ : ∃ y : hm_S, y = (hm_isWrong_s σ4 (0 : Int32)) := ⟨_, rfl⟩
          replace hP : va_P D vwCl (hm_W T3 bd σ5) H := by rw [eσ5]; exact hP
          replace hD : va_D A (hm_W T3 bd σ5) := by rw [eσ5]; exact hD
          replace h := hx_ns eσ5 h
          clear eσ5
          refine lv_aload_n hx hb d_M_begin_36 rfl (lv_at hl 0 rfl) ?_
          refine lv_iconst (v := 0) hx hb d_M_begin_37 (by decide) ?_
          refine va_put (D := D) (ci := 5) (v := .int (0 : Int32)) (ty := .boolean) (C := "HalfFloatsModel") (T := T_M) (N := 21) hx hb hts (hx_up in_M) ty_M tyok_M nm_M hown hK hP hD hS (0) hm_at_M rfl 15 (by decide) (hts _ (hx_cons _ k_571)) (fun _ h9 => h9) rfl (by decide +kernel) (hx_nb (Or.inl rfl)) (hx_fb (Or.inl rfl)) (Nat.le_of_ble_eq_true rfl) d_M_begin_38 (fun H locs hP hD hS => ?_)
          obtain ⟨σ6, eσ6⟩ : ∃ y : hm_S, y = (hm_hasAbove_s σ5 (0 : Int32)) := ⟨_, rfl⟩
          replace hP : va_P D vwCl (hm_W T3 bd σ6) H := by rw [eσ6]; exact hP
          replace hD : va_D A (hm_W T3 bd σ6) := by rw [eσ6]; exact hD
          replace h := hx_ns eσ6 h
          clear eσ6
          refine lv_aload_n hx hb d_M_begin_41 rfl (lv_at hl 0 rfl) ?_
          refine lv_iconst (v := 0) hx hb d_M_begin_42 (by decide) ?_
          refine va_put (D := D) (ci := 5) (v := .int (0 : Int32)) (ty := .boolean) (C := "HalfFloatsModel") (T := T_M) (N := 21) hx hb hts (hx_up in_M) ty_M tyok_M nm_M hown hK hP hD hS (0) hm_at_M rfl 16 (by decide) (hts _ (hx_cons _ k_572)) (fun _ h9 => h9) rfl (by decide +kernel) (hx_nb (Or.inl rfl)) (hx_fb (Or.inl rfl)) (Nat.le_of_ble_eq_true rfl) d_M_begin_43 (fun H locs hP hD hS => ?_)
          obtain ⟨σ7, eσ7⟩ : ∃ y : hm_S, y = (hm_hasBelow_s σ6 (0 : Int32)) := ⟨_, rfl⟩
          replace hP : va_P D vwCl (hm_W T3 bd σ7) H := by rw [eσ7]; exact hP
          replace hD : va_D A (hm_W T3 bd σ7) := by rw [eσ7]; exact hD
          replace h := hx_ns eσ7 h
          clear eσ7
          refine lv_aload_n hx hb d_M_begin_46 rfl (lv_at hl 0 rfl) ?_
          refine lv_iconst (v := 1) hx hb d_M_begin_47 (by decide) ?_
          refine va_put (D := D) (ci := 5) (v := .int (1 : Int32)) (ty := .boolean) (C := "HalfFloatsModel") (T := T_M) (N := 21) hx hb hts (hx_up in_M) ty_M tyok_M nm_M hown hK hP hD hS (0) hm_at_M rfl 17 (by decide) (hts _ (hx_cons _ k_573)) (fun _ h9 => h9) rfl (by decide +kernel) (hx_nb (Or.inr rfl)) (hx_fb (Or.inr rfl)) (Nat.le_of_ble_eq_true rfl) d_M_begin_48 (fun H locs hP hD hS => ?_)
          obtain ⟨σ8, eσ8⟩ : ∃ y : hm_S, y = (hm_allZero_s σ7 (1 : Int32)) := ⟨_, rfl⟩
          replace hP : va_P D vwCl (hm_W T3 bd σ8) H := by rw [eσ8]; exact hP
          replace hD : va_D A (hm_W T3 bd σ8) := by rw [eσ8]; exact hD
          replace h := hx_ns eσ8 h
          clear eσ8
          refine lv_aload_n hx hb d_M_begin_51 rfl (lv_at hl 0 rfl) ?_
          refine lv_iconst (v := 0) hx hb d_M_begin_52 (by decide) ?_
          refine va_put (D := D) (ci := 5) (v := .int (0 : Int32)) (ty := .boolean) (C := "HalfFloatsModel") (T := T_M) (N := 21) hx hb hts (hx_up in_M) ty_M tyok_M nm_M hown hK hP hD hS (0) hm_at_M rfl 18 (by decide) (hts _ (hx_cons _ k_574)) (fun _ h9 => h9) rfl (by decide +kernel) (hx_nb (Or.inl rfl)) (hx_fb (Or.inl rfl)) (Nat.le_of_ble_eq_true rfl) d_M_begin_53 (fun H locs hP hD hS => ?_)
          obtain ⟨σ9, eσ9⟩ : ∃ y : hm_S, y = (hm_hasPlus_s σ8 (0 : Int32)) := ⟨_, rfl⟩
          replace hP : va_P D vwCl (hm_W T3 bd σ9) H := by rw [eσ9]; exact hP
          replace hD : va_D A (hm_W T3 bd σ9) := by rw [eσ9]; exact hD
          replace h := hx_ns eσ9 h
          clear eσ9
          refine lv_aload_n hx hb d_M_begin_56 rfl (lv_at hl 0 rfl) ?_
          refine lv_iconst (v := 0) hx hb d_M_begin_57 (by decide) ?_
          refine va_put (D := D) (ci := 5) (v := .int (0 : Int32)) (ty := .boolean) (C := "HalfFloatsModel") (T := T_M) (N := 21) hx hb hts (hx_up in_M) ty_M tyok_M nm_M hown hK hP hD hS (0) hm_at_M rfl 19 (by decide) (hts _ (hx_cons _ k_575)) (fun _ h9 => h9) rfl (by decide +kernel) (hx_nb (Or.inl rfl)) (hx_fb (Or.inl rfl)) (Nat.le_of_ble_eq_true rfl) d_M_begin_58 (fun H locs hP hD hS => ?_)
          obtain ⟨σ10, eσ10⟩ : ∃ y : hm_S, y = (hm_hasMinus_s σ9 (0 : Int32)) := ⟨_, rfl⟩
          replace hP : va_P D vwCl (hm_W T3 bd σ10) H := by rw [eσ10]; exact hP
          replace hD : va_D A (hm_W T3 bd σ10) := by rw [eσ10]; exact hD
          replace h := hx_ns eσ10 h
          clear eσ10
          exact W.vret hx hb hr (fun t ht hW => hx_endv h ht hW hP hK hD hS) hS.2.2 d_M_begin_61
        · replace h := hx_in c2 h
          refine lv_aload_n hx hb d_M_begin_8 rfl (lv_at hl 0 rfl) ?_
          refine va_get (D := D) (ci := 5) (v := .ref (bd 7)) (C := "HalfFloatsModel") (T := T_M) (N := 21) hx hb hts (hx_up in_M) hown hK hP (0) hm_at_M rfl 11 (by decide) (hts _ (hx_cons _ k_567)) (fun _ h9 => h9) rfl d_M_begin_9 ?_
          refine lv_iload_n hx hb d_M_begin_12 rfl (lv_at hl 1 rfl) ?_
          refine lv_lconst (v := 0) hx hb d_M_begin_13 rfl ?_
          obtain ⟨g11, h⟩ := hx_gs h
          refine va_last hx hb hK hP hD hS (7) 2 hm_at_limb rfl g11 d_M_begin_14 (fun H locs hP hD hS => ?_)
          obtain ⟨σ12, eσ12⟩ : ∃ y : hm_S, y = (hm_limb_s σ x1.toNatClampNeg (0 : Int64)) := ⟨_, rfl⟩
          replace hP : va_P D vwCl (hm_W T3 bd σ12) H := by rw [eσ12]; exact hP
          replace hD : va_D A (hm_W T3 bd σ12) := by rw [eσ12]; exact hD
          replace h := hx_ns eσ12 h
          clear eσ12
          obtain ⟨x13, ex13⟩ : ∃ y : Int32, y = x1 + 1 := ⟨_, rfl⟩
          replace h := hx_ns ex13 h
          refine lv_iinc (v := x13) (lv' := [(1, .int x13), (0, .ref (bd 0))]) hx hb d_M_begin_15 hl (k := 1) rfl (by rw [ex13]; rfl) (by decide) rfl (fun ls hl => ?_)
          clear ex13
          refine lv_goto (tgt := 2) hx hb d_M_begin_18 (by decide) ?_
          exact ih σ12 x13 _ _ ls hP hD hS (lv_sub hl [1, 0] rfl) h
  refine W.eq (g2 := F0 m 0 ((lg_sl [.ref (bd 0)] ++ List.replicate (2 - (lg_sl [.ref (bd 0)]).length) Slot.unset).toArray) []) (by rw [hargs, lg_entry_eq]) ?_
  have hl := lv_entry ([.ref (bd 0)]) (n := 2) (Nat.le_of_ble_eq_true rfl)
  generalize (lg_sl ([.ref (bd 0)]) ++ List.replicate (2 - (lg_sl ([.ref (bd 0)])).length) Slot.unset).toArray = ls at hl ⊢
  have hl : lv_has ls 2 [(0, .ref (bd 0))] := hl
  rw [f_M_begin] at h
  refine lv_iconst (v := 0) hx hb d_M_begin_0 (by decide) ?_
  refine lv_istore_n (lv' := [(1, .int (0 : Int32)), (0, .ref (bd 0))]) hx hb d_M_begin_1 rfl hl (by decide) rfl (fun ls hl => ?_)
  exact B_2 hx_fuel τ (0 : Int32) _ _ ls hP hD hS (lv_sub hl [1, 0] rfl) h
abbrev m_M_put : Room := { frames := 0, cells := 0, slots := 0, locals := 0 }
set_option maxHeartbeats 4000000 in
set_option maxRecDepth 100000 in
theorem c_M_put (l : Launch) (D : va_G) (T3 : hx_T3) (bd : Nat → Nat) (sz : Nat) (τ : hm_S) (x1 : Int64) (x2 : Int32) (x3 : Int32)  (σ0 : hm_S) (h : f_M_put τ x1 x2 x3 = some σ0) : hx_Wv l D (hx_ty T3) y_M_put w_M_put m_M_put [.ref (bd 0), .long x1, .int x2, .int x3] sz (hm_W T3 bd τ) (hm_W T3 bd σ0) := by
  refine Met.ofW (cc := b_M_put) (maxL := 19) (ret := none) (by decide) rfl ?_
  intro p e s m args below meth c s₁ B hml hv
  obtain ⟨hargs, hsz, hP, hK, hD0⟩ := hv
  have hx := B.exec
  have hb := B.bytes
  have hr := B.returns
  have hts := atoms_spec (ws := w_M_put) B.pre
  have hown : s.vm.findClass "HalfFloatsModel" = some m.cls := findClass_of_methodNamed B.named
  have hlocks := B.notSynchronized
  subst hsz
  have hD := hD0.self (sz := s.heap.size)
  generalize hAe : va_A (hm_W T3 bd τ) s.heap.size = A at hD ⊢
  have hA : ∀ q : Nat, s.heap.size ≤ q → A q := fun q h => by rw [← hAe]; exact Or.inr h
  have hS : va_S A s.heap s.heap [] := va_S.rf
  have B_95 : ∀ (K36 : hm_S → Int32 → Int32 → Int64 → Int64 → Int64 → Int32 → Option hm_S) (hK36 : ∀ (σ : hm_S) (x8 : Int32) (x9 : Int32) (x10 : Int64) (x11 : Int64) (x12 : Int64) (x13 : Int32) (H : Heap) (locs : List Loc) (ls : Array Slot), va_P D vwCl (hm_W T3 bd σ) H → va_D A (hm_W T3 bd σ) → va_S A s.heap H locs → lv_has ls 19 [(0, .ref (bd 0)), (4, .int x8), (5, .int x9), (8, .long x10), (10, .long x11), (12, .long x12), (14, .int x13)] → K36 σ x8 x9 x10 x11 x12 x13 = some σ0 → W p l e (headSpec w_M_put m_M_put).room s m args below meth c H locs 0 0 (MQ below (hx_Qv D (hx_ty T3) A (hm_W T3 bd σ0)) args s 0 0 A) (F0 m 36 ls [])), ∀ (σ : hm_S) (x26 : Int32) (x27 : Int32) (x28 : Int64) (x29 : Int64) (x30 : Int32) (x31 : Int64) (x32 : Int64) (H : Heap) (locs : List Loc) (ls : Array Slot), va_P D vwCl (hm_W T3 bd σ) H → va_D A (hm_W T3 bd σ) → va_S A s.heap H locs → lv_has ls 19 [(0, .ref (bd 0)), (4, .int x26), (5, .int x27), (8, .long x28), (10, .long x29), (14, .int x30)] → f_M_put_95 K36 σ x26 x27 x28 x29 x30 x31 x32 = some σ0 → W p l e (headSpec w_M_put m_M_put).room s m args below meth c H locs 0 0 (MQ below (hx_Qv D (hx_ty T3) A (hm_W T3 bd σ0)) args s 0 0 A) (F0 m 95 ls [.long x32, .long x31]) := by
      intro K36 hK36
      intro σ x26 x27 x28 x29 x30 x31 x32 H locs ls hP hD hS hl h
      rw [f_M_put_95] at h
      refine lv_ladd hx hb d_M_put_95 ?_
      refine lv_topl (fun x33 ex33 => ?_)
      replace h := hx_ns ex33 h
      clear ex33
      refine lv_lstore (lv' := [(17, .long x33), (0, .ref (bd 0)), (4, .int x26), (5, .int x27), (8, .long x28), (10, .long x29), (14, .int x30)]) hx hb d_M_put_96 hl (by decide) rfl (fun ls hl => ?_)
      refine lv_aload_n hx hb d_M_put_98 rfl (lv_at hl 1 rfl) ?_
      refine va_get (D := D) (ci := 5) (v := .ref (bd 7)) (C := "HalfFloatsModel") (T := T_M) (N := 21) hx hb hts (hx_up in_M) hown hK hP (0) hm_at_M rfl 11 (by decide) (hts _ (hx_cons _ k_567)) (fun _ h9 => h9) rfl d_M_put_99 ?_
      refine lv_iload hx hb d_M_put_102 (lv_at hl 6 rfl) ?_
      refine lv_lload hx hb d_M_put_104 (lv_at hl 0 rfl) ?_
      refine lv_ldc2 (v := 4294967295) hx hb hown (hts _ (hx_cons _ k_663)) d_M_put_106 ?_
      refine lv_land hx hb d_M_put_109 ?_
      refine lv_topl (fun x34 ex34 => ?_)
      replace h := hx_ns ex34 h
      clear ex34
      obtain ⟨g35, h⟩ := hx_gs h
      refine va_last hx hb hK hP hD hS (7) 2 hm_at_limb rfl g35 d_M_put_110 (fun H locs hP hD hS => ?_)
      obtain ⟨σ36, eσ36⟩ : ∃ y : hm_S, y = (hm_limb_s σ x30.toNatClampNeg x34) := ⟨_, rfl⟩
      replace hP : va_P D vwCl (hm_W T3 bd σ36) H := by rw [eσ36]; exact hP
      replace hD : va_D A (hm_W T3 bd σ36) := by rw [eσ36]; exact hD
      replace h := hx_ns eσ36 h
      clear eσ36
      refine lv_lload hx hb d_M_put_111 (lv_at hl 0 rfl) ?_
      refine lv_bipush (v := 32) hx hb d_M_put_113 (by decide) ?_
      refine lv_lshr hx hb d_M_put_115 rfl ?_
      refine lv_topl (fun x37 ex37 => ?_)
      replace h := hx_ns ex37 h
      clear ex37
      refine lv_lstore (lv' := [(12, .long x37), (17, .long x33), (0, .ref (bd 0)), (4, .int x26), (5, .int x27), (8, .long x28), (10, .long x29), (14, .int x30)]) hx hb d_M_put_116 hl (by decide) rfl (fun ls hl => ?_)
      obtain ⟨x38, ex38⟩ : ∃ y : Int32, y = x30 + 1 := ⟨_, rfl⟩
      replace h := hx_ns ex38 h
      refine lv_iinc (v := x38) (lv' := [(14, .int x38), (12, .long x37), (17, .long x33), (0, .ref (bd 0)), (4, .int x26), (5, .int x27), (8, .long x28), (10, .long x29)]) hx hb d_M_put_118 hl (k := 7) rfl (by rw [ex38]; rfl) (by decide) rfl (fun ls hl => ?_)
      clear ex38
      refine lv_goto (tgt := 36) hx hb d_M_put_121 (by decide) ?_
      exact hK36 σ36 x26 x27 x28 x29 x37 x38 _ _ ls hP hD hS (lv_sub hl [3, 4, 5, 6, 7, 1, 0] rfl) h
  have B_70 : ∀ (K36 : hm_S → Int32 → Int32 → Int64 → Int64 → Int64 → Int32 → Option hm_S) (hK36 : ∀ (σ : hm_S) (x8 : Int32) (x9 : Int32) (x10 : Int64) (x11 : Int64) (x12 : Int64) (x13 : Int32) (H : Heap) (locs : List Loc) (ls : Array Slot), va_P D vwCl (hm_W T3 bd σ) H → va_D A (hm_W T3 bd σ) → va_S A s.heap H locs → lv_has ls 19 [(0, .ref (bd 0)), (4, .int x8), (5, .int x9), (8, .long x10), (10, .long x11), (12, .long x12), (14, .int x13)] → K36 σ x8 x9 x10 x11 x12 x13 = some σ0 → W p l e (headSpec w_M_put m_M_put).room s m args below meth c H locs 0 0 (MQ below (hx_Qv D (hx_ty T3) A (hm_W T3 bd σ0)) args s 0 0 A) (F0 m 36 ls [])), ∀ (σ : hm_S) (x17 : Int32) (x18 : Int32) (x19 : Int64) (x20 : Int64) (x21 : Int64) (x22 : Int32) (x23 : Int64) (H : Heap) (locs : List Loc) (ls : Array Slot), va_P D vwCl (hm_W T3 bd σ) H → va_D A (hm_W T3 bd σ) → va_S A s.heap H locs → lv_has ls 19 [(0, .ref (bd 0)), (4, .int x17), (5, .int x18), (8, .long x19), (10, .long x20), (12, .long x21), (14, .int x22)] → f_M_put_70 K36 σ x17 x18 x19 x20 x21 x22 x23 = some σ0 → W p l e (headSpec w_M_put m_M_put).room s m args below meth c H locs 0 0 (MQ below (hx_Qv D (hx_ty T3) A (hm_W T3 bd σ0)) args s 0 0 A) (F0 m 70 ls [.long x23]) := by
      intro K36 hK36
      intro σ x17 x18 x19 x20 x21 x22 x23 H locs ls hP hD hS hl h
      rw [f_M_put_70] at h
      refine lv_lstore (lv' := [(15, .long x23), (0, .ref (bd 0)), (4, .int x17), (5, .int x18), (8, .long x19), (10, .long x20), (12, .long x21), (14, .int x22)]) hx hb d_M_put_70 hl (by decide) rfl (fun ls hl => ?_)
      refine lv_aload_n hx hb d_M_put_72 rfl (lv_at hl 1 rfl) ?_
      refine va_get (D := D) (ci := 5) (v := .ref (bd 7)) (C := "HalfFloatsModel") (T := T_M) (N := 21) hx hb hts (hx_up in_M) hown hK hP (0) hm_at_M rfl 11 (by decide) (hts _ (hx_cons _ k_567)) (fun _ h9 => h9) rfl d_M_put_73 ?_
      refine lv_iload hx hb d_M_put_76 (lv_at hl 7 rfl) ?_
      obtain ⟨g24, h⟩ := hx_gs h
      refine va_lald hx hb hK hP (7) 2 hm_at_limb rfl g24 d_M_put_78 ?_
      refine lv_lload hx hb d_M_put_79 (lv_at hl 6 rfl) ?_
      refine lv_ladd hx hb d_M_put_81 ?_
      refine lv_iload hx hb d_M_put_82 (lv_at hl 2 rfl) ?_
      refine lv_if_eq (tgt := 93) hx hb d_M_put_84 (by decide) (fun c25 => ?_) (fun c25 => ?_)
      · replace h := hx_ip c25 h
        refine lv_lload hx hb d_M_put_93 (lv_at hl 0 rfl) ?_
        exact B_95 K36 hK36 σ x17 x18 x19 x20 x22 ((hm_limb σ x22.toNatClampNeg) + x21) x23 _ _ ls hP hD hS (lv_sub hl [1, 2, 3, 4, 5, 7] rfl) h
      · replace h := hx_in c25 h
        refine lv_lload hx hb d_M_put_87 (lv_at hl 0 rfl) ?_
        refine lv_lneg hx hb d_M_put_89 ?_
        refine lv_goto (tgt := 95) hx hb d_M_put_90 (by decide) ?_
        exact B_95 K36 hK36 σ x17 x18 x19 x20 x22 ((hm_limb σ x22.toNatClampNeg) + x21) (-x23) _ _ ls hP hD hS (lv_sub hl [1, 2, 3, 4, 5, 7] rfl) h
  have B_36 : ∀ (n : Nat), ∀ (σ : hm_S) (x8 : Int32) (x9 : Int32) (x10 : Int64) (x11 : Int64) (x12 : Int64) (x13 : Int32) (H : Heap) (locs : List Loc) (ls : Array Slot), va_P D vwCl (hm_W T3 bd σ) H → va_D A (hm_W T3 bd σ) → va_S A s.heap H locs → lv_has ls 19 [(0, .ref (bd 0)), (4, .int x8), (5, .int x9), (8, .long x10), (10, .long x11), (12, .long x12), (14, .int x13)] → f_M_put_36 n σ x8 x9 x10 x11 x12 x13 = some σ0 → W p l e (headSpec w_M_put m_M_put).room s m args below meth c H locs 0 0 (MQ below (hx_Qv D (hx_ty T3) A (hm_W T3 bd σ0)) args s 0 0 A) (F0 m 36 ls []) := by
    intro n
    induction n with
    | zero =>
      intro σ x8 x9 x10 x11 x12 x13 H locs ls hP hD hS hl h
      rw [f_M_put_36] at h
      cases h
    | succ n ih =>
        intro σ x8 x9 x10 x11 x12 x13 H locs ls hP hD hS hl h
        rw [f_M_put_36] at h
        refine lv_iload hx hb d_M_put_36 (lv_at hl 6 rfl) ?_
        refine lv_bipush (v := 24) hx hb d_M_put_38 (by decide) ?_
        refine lv_icmp_ge (tgt := 124) hx hb d_M_put_40 (by decide) (fun c14 => ?_) (fun c14 => ?_)
        · replace h := hx_ip c14 h
          exact W.vret hx hb hr (fun t ht hW => hx_endv h ht hW hP hK hD hS) hS.2.2 d_M_put_124
        · replace h := hx_in c14 h
          refine lv_iload hx hb d_M_put_43 (lv_at hl 6 rfl) ?_
          refine lv_iload hx hb d_M_put_45 (lv_at hl 2 rfl) ?_
          refine lv_icmp_ne (tgt := 55) hx hb d_M_put_47 (by decide) (fun c15 => ?_) (fun c15 => ?_)
          · replace h := hx_in c15 h
            refine lv_iload hx hb d_M_put_55 (lv_at hl 6 rfl) ?_
            refine lv_iload hx hb d_M_put_57 (lv_at hl 2 rfl) ?_
            refine lv_iconst (v := 1) hx hb d_M_put_59 (by decide) ?_
            refine lv_iadd hx hb d_M_put_60 ?_
            refine lv_icmp_ne (tgt := 69) hx hb d_M_put_61 (by decide) (fun c16 => ?_) (fun c16 => ?_)
            · replace h := hx_in c16 h
              refine lv_lconst (v := 0) hx hb d_M_put_69 rfl ?_
              exact B_70 (f_M_put_36 n) ih σ x8 x9 x10 x11 x12 x13 (0 : Int64) _ _ ls hP hD hS (lv_sub hl [0, 1, 2, 3, 4, 5, 6] rfl) h
            · replace h := hx_ip c16 h
              refine lv_lload hx hb d_M_put_64 (lv_at hl 4 rfl) ?_
              refine lv_goto (tgt := 70) hx hb d_M_put_66 (by decide) ?_
              exact B_70 (f_M_put_36 n) ih σ x8 x9 x10 x11 x12 x13 x11 _ _ ls hP hD hS (lv_sub hl [0, 1, 2, 3, 4, 5, 6] rfl) h
          · replace h := hx_ip c15 h
            refine lv_lload hx hb d_M_put_50 (lv_at hl 3 rfl) ?_
            refine lv_goto (tgt := 70) hx hb d_M_put_52 (by decide) ?_
            exact B_70 (f_M_put_36 n) ih σ x8 x9 x10 x11 x12 x13 x10 _ _ ls hP hD hS (lv_sub hl [0, 1, 2, 3, 4, 5, 6] rfl) h
  refine W.eq (g2 := F0 m 0 ((lg_sl [.ref (bd 0), .long x1, .int x2, .int x3] ++ List.replicate (19 - (lg_sl [.ref (bd 0), .long x1, .int x2, .int x3]).length) Slot.unset).toArray) []) (by rw [hargs, lg_entry_eq]) ?_
  have hl := lv_entry ([.ref (bd 0), .long x1, .int x2, .int x3]) (n := 19) (Nat.le_of_ble_eq_true rfl)
  generalize (lg_sl ([.ref (bd 0), .long x1, .int x2, .int x3]) ++ List.replicate (19 - (lg_sl ([.ref (bd 0), .long x1, .int x2, .int x3])).length) Slot.unset).toArray = ls at hl ⊢
  have hl : lv_has ls 19 [(0, .ref (bd 0)), (1, .long x1), (3, .int x2), (4, .int x3)] := hl
  rw [f_M_put] at h
  refine lv_iload_n hx hb d_M_put_0 rfl (lv_at hl 2 rfl) ?_
  refine lv_bipush (v := 32) hx hb d_M_put_1 (by decide) ?_
  refine lv_idiv hx hb d_M_put_3 (by decide) ?_
  refine lv_topi (fun x4 ex4 => ?_)
  replace h := hx_ns ex4 h
  clear ex4
  refine lv_istore (lv' := [(5, .int x4), (0, .ref (bd 0)), (1, .long x1), (3, .int x2), (4, .int x3)]) hx hb d_M_put_4 hl (by decide) rfl (fun ls hl => ?_)
  refine lv_lload_n hx hb d_M_put_6 rfl (lv_at hl 2 rfl) ?_
  refine lv_iload_n hx hb d_M_put_7 rfl (lv_at hl 3 rfl) ?_
  refine lv_bipush (v := 32) hx hb d_M_put_8 (by decide) ?_
  refine lv_irem hx hb d_M_put_10 (by decide) ?_
  refine lv_lshl hx hb d_M_put_11 rfl ?_
  refine lv_topl (fun x5 ex5 => ?_)
  replace h := hx_ns ex5 h
  clear ex5
  refine lv_lstore (lv' := [(6, .long x5), (5, .int x4), (0, .ref (bd 0)), (1, .long x1), (3, .int x2), (4, .int x3)]) hx hb d_M_put_12 hl (by decide) rfl (fun ls hl => ?_)
  refine lv_lload hx hb d_M_put_14 (lv_at hl 0 rfl) ?_
  refine lv_ldc2 (v := 4294967295) hx hb hown (hts _ (hx_cons _ k_663)) d_M_put_16 ?_
  refine lv_land hx hb d_M_put_19 ?_
  refine lv_topl (fun x6 ex6 => ?_)
  replace h := hx_ns ex6 h
  clear ex6
  refine lv_lstore (lv' := [(8, .long x6), (6, .long x5), (5, .int x4), (0, .ref (bd 0)), (1, .long x1), (3, .int x2), (4, .int x3)]) hx hb d_M_put_20 hl (by decide) rfl (fun ls hl => ?_)
  refine lv_lload hx hb d_M_put_22 (lv_at hl 1 rfl) ?_
  refine lv_bipush (v := 32) hx hb d_M_put_24 (by decide) ?_
  refine lv_lushr hx hb d_M_put_26 rfl ?_
  refine lv_topl (fun x7 ex7 => ?_)
  replace h := hx_ns ex7 h
  clear ex7
  refine lv_lstore (lv' := [(10, .long x7), (8, .long x6), (6, .long x5), (5, .int x4), (0, .ref (bd 0)), (1, .long x1), (3, .int x2), (4, .int x3)]) hx hb d_M_put_27 hl (by decide) rfl (fun ls hl => ?_)
  refine lv_lconst (v := 0) hx hb d_M_put_29 rfl ?_
  refine lv_lstore (lv' := [(12, .long (0 : Int64)), (10, .long x7), (8, .long x6), (6, .long x5), (5, .int x4), (0, .ref (bd 0)), (1, .long x1), (3, .int x2), (4, .int x3)]) hx hb d_M_put_30 hl (by decide) rfl (fun ls hl => ?_)
  refine lv_iload hx hb d_M_put_32 (lv_at hl 4 rfl) ?_
  refine lv_istore (lv' := [(14, .int x4), (12, .long (0 : Int64)), (10, .long x7), (8, .long x6), (6, .long x5), (5, .int x4), (0, .ref (bd 0)), (1, .long x1), (3, .int x2), (4, .int x3)]) hx hb d_M_put_34 hl (by decide) rfl (fun ls hl => ?_)
  exact B_36 hx_fuel τ x3 x4 x6 x7 (0 : Int64) x4 _ _ ls hP hD hS (lv_sub hl [6, 9, 5, 3, 2, 1, 0] rfl) h
abbrev m_M_term : Room := { frames := 1, cells := 0, slots := 0, locals := 38 }
set_option maxHeartbeats 4000000 in
set_option maxRecDepth 100000 in
theorem c_M_term (l : Launch) (D : va_G) (T3 : hx_T3) (bd : Nat → Nat) (sz : Nat) (τ : hm_S) (x1 : Int32) (x2 : Int32) (x3 : Int64) (x4 : Int32)  (σ0 : hm_S) (h : f_M_term τ x1 x2 x3 x4 = some σ0) : hx_Wv l D (hx_ty T3) y_M_term w_M_term m_M_term [.ref (bd 0), .int x1, .int x2, .long x3, .int x4] sz (hm_W T3 bd τ) (hm_W T3 bd σ0) := by
  refine Met.ofW (cc := b_M_term) (maxL := 6) (ret := none) (by decide) rfl ?_
  intro p e s m args below meth c s₁ B hml hv
  obtain ⟨hargs, hsz, hP, hK, hD0⟩ := hv
  have hx := B.exec
  have hb := B.bytes
  have hr := B.returns
  have hts := atoms_spec (ws := w_M_term) B.pre
  have hown : s.vm.findClass "HalfFloatsModel" = some m.cls := findClass_of_methodNamed B.named
  have hlocks := B.notSynchronized
  subst hsz
  have hD := hD0.self (sz := s.heap.size)
  generalize hAe : va_A (hm_W T3 bd τ) s.heap.size = A at hD ⊢
  have hA : ∀ q : Nat, s.heap.size ≤ q → A q := fun q h => by rw [← hAe]; exact Or.inr h
  have hS : va_S A s.heap s.heap [] := va_S.rf
  have B_96 : ∀ (σ : hm_S) (x44 : Int32) (H : Heap) (locs : List Loc) (ls : Array Slot), va_P D vwCl (hm_W T3 bd σ) H → va_D A (hm_W T3 bd σ) → va_S A s.heap H locs → lv_has ls 6 [] → f_M_term_96 σ x44 = some σ0 → W p l e (headSpec w_M_term m_M_term).room s m args below meth c H locs 0 0 (MQ below (hx_Qv D (hx_ty T3) A (hm_W T3 bd σ0)) args s 0 0 A) (F0 m 96 ls [.int x44, .ref (bd 0)]) := by
      intro σ x44 H locs ls hP hD hS hl h
      rw [f_M_term_96] at h
      obtain ⟨g45, h⟩ := hx_gt h
      refine va_put (D := D) (ci := 5) (v := .int x44) (ty := .boolean) (C := "HalfFloatsModel") (T := T_M) (N := 21) hx hb hts (hx_up in_M) ty_M tyok_M nm_M hown hK hP hD hS (0) hm_at_M rfl 16 (by decide) (hts _ (hx_cons _ k_572)) (fun _ h9 => h9) rfl (by decide +kernel) (hx_nb g45) (hx_fb g45) (Nat.le_of_ble_eq_true rfl) d_M_term_96 (fun H locs hP hD hS => ?_)
      obtain ⟨σ46, eσ46⟩ : ∃ y : hm_S, y = (hm_hasBelow_s σ x44) := ⟨_, rfl⟩
      replace hP : va_P D vwCl (hm_W T3 bd σ46) H := by rw [eσ46]; exact hP
      replace hD : va_D A (hm_W T3 bd σ46) := by rw [eσ46]; exact hD
      replace h := hx_ns eσ46 h
      clear eσ46
      refine lv_goto (tgt := 147) hx hb d_M_term_99 (by decide) ?_
      exact W.vret hx hb hr (fun t ht hW => hx_endv h ht hW hP hK hD hS) hS.2.2 d_M_term_147
  have B_91 : ∀ (σ : hm_S) (H : Heap) (locs : List Loc) (ls : Array Slot), va_P D vwCl (hm_W T3 bd σ) H → va_D A (hm_W T3 bd σ) → va_S A s.heap H locs → lv_has ls 6 [] → f_M_term_91 σ  = some σ0 → W p l e (headSpec w_M_term m_M_term).room s m args below meth c H locs 0 0 (MQ below (hx_Qv D (hx_ty T3) A (hm_W T3 bd σ0)) args s 0 0 A) (F0 m 91 ls [.ref (bd 0)]) := by
      intro σ H locs ls hP hD hS hl h
      rw [f_M_term_91] at h
      refine lv_iconst (v := 1) hx hb d_M_term_91 (by decide) ?_
      refine lv_goto (tgt := 96) hx hb d_M_term_92 (by decide) ?_
      exact B_96 σ (1 : Int32) _ _ ls hP hD hS (lv_sub hl [] rfl) h
  have B_76 : ∀ (σ : hm_S) (x39 : Int32) (x40 : Int32) (H : Heap) (locs : List Loc) (ls : Array Slot), va_P D vwCl (hm_W T3 bd σ) H → va_D A (hm_W T3 bd σ) → va_S A s.heap H locs → lv_has ls 6 [(0, .ref (bd 0)), (1, .int x39)] → f_M_term_76 σ x39 x40 = some σ0 → W p l e (headSpec w_M_term m_M_term).room s m args below meth c H locs 0 0 (MQ below (hx_Qv D (hx_ty T3) A (hm_W T3 bd σ0)) args s 0 0 A) (F0 m 76 ls [.int x40, .ref (bd 0)]) := by
      intro σ x39 x40 H locs ls hP hD hS hl h
      rw [f_M_term_76] at h
      obtain ⟨g41, h⟩ := hx_gt h
      refine va_put (D := D) (ci := 5) (v := .int x40) (ty := .boolean) (C := "HalfFloatsModel") (T := T_M) (N := 21) hx hb hts (hx_up in_M) ty_M tyok_M nm_M hown hK hP hD hS (0) hm_at_M rfl 15 (by decide) (hts _ (hx_cons _ k_571)) (fun _ h9 => h9) rfl (by decide +kernel) (hx_nb g41) (hx_fb g41) (Nat.le_of_ble_eq_true rfl) d_M_term_76 (fun H locs hP hD hS => ?_)
      obtain ⟨σ42, eσ42⟩ : ∃ y : hm_S, y = (hm_hasAbove_s σ x40) := ⟨_, rfl⟩
      replace hP : va_P D vwCl (hm_W T3 bd σ42) H := by rw [eσ42]; exact hP
      replace hD : va_D A (hm_W T3 bd σ42) := by rw [eσ42]; exact hD
      replace h := hx_ns eσ42 h
      clear eσ42
      refine lv_aload_n hx hb d_M_term_79 rfl (lv_at hl 0 rfl) ?_
      refine lv_aload_n hx hb d_M_term_80 rfl (lv_at hl 0 rfl) ?_
      refine va_get (D := D) (ci := 5) (v := .int (hm_hasBelow σ42)) (C := "HalfFloatsModel") (T := T_M) (N := 21) hx hb hts (hx_up in_M) hown hK hP (0) hm_at_M rfl 16 (by decide) (hts _ (hx_cons _ k_572)) (fun _ h9 => h9) rfl d_M_term_81 ?_
      refine lv_if_ne (tgt := 91) hx hb d_M_term_84 (by decide) (fun c43 => ?_) (fun c43 => ?_)
      · replace h := hx_in c43 h
        exact B_91 σ42 _ _ ls hP hD hS (lv_sub hl [] rfl) h
      · replace h := hx_ip c43 h
        refine lv_iload_n hx hb d_M_term_87 rfl (lv_at hl 1 rfl) ?_
        refine lv_if_eq (tgt := 95) hx hb d_M_term_88 (by decide) (fun c47 => ?_) (fun c47 => ?_)
        · replace h := hx_ip c47 h
          refine lv_iconst (v := 0) hx hb d_M_term_95 (by decide) ?_
          exact B_96 σ42 (0 : Int32) _ _ ls hP hD hS (lv_sub hl [] rfl) h
        · replace h := hx_in c47 h
          exact B_91 σ42 _ _ ls hP hD hS (lv_sub hl [] rfl) h
  have B_71 : ∀ (σ : hm_S) (x38 : Int32) (H : Heap) (locs : List Loc) (ls : Array Slot), va_P D vwCl (hm_W T3 bd σ) H → va_D A (hm_W T3 bd σ) → va_S A s.heap H locs → lv_has ls 6 [(0, .ref (bd 0)), (1, .int x38)] → f_M_term_71 σ x38 = some σ0 → W p l e (headSpec w_M_term m_M_term).room s m args below meth c H locs 0 0 (MQ below (hx_Qv D (hx_ty T3) A (hm_W T3 bd σ0)) args s 0 0 A) (F0 m 71 ls [.ref (bd 0)]) := by
      intro σ x38 H locs ls hP hD hS hl h
      rw [f_M_term_71] at h
      refine lv_iconst (v := 1) hx hb d_M_term_71 (by decide) ?_
      refine lv_goto (tgt := 76) hx hb d_M_term_72 (by decide) ?_
      exact B_76 σ x38 (1 : Int32) _ _ ls hP hD hS (lv_sub hl [0, 1] rfl) h
  have B_47 : ∀ (σ : hm_S) (x24 : Int32) (x25 : Int32) (x26 : Int64) (x27 : Int32) (x28 : Int32) (H : Heap) (locs : List Loc) (ls : Array Slot), va_P D vwCl (hm_W T3 bd σ) H → va_D A (hm_W T3 bd σ) → va_S A s.heap H locs → lv_has ls 6 [(0, .ref (bd 0)), (1, .int x24), (2, .int x25), (3, .long x26), (5, .int x27)] → f_M_term_47 σ x24 x25 x26 x27 x28 = some σ0 → W p l e (headSpec w_M_term m_M_term).room s m args below meth c H locs 0 0 (MQ below (hx_Qv D (hx_ty T3) A (hm_W T3 bd σ0)) args s 0 0 A) (F0 m 47 ls [.int x28, .ref (bd 0)]) := by
      intro σ x24 x25 x26 x27 x28 H locs ls hP hD hS hl h
      rw [f_M_term_47] at h
      obtain ⟨g29, h⟩ := hx_gt h
      refine va_put (D := D) (ci := 5) (v := .int x28) (ty := .boolean) (C := "HalfFloatsModel") (T := T_M) (N := 21) hx hb hts (hx_up in_M) ty_M tyok_M nm_M hown hK hP hD hS (0) hm_at_M rfl 19 (by decide) (hts _ (hx_cons _ k_575)) (fun _ h9 => h9) rfl (by decide +kernel) (hx_nb g29) (hx_fb g29) (Nat.le_of_ble_eq_true rfl) d_M_term_47 (fun H locs hP hD hS => ?_)
      obtain ⟨σ30, eσ30⟩ : ∃ y : hm_S, y = (hm_hasMinus_s σ x28) := ⟨_, rfl⟩
      replace hP : va_P D vwCl (hm_W T3 bd σ30) H := by rw [eσ30]; exact hP
      replace hD : va_D A (hm_W T3 bd σ30) := by rw [eσ30]; exact hD
      replace h := hx_ns eσ30 h
      clear eσ30
      refine lv_iload_n hx hb d_M_term_50 rfl (lv_at hl 2 rfl) ?_
      refine lv_if_eq (tgt := 102) hx hb d_M_term_51 (by decide) (fun c31 => ?_) (fun c31 => ?_)
      · replace h := hx_ip c31 h
        refine lv_lload_n hx hb d_M_term_102 rfl (lv_at hl 3 rfl) ?_
        refine lv_lconst (v := 0) hx hb d_M_term_103 rfl ?_
        refine W.lcmp hx hb d_M_term_104 ?_
        refine lv_if_eq (tgt := 147) hx hb d_M_term_105 (by decide) (fun c32 => ?_) (fun c32 => ?_)
        · replace h := hx_ip c32 h
          exact W.vret hx hb hr (fun t ht hW => hx_endv h ht hW hP hK hD hS) hS.2.2 d_M_term_147
        · replace h := hx_in c32 h
          refine lv_aload_n hx hb d_M_term_108 rfl (lv_at hl 0 rfl) ?_
          refine lv_iconst (v := 0) hx hb d_M_term_109 (by decide) ?_
          refine va_put (D := D) (ci := 5) (v := .int (0 : Int32)) (ty := .boolean) (C := "HalfFloatsModel") (T := T_M) (N := 21) hx hb hts (hx_up in_M) ty_M tyok_M nm_M hown hK hP hD hS (0) hm_at_M rfl 17 (by decide) (hts _ (hx_cons _ k_573)) (fun _ h9 => h9) rfl (by decide +kernel) (hx_nb (Or.inl rfl)) (hx_fb (Or.inl rfl)) (Nat.le_of_ble_eq_true rfl) d_M_term_110 (fun H locs hP hD hS => ?_)
          obtain ⟨σ33, eσ33⟩ : ∃ y : hm_S, y = (hm_allZero_s σ30 (0 : Int32)) := ⟨_, rfl⟩
          replace hP : va_P D vwCl (hm_W T3 bd σ33) H := by rw [eσ33]; exact hP
          replace hD : va_D A (hm_W T3 bd σ33) := by rw [eσ33]; exact hD
          replace h := hx_ns eσ33 h
          clear eσ33
          refine lv_aload_n hx hb d_M_term_113 rfl (lv_at hl 0 rfl) ?_
          refine lv_lload_n hx hb d_M_term_114 rfl (lv_at hl 3 rfl) ?_
          refine lv_ldc2 (v := 16777215) hx hb hown (hts _ (hx_cons _ k_711)) d_M_term_115 ?_
          refine lv_land hx hb d_M_term_118 ?_
          refine lv_iload hx hb d_M_term_119 (lv_at hl 4 rfl) ?_
          refine lv_sipush (v := -352) hx hb d_M_term_121 (by decide) ?_
          refine lv_isub hx hb d_M_term_124 ?_
          refine lv_iload_n hx hb d_M_term_125 rfl (lv_at hl 1 rfl) ?_
          obtain ⟨q34, eq34, h⟩ := hx_b1s h
          refine hx_wv (va_runV (As := [.long (x26 &&& (16777215 : Int64)), .int (x27 - (-352 : Int32)), .int x24]) (rest := []) ⟨hx, hb, hml, hown, hts⟩ (c_M_put l D T3 bd _ σ33 (x26 &&& (16777215 : Int64)) (x27 - (-352 : Int32)) x24 _ eq34) (cwV 3 hts (hx_gV hx_cons k_712 k_714 k_37 k_55 k_715) rfl rfl rfl (by decide +kernel) ⟨Nat.le_of_ble_eq_true rfl, Nat.le_of_ble_eq_true rfl⟩) (hx_preVw (va_recv hK hP (ci := 5) (q0 := 0) rfl hm_at_M) hP hK hD) rfl rfl hl.1 rfl (lv_room (Nat.le_of_ble_eq_true rfl)) d_M_term_126 ⟨Nat.zero_le _, Nat.zero_le _⟩) hD hS hA (fun H locs hP hD hS => ?_)
          refine lv_aload_n hx hb d_M_term_129 rfl (lv_at hl 0 rfl) ?_
          refine lv_lload_n hx hb d_M_term_130 rfl (lv_at hl 3 rfl) ?_
          refine lv_bipush (v := 24) hx hb d_M_term_131 (by decide) ?_
          refine lv_lshr hx hb d_M_term_133 rfl ?_
          refine lv_iload hx hb d_M_term_134 (lv_at hl 4 rfl) ?_
          refine lv_sipush (v := -352) hx hb d_M_term_136 (by decide) ?_
          refine lv_isub hx hb d_M_term_139 ?_
          refine lv_bipush (v := 24) hx hb d_M_term_140 (by decide) ?_
          refine lv_iadd hx hb d_M_term_142 ?_
          refine lv_iload_n hx hb d_M_term_143 rfl (lv_at hl 1 rfl) ?_
          obtain ⟨q35, eq35, h⟩ := hx_b1s h
          refine hx_wv (va_runV (As := [.long (x26 >>> ((24 : Int32).toInt64 &&& 63)), .int ((x27 - (-352 : Int32)) + (24 : Int32)), .int x24]) (rest := []) ⟨hx, hb, hml, hown, hts⟩ (c_M_put l D T3 bd _ q34 (x26 >>> ((24 : Int32).toInt64 &&& 63)) ((x27 - (-352 : Int32)) + (24 : Int32)) x24 _ eq35) (cwV 3 hts (hx_gV hx_cons k_712 k_714 k_37 k_55 k_715) rfl rfl rfl (by decide +kernel) ⟨Nat.le_of_ble_eq_true rfl, Nat.le_of_ble_eq_true rfl⟩) (hx_preVw (va_recv hK hP (ci := 5) (q0 := 0) rfl hm_at_M) hP hK hD) rfl rfl hl.1 rfl (lv_room (Nat.le_of_ble_eq_true rfl)) d_M_term_144 ⟨Nat.zero_le _, Nat.zero_le _⟩) hD hS hA (fun H locs hP hD hS => ?_)
          exact W.vret hx hb hr (fun t ht hW => hx_endv h ht hW hP hK hD hS) hS.2.2 d_M_term_147
      · replace h := hx_in c31 h
        refine lv_aload_n hx hb d_M_term_54 rfl (lv_at hl 0 rfl) ?_
        refine lv_iconst (v := 0) hx hb d_M_term_55 (by decide) ?_
        refine va_put (D := D) (ci := 5) (v := .int (0 : Int32)) (ty := .boolean) (C := "HalfFloatsModel") (T := T_M) (N := 21) hx hb hts (hx_up in_M) ty_M tyok_M nm_M hown hK hP hD hS (0) hm_at_M rfl 17 (by decide) (hts _ (hx_cons _ k_573)) (fun _ h9 => h9) rfl (by decide +kernel) (hx_nb (Or.inl rfl)) (hx_fb (Or.inl rfl)) (Nat.le_of_ble_eq_true rfl) d_M_term_56 (fun H locs hP hD hS => ?_)
        obtain ⟨σ36, eσ36⟩ : ∃ y : hm_S, y = (hm_allZero_s σ30 (0 : Int32)) := ⟨_, rfl⟩
        replace hP : va_P D vwCl (hm_W T3 bd σ36) H := by rw [eσ36]; exact hP
        replace hD : va_D A (hm_W T3 bd σ36) := by rw [eσ36]; exact hD
        replace h := hx_ns eσ36 h
        clear eσ36
        refine lv_aload_n hx hb d_M_term_59 rfl (lv_at hl 0 rfl) ?_
        refine lv_aload_n hx hb d_M_term_60 rfl (lv_at hl 0 rfl) ?_
        refine va_get (D := D) (ci := 5) (v := .int (hm_hasAbove σ36)) (C := "HalfFloatsModel") (T := T_M) (N := 21) hx hb hts (hx_up in_M) hown hK hP (0) hm_at_M rfl 15 (by decide) (hts _ (hx_cons _ k_571)) (fun _ h9 => h9) rfl d_M_term_61 ?_
        refine lv_if_ne (tgt := 71) hx hb d_M_term_64 (by decide) (fun c37 => ?_) (fun c37 => ?_)
        · replace h := hx_in c37 h
          exact B_71 σ36 x24 _ _ ls hP hD hS (lv_sub hl [0, 1] rfl) h
        · replace h := hx_ip c37 h
          refine lv_iload_n hx hb d_M_term_67 rfl (lv_at hl 1 rfl) ?_
          refine lv_if_ne (tgt := 75) hx hb d_M_term_68 (by decide) (fun c48 => ?_) (fun c48 => ?_)
          · replace h := hx_in c48 h
            refine lv_iconst (v := 0) hx hb d_M_term_75 (by decide) ?_
            exact B_76 σ36 x24 (0 : Int32) _ _ ls hP hD hS (lv_sub hl [0, 1] rfl) h
          · replace h := hx_ip c48 h
            exact B_71 σ36 x24 _ _ ls hP hD hS (lv_sub hl [0, 1] rfl) h
  have B_42 : ∀ (σ : hm_S) (x20 : Int32) (x21 : Int32) (x22 : Int64) (x23 : Int32) (H : Heap) (locs : List Loc) (ls : Array Slot), va_P D vwCl (hm_W T3 bd σ) H → va_D A (hm_W T3 bd σ) → va_S A s.heap H locs → lv_has ls 6 [(0, .ref (bd 0)), (1, .int x20), (2, .int x21), (3, .long x22), (5, .int x23)] → f_M_term_42 σ x20 x21 x22 x23 = some σ0 → W p l e (headSpec w_M_term m_M_term).room s m args below meth c H locs 0 0 (MQ below (hx_Qv D (hx_ty T3) A (hm_W T3 bd σ0)) args s 0 0 A) (F0 m 42 ls [.ref (bd 0)]) := by
      intro σ x20 x21 x22 x23 H locs ls hP hD hS hl h
      rw [f_M_term_42] at h
      refine lv_iconst (v := 1) hx hb d_M_term_42 (by decide) ?_
      refine lv_goto (tgt := 47) hx hb d_M_term_43 (by decide) ?_
      exact B_47 σ x20 x21 x22 x23 (1 : Int32) _ _ ls hP hD hS (lv_sub hl [0, 1, 2, 3, 4] rfl) h
  have B_27 : ∀ (σ : hm_S) (x12 : Int32) (x13 : Int32) (x14 : Int64) (x15 : Int32) (x16 : Int32) (H : Heap) (locs : List Loc) (ls : Array Slot), va_P D vwCl (hm_W T3 bd σ) H → va_D A (hm_W T3 bd σ) → va_S A s.heap H locs → lv_has ls 6 [(0, .ref (bd 0)), (1, .int x12), (2, .int x13), (3, .long x14), (5, .int x15)] → f_M_term_27 σ x12 x13 x14 x15 x16 = some σ0 → W p l e (headSpec w_M_term m_M_term).room s m args below meth c H locs 0 0 (MQ below (hx_Qv D (hx_ty T3) A (hm_W T3 bd σ0)) args s 0 0 A) (F0 m 27 ls [.int x16, .ref (bd 0)]) := by
      intro σ x12 x13 x14 x15 x16 H locs ls hP hD hS hl h
      rw [f_M_term_27] at h
      obtain ⟨g17, h⟩ := hx_gt h
      refine va_put (D := D) (ci := 5) (v := .int x16) (ty := .boolean) (C := "HalfFloatsModel") (T := T_M) (N := 21) hx hb hts (hx_up in_M) ty_M tyok_M nm_M hown hK hP hD hS (0) hm_at_M rfl 18 (by decide) (hts _ (hx_cons _ k_574)) (fun _ h9 => h9) rfl (by decide +kernel) (hx_nb g17) (hx_fb g17) (Nat.le_of_ble_eq_true rfl) d_M_term_27 (fun H locs hP hD hS => ?_)
      obtain ⟨σ18, eσ18⟩ : ∃ y : hm_S, y = (hm_hasPlus_s σ x16) := ⟨_, rfl⟩
      replace hP : va_P D vwCl (hm_W T3 bd σ18) H := by rw [eσ18]; exact hP
      replace hD : va_D A (hm_W T3 bd σ18) := by rw [eσ18]; exact hD
      replace h := hx_ns eσ18 h
      clear eσ18
      refine lv_aload_n hx hb d_M_term_30 rfl (lv_at hl 0 rfl) ?_
      refine lv_aload_n hx hb d_M_term_31 rfl (lv_at hl 0 rfl) ?_
      refine va_get (D := D) (ci := 5) (v := .int (hm_hasMinus σ18)) (C := "HalfFloatsModel") (T := T_M) (N := 21) hx hb hts (hx_up in_M) hown hK hP (0) hm_at_M rfl 19 (by decide) (hts _ (hx_cons _ k_575)) (fun _ h9 => h9) rfl d_M_term_32 ?_
      refine lv_if_ne (tgt := 42) hx hb d_M_term_35 (by decide) (fun c19 => ?_) (fun c19 => ?_)
      · replace h := hx_in c19 h
        exact B_42 σ18 x12 x13 x14 x15 _ _ ls hP hD hS (lv_sub hl [0, 1, 2, 3, 4] rfl) h
      · replace h := hx_ip c19 h
        refine lv_iload_n hx hb d_M_term_38 rfl (lv_at hl 1 rfl) ?_
        refine lv_if_eq (tgt := 46) hx hb d_M_term_39 (by decide) (fun c49 => ?_) (fun c49 => ?_)
        · replace h := hx_ip c49 h
          refine lv_iconst (v := 0) hx hb d_M_term_46 (by decide) ?_
          exact B_47 σ18 x12 x13 x14 x15 (0 : Int32) _ _ ls hP hD hS (lv_sub hl [0, 1, 2, 3, 4] rfl) h
        · replace h := hx_in c49 h
          exact B_42 σ18 x12 x13 x14 x15 _ _ ls hP hD hS (lv_sub hl [0, 1, 2, 3, 4] rfl) h
  have B_22 : ∀ (σ : hm_S) (x8 : Int32) (x9 : Int32) (x10 : Int64) (x11 : Int32) (H : Heap) (locs : List Loc) (ls : Array Slot), va_P D vwCl (hm_W T3 bd σ) H → va_D A (hm_W T3 bd σ) → va_S A s.heap H locs → lv_has ls 6 [(0, .ref (bd 0)), (1, .int x8), (2, .int x9), (3, .long x10), (5, .int x11)] → f_M_term_22 σ x8 x9 x10 x11 = some σ0 → W p l e (headSpec w_M_term m_M_term).room s m args below meth c H locs 0 0 (MQ below (hx_Qv D (hx_ty T3) A (hm_W T3 bd σ0)) args s 0 0 A) (F0 m 22 ls [.ref (bd 0)]) := by
      intro σ x8 x9 x10 x11 H locs ls hP hD hS hl h
      rw [f_M_term_22] at h
      refine lv_iconst (v := 1) hx hb d_M_term_22 (by decide) ?_
      refine lv_goto (tgt := 27) hx hb d_M_term_23 (by decide) ?_
      exact B_27 σ x8 x9 x10 x11 (1 : Int32) _ _ ls hP hD hS (lv_sub hl [0, 1, 2, 3, 4] rfl) h
  refine W.eq (g2 := F0 m 0 ((lg_sl [.ref (bd 0), .int x1, .int x2, .long x3, .int x4] ++ List.replicate (6 - (lg_sl [.ref (bd 0), .int x1, .int x2, .long x3, .int x4]).length) Slot.unset).toArray) []) (by rw [hargs, lg_entry_eq]) ?_
  have hl := lv_entry ([.ref (bd 0), .int x1, .int x2, .long x3, .int x4]) (n := 6) (Nat.le_of_ble_eq_true rfl)
  generalize (lg_sl ([.ref (bd 0), .int x1, .int x2, .long x3, .int x4]) ++ List.replicate (6 - (lg_sl ([.ref (bd 0), .int x1, .int x2, .long x3, .int x4])).length) Slot.unset).toArray = ls at hl ⊢
  have hl : lv_has ls 6 [(0, .ref (bd 0)), (1, .int x1), (2, .int x2), (3, .long x3), (5, .int x4)] := hl
  rw [f_M_term] at h
  refine lv_aload_n hx hb d_M_term_0 rfl (lv_at hl 0 rfl) ?_
  refine lv_dup hx hb d_M_term_1 rfl ?_
  refine va_get (D := D) (ci := 5) (v := .int (hm_terms τ)) (C := "HalfFloatsModel") (T := T_M) (N := 21) hx hb hts (hx_up in_M) hown hK hP (0) hm_at_M rfl 12 (by decide) (hts _ (hx_cons _ k_568)) (fun _ h9 => h9) rfl d_M_term_2 ?_
  refine lv_iconst (v := 1) hx hb d_M_term_5 (by decide) ?_
  refine lv_iadd hx hb d_M_term_6 ?_
  refine lv_topi (fun x5 ex5 => ?_)
  replace h := hx_ns ex5 h
  clear ex5
  refine va_put (D := D) (ci := 5) (v := .int x5) (ty := .int) (C := "HalfFloatsModel") (T := T_M) (N := 21) hx hb hts (hx_up in_M) ty_M tyok_M nm_M hown hK hP hD hS (0) hm_at_M rfl 12 (by decide) (hts _ (hx_cons _ k_568)) (fun _ h9 => h9) rfl (by decide +kernel) rfl rfl (Nat.le_of_ble_eq_true rfl) d_M_term_7 (fun H locs hP hD hS => ?_)
  obtain ⟨σ6, eσ6⟩ : ∃ y : hm_S, y = (hm_terms_s τ x5) := ⟨_, rfl⟩
  replace hP : va_P D vwCl (hm_W T3 bd σ6) H := by rw [eσ6]; exact hP
  replace hD : va_D A (hm_W T3 bd σ6) := by rw [eσ6]; exact hD
  replace h := hx_ns eσ6 h
  clear eσ6
  refine lv_aload_n hx hb d_M_term_10 rfl (lv_at hl 0 rfl) ?_
  refine lv_aload_n hx hb d_M_term_11 rfl (lv_at hl 0 rfl) ?_
  refine va_get (D := D) (ci := 5) (v := .int (hm_hasPlus σ6)) (C := "HalfFloatsModel") (T := T_M) (N := 21) hx hb hts (hx_up in_M) hown hK hP (0) hm_at_M rfl 18 (by decide) (hts _ (hx_cons _ k_574)) (fun _ h9 => h9) rfl d_M_term_12 ?_
  refine lv_if_ne (tgt := 22) hx hb d_M_term_15 (by decide) (fun c7 => ?_) (fun c7 => ?_)
  · replace h := hx_in c7 h
    exact B_22 σ6 x1 x2 x3 x4 _ _ ls hP hD hS (lv_sub hl [0, 1, 2, 3, 4] rfl) h
  · replace h := hx_ip c7 h
    refine lv_iload_n hx hb d_M_term_18 rfl (lv_at hl 1 rfl) ?_
    refine lv_if_ne (tgt := 26) hx hb d_M_term_19 (by decide) (fun c50 => ?_) (fun c50 => ?_)
    · replace h := hx_in c50 h
      refine lv_iconst (v := 0) hx hb d_M_term_26 (by decide) ?_
      exact B_27 σ6 x1 x2 x3 x4 (0 : Int32) _ _ ls hP hD hS (lv_sub hl [0, 1, 2, 3, 4] rfl) h
    · replace h := hx_ip c50 h
      exact B_22 σ6 x1 x2 x3 x4 _ _ ls hP hD hS (lv_sub hl [0, 1, 2, 3, 4] rfl) h
abbrev m_M_value : Room := { frames := 4, cells := 0, slots := 0, locals := 93 }
set_option maxHeartbeats 4000000 in
set_option maxRecDepth 100000 in
theorem c_M_value (l : Launch) (D : va_G) (T3 : hx_T3) (bd : Nat → Nat) (sz : Nat) (τ : hm_S) (x1 : Int32) (x2 : Int64) (x3 : Int32) (x4 : Int32)  (σ0 : hm_S) (h : f_M_value τ x1 x2 x3 x4 = some σ0) : hx_Wv l D (hx_ty T3) y_M_value w_M_value m_M_value [.ref (bd 0), .int x1, .long x2, .int x3, .int x4] sz (hm_W T3 bd τ) (hm_W T3 bd σ0) := by
  refine Met.ofW (cc := b_M_value) (maxL := 7) (ret := none) (by decide) rfl ?_
  intro p e s m args below meth c s₁ B hml hv
  obtain ⟨hargs, hsz, hP, hK, hD0⟩ := hv
  have hx := B.exec
  have hb := B.bytes
  have hr := B.returns
  have hts := atoms_spec (ws := w_M_value) B.pre
  have hown : s.vm.findClass "HalfFloatsModel" = some m.cls := findClass_of_methodNamed B.named
  have hlocks := B.notSynchronized
  subst hsz
  have hD := hD0.self (sz := s.heap.size)
  generalize hAe : va_A (hm_W T3 bd τ) s.heap.size = A at hD ⊢
  have hA : ∀ q : Nat, s.heap.size ≤ q → A q := fun q h => by rw [← hAe]; exact Or.inr h
  have hS : va_S A s.heap s.heap [] := va_S.rf
  have B_58 : ∀ (σ : hm_S) (x28 : Int32) (x29 : Int64) (x30 : Int32) (x31 : Int32) (x32 : Int32) (H : Heap) (locs : List Loc) (ls : Array Slot), va_P D vwCl (hm_W T3 bd σ) H → va_D A (hm_W T3 bd σ) → va_S A s.heap H locs → lv_has ls 7 [(0, .ref (bd 0)), (1, .int x28), (2, .long x29), (5, .int x30)] → f_M_value_58 σ x28 x29 x30 x31 x32 = some σ0 → W p l e (headSpec w_M_value m_M_value).room s m args below meth c H locs 0 0 (MQ below (hx_Qv D (hx_ty T3) A (hm_W T3 bd σ0)) args s 0 0 A) (F0 m 58 ls [.int x32, .int x31, .ref (bd 0)]) := by
      intro σ x28 x29 x30 x31 x32 H locs ls hP hD hS hl h
      rw [f_M_value_58] at h
      refine lv_aload_n hx hb d_M_value_58 rfl (lv_at hl 0 rfl) ?_
      refine lv_iload_n hx hb d_M_value_59 rfl (lv_at hl 1 rfl) ?_
      refine lv_lload_n hx hb d_M_value_60 rfl (lv_at hl 2 rfl) ?_
      obtain ⟨r33, er33, h⟩ := hx_b1s h
      refine hx_rd (va_runV (As := [.int x28, .long x29]) (rest := [.int x32, .int x31, .ref (bd 0)]) ⟨hx, hb, hml, hown, hts⟩ (c_M_wholeOf l D T3 bd σ x28 x29 _ er33) (cwV 2 hts (hx_gV hx_cons k_674 k_676 k_30 k_55 k_677) rfl rfl rfl (by decide +kernel) ⟨Nat.le_of_ble_eq_true rfl, Nat.le_of_ble_eq_true rfl⟩) (hx_preV (va_recv hK hP (ci := 5) (q0 := 0) rfl hm_at_M) hP hK) rfl rfl hl.1 rfl (lv_room (Nat.le_of_ble_eq_true rfl)) d_M_value_61 ⟨Nat.zero_le _, Nat.zero_le _⟩) ?_
      refine lv_aload_n hx hb d_M_value_64 rfl (lv_at hl 0 rfl) ?_
      refine lv_iload_n hx hb d_M_value_65 rfl (lv_at hl 1 rfl) ?_
      refine lv_lload_n hx hb d_M_value_66 rfl (lv_at hl 2 rfl) ?_
      obtain ⟨r34, er34, h⟩ := hx_b1s h
      refine hx_rd (va_runV (As := [.int x28, .long x29]) (rest := [.long r33, .int x32, .int x31, .ref (bd 0)]) ⟨hx, hb, hml, hown, hts⟩ (c_M_powerOf l D T3 bd σ x28 x29 _ er34) (cwV 2 hts (hx_gV hx_cons k_678 k_680 k_31 k_55 k_681) rfl rfl rfl (by decide +kernel) ⟨Nat.le_of_ble_eq_true rfl, Nat.le_of_ble_eq_true rfl⟩) (hx_preV (va_recv hK hP (ci := 5) (q0 := 0) rfl hm_at_M) hP hK) rfl rfl hl.1 rfl (lv_room (Nat.le_of_ble_eq_true rfl)) d_M_value_67 ⟨Nat.zero_le _, Nat.zero_le _⟩) ?_
      refine lv_iload hx hb d_M_value_70 (lv_at hl 3 rfl) ?_
      refine lv_iadd hx hb d_M_value_72 ?_
      obtain ⟨q35, eq35, h⟩ := hx_b1s h
      refine hx_wv (va_runV (As := [.int x31, .int x32, .long r33, .int (r34 + x30)]) (rest := []) ⟨hx, hb, hml, hown, hts⟩ (c_M_term l D T3 bd _ σ x31 x32 r33 (r34 + x30) _ eq35) (cwV 4 hts (hx_gV hx_cons k_707 k_709 k_36 k_55 k_710) rfl rfl rfl (by decide +kernel) ⟨Nat.le_of_ble_eq_true rfl, Nat.le_of_ble_eq_true rfl⟩) (hx_preVw (va_recv hK hP (ci := 5) (q0 := 0) rfl hm_at_M) hP hK hD) rfl rfl hl.1 rfl (lv_room (Nat.le_of_ble_eq_true rfl)) d_M_value_73 ⟨Nat.zero_le _, Nat.zero_le _⟩) hD hS hA (fun H locs hP hD hS => ?_)
      exact W.vret hx hb hr (fun t ht hW => hx_endv h ht hW hP hK hD hS) hS.2.2 d_M_value_76
  have B_47 : ∀ (σ : hm_S) (x22 : Int32) (x23 : Int64) (x24 : Int32) (x25 : Int32) (x26 : Int32) (H : Heap) (locs : List Loc) (ls : Array Slot), va_P D vwCl (hm_W T3 bd σ) H → va_D A (hm_W T3 bd σ) → va_S A s.heap H locs → lv_has ls 7 [(0, .ref (bd 0)), (1, .int x22), (2, .long x23), (5, .int x24), (6, .int x25)] → f_M_value_47 σ x22 x23 x24 x25 x26 = some σ0 → W p l e (headSpec w_M_value m_M_value).room s m args below meth c H locs 0 0 (MQ below (hx_Qv D (hx_ty T3) A (hm_W T3 bd σ0)) args s 0 0 A) (F0 m 47 ls [.int x26, .ref (bd 0)]) := by
      intro σ x22 x23 x24 x25 x26 H locs ls hP hD hS hl h
      rw [f_M_value_47] at h
      refine lv_iload hx hb d_M_value_47 (lv_at hl 4 rfl) ?_
      refine lv_iconst (v := 3) hx hb d_M_value_49 (by decide) ?_
      refine lv_icmp_ne (tgt := 57) hx hb d_M_value_50 (by decide) (fun c27 => ?_) (fun c27 => ?_)
      · replace h := hx_in c27 h
        refine lv_iconst (v := 0) hx hb d_M_value_57 (by decide) ?_
        exact B_58 σ x22 x23 x24 x26 (0 : Int32) _ _ ls hP hD hS (lv_sub hl [0, 1, 2, 3] rfl) h
      · replace h := hx_ip c27 h
        refine lv_iconst (v := 1) hx hb d_M_value_53 (by decide) ?_
        refine lv_goto (tgt := 58) hx hb d_M_value_54 (by decide) ?_
        exact B_58 σ x22 x23 x24 x26 (1 : Int32) _ _ ls hP hD hS (lv_sub hl [0, 1, 2, 3] rfl) h
  have B_27 : ∀ (σ : hm_S) (x12 : Int32) (x13 : Int64) (x14 : Int32) (x15 : Int32) (x16 : Int32) (x17 : Int32) (H : Heap) (locs : List Loc) (ls : Array Slot), va_P D vwCl (hm_W T3 bd σ) H → va_D A (hm_W T3 bd σ) → va_S A s.heap H locs → lv_has ls 7 [(0, .ref (bd 0)), (1, .int x12), (2, .long x13), (4, .int x14), (5, .int x15), (6, .int x16)] → f_M_value_27 σ x12 x13 x14 x15 x16 x17 = some σ0 → W p l e (headSpec w_M_value m_M_value).room s m args below meth c H locs 0 0 (MQ below (hx_Qv D (hx_ty T3) A (hm_W T3 bd σ0)) args s 0 0 A) (F0 m 27 ls [.int x17, .ref (bd 0)]) := by
      intro σ x12 x13 x14 x15 x16 x17 H locs ls hP hD hS hl h
      rw [f_M_value_27] at h
      obtain ⟨g18, h⟩ := hx_gt h
      refine va_put (D := D) (ci := 5) (v := .int x17) (ty := .boolean) (C := "HalfFloatsModel") (T := T_M) (N := 21) hx hb hts (hx_up in_M) ty_M tyok_M nm_M hown hK hP hD hS (0) hm_at_M rfl 13 (by decide) (hts _ (hx_cons _ k_569)) (fun _ h9 => h9) rfl (by decide +kernel) (hx_nb g18) (hx_fb g18) (Nat.le_of_ble_eq_true rfl) d_M_value_27 (fun H locs hP hD hS => ?_)
      obtain ⟨σ19, eσ19⟩ : ∃ y : hm_S, y = (hm_hasNan_s σ x17) := ⟨_, rfl⟩
      replace hP : va_P D vwCl (hm_W T3 bd σ19) H := by rw [eσ19]; exact hP
      replace hD : va_D A (hm_W T3 bd σ19) := by rw [eσ19]; exact hD
      replace h := hx_ns eσ19 h
      clear eσ19
      refine lv_aload_n hx hb d_M_value_30 rfl (lv_at hl 0 rfl) ?_
      refine lv_aload_n hx hb d_M_value_31 rfl (lv_at hl 0 rfl) ?_
      refine lv_iload_n hx hb d_M_value_32 rfl (lv_at hl 1 rfl) ?_
      refine lv_lload_n hx hb d_M_value_33 rfl (lv_at hl 2 rfl) ?_
      obtain ⟨r20, er20, h⟩ := hx_b1s h
      refine hx_rd (va_runV (As := [.int x12, .long x13]) (rest := [.ref (bd 0)]) ⟨hx, hb, hml, hown, hts⟩ (c_M_isBelow l D T3 bd σ19 x12 x13 _ er20) (cwV 2 hts (hx_gV hx_cons k_670 k_672 k_29 k_55 k_673) rfl rfl rfl (by decide +kernel) ⟨Nat.le_of_ble_eq_true rfl, Nat.le_of_ble_eq_true rfl⟩) (hx_preV (va_recv hK hP (ci := 5) (q0 := 0) rfl hm_at_M) hP hK) rfl rfl hl.1 rfl (lv_room (Nat.le_of_ble_eq_true rfl)) d_M_value_34 ⟨Nat.zero_le _, Nat.zero_le _⟩) ?_
      refine lv_iload hx hb d_M_value_37 (lv_at hl 3 rfl) ?_
      refine lv_icmp_eq (tgt := 46) hx hb d_M_value_39 (by decide) (fun c21 => ?_) (fun c21 => ?_)
      · replace h := hx_ip c21 h
        refine lv_iconst (v := 0) hx hb d_M_value_46 (by decide) ?_
        exact B_47 σ19 x12 x13 x15 x16 (0 : Int32) _ _ ls hP hD hS (lv_sub hl [0, 1, 2, 4, 5] rfl) h
      · replace h := hx_in c21 h
        refine lv_iconst (v := 1) hx hb d_M_value_42 (by decide) ?_
        refine lv_goto (tgt := 47) hx hb d_M_value_43 (by decide) ?_
        exact B_47 σ19 x12 x13 x15 x16 (1 : Int32) _ _ ls hP hD hS (lv_sub hl [0, 1, 2, 4, 5] rfl) h
  have B_22 : ∀ (σ : hm_S) (x7 : Int32) (x8 : Int64) (x9 : Int32) (x10 : Int32) (x11 : Int32) (H : Heap) (locs : List Loc) (ls : Array Slot), va_P D vwCl (hm_W T3 bd σ) H → va_D A (hm_W T3 bd σ) → va_S A s.heap H locs → lv_has ls 7 [(0, .ref (bd 0)), (1, .int x7), (2, .long x8), (4, .int x9), (5, .int x10), (6, .int x11)] → f_M_value_22 σ x7 x8 x9 x10 x11 = some σ0 → W p l e (headSpec w_M_value m_M_value).room s m args below meth c H locs 0 0 (MQ below (hx_Qv D (hx_ty T3) A (hm_W T3 bd σ0)) args s 0 0 A) (F0 m 22 ls [.ref (bd 0)]) := by
      intro σ x7 x8 x9 x10 x11 H locs ls hP hD hS hl h
      rw [f_M_value_22] at h
      refine lv_iconst (v := 1) hx hb d_M_value_22 (by decide) ?_
      refine lv_goto (tgt := 27) hx hb d_M_value_23 (by decide) ?_
      exact B_27 σ x7 x8 x9 x10 x11 (1 : Int32) _ _ ls hP hD hS (lv_sub hl [0, 1, 2, 3, 4, 5] rfl) h
  refine W.eq (g2 := F0 m 0 ((lg_sl [.ref (bd 0), .int x1, .long x2, .int x3, .int x4] ++ List.replicate (7 - (lg_sl [.ref (bd 0), .int x1, .long x2, .int x3, .int x4]).length) Slot.unset).toArray) []) (by rw [hargs, lg_entry_eq]) ?_
  have hl := lv_entry ([.ref (bd 0), .int x1, .long x2, .int x3, .int x4]) (n := 7) (Nat.le_of_ble_eq_true rfl)
  generalize (lg_sl ([.ref (bd 0), .int x1, .long x2, .int x3, .int x4]) ++ List.replicate (7 - (lg_sl ([.ref (bd 0), .int x1, .long x2, .int x3, .int x4])).length) Slot.unset).toArray = ls at hl ⊢
  have hl : lv_has ls 7 [(0, .ref (bd 0)), (1, .int x1), (2, .long x2), (4, .int x3), (5, .int x4)] := hl
  rw [f_M_value] at h
  refine lv_aload_n hx hb d_M_value_0 rfl (lv_at hl 0 rfl) ?_
  refine lv_iload_n hx hb d_M_value_1 rfl (lv_at hl 1 rfl) ?_
  refine lv_lload_n hx hb d_M_value_2 rfl (lv_at hl 2 rfl) ?_
  obtain ⟨r5, er5, h⟩ := hx_b1s h
  refine hx_rd (va_runV (As := [.int x1, .long x2]) (rest := []) ⟨hx, hb, hml, hown, hts⟩ (c_M_sortOf l D T3 bd τ x1 x2 _ er5) (cwV 2 hts (hx_gV hx_cons k_666 k_668 k_28 k_55 k_669) rfl rfl rfl (by decide +kernel) ⟨Nat.le_of_ble_eq_true rfl, Nat.le_of_ble_eq_true rfl⟩) (hx_preV (va_recv hK hP (ci := 5) (q0 := 0) rfl hm_at_M) hP hK) rfl rfl hl.1 rfl (lv_room (Nat.le_of_ble_eq_true rfl)) d_M_value_3 ⟨Nat.zero_le _, Nat.zero_le _⟩) ?_
  refine lv_istore (lv' := [(6, .int r5), (0, .ref (bd 0)), (1, .int x1), (2, .long x2), (4, .int x3), (5, .int x4)]) hx hb d_M_value_6 hl (by decide) rfl (fun ls hl => ?_)
  refine lv_aload_n hx hb d_M_value_8 rfl (lv_at hl 1 rfl) ?_
  refine lv_aload_n hx hb d_M_value_9 rfl (lv_at hl 1 rfl) ?_
  refine va_get (D := D) (ci := 5) (v := .int (hm_hasNan τ)) (C := "HalfFloatsModel") (T := T_M) (N := 21) hx hb hts (hx_up in_M) hown hK hP (0) hm_at_M rfl 13 (by decide) (hts _ (hx_cons _ k_569)) (fun _ h9 => h9) rfl d_M_value_10 ?_
  refine lv_if_ne (tgt := 22) hx hb d_M_value_13 (by decide) (fun c6 => ?_) (fun c6 => ?_)
  · replace h := hx_in c6 h
    exact B_22 τ x1 x2 x3 x4 r5 _ _ ls hP hD hS (lv_sub hl [1, 2, 3, 4, 5, 0] rfl) h
  · replace h := hx_ip c6 h
    refine lv_iload hx hb d_M_value_16 (lv_at hl 0 rfl) ?_
    refine lv_iconst (v := 4) hx hb d_M_value_18 (by decide) ?_
    refine lv_icmp_ne (tgt := 26) hx hb d_M_value_19 (by decide) (fun c36 => ?_) (fun c36 => ?_)
    · replace h := hx_in c36 h
      refine lv_iconst (v := 0) hx hb d_M_value_26 (by decide) ?_
      exact B_27 τ x1 x2 x3 x4 r5 (0 : Int32) _ _ ls hP hD hS (lv_sub hl [1, 2, 3, 4, 5, 0] rfl) h
    · replace h := hx_ip c36 h
      exact B_22 τ x1 x2 x3 x4 r5 _ _ ls hP hD hS (lv_sub hl [1, 2, 3, 4, 5, 0] rfl) h
abbrev m_M_product : Room := { frames := 4, cells := 0, slots := 0, locals := 93 }
set_option maxHeartbeats 4000000 in
set_option maxRecDepth 100000 in
theorem c_M_product (l : Launch) (D : va_G) (T3 : hx_T3) (bd : Nat → Nat) (sz : Nat) (τ : hm_S) (x1 : Int32) (x2 : Int64) (x3 : Int32) (x4 : Int64) (x5 : Int32)  (σ0 : hm_S) (h : f_M_product τ x1 x2 x3 x4 x5 = some σ0) : hx_Wv l D (hx_ty T3) y_M_product w_M_product m_M_product [.ref (bd 0), .int x1, .long x2, .int x3, .long x4, .int x5] sz (hm_W T3 bd τ) (hm_W T3 bd σ0) := by
  refine Met.ofW (cc := b_M_product) (maxL := 10) (ret := none) (by decide) rfl ?_
  intro p e s m args below meth c s₁ B hml hv
  obtain ⟨hargs, hsz, hP, hK, hD0⟩ := hv
  have hx := B.exec
  have hb := B.bytes
  have hr := B.returns
  have hts := atoms_spec (ws := w_M_product) B.pre
  have hown : s.vm.findClass "HalfFloatsModel" = some m.cls := findClass_of_methodNamed B.named
  have hlocks := B.notSynchronized
  subst hsz
  have hD := hD0.self (sz := s.heap.size)
  generalize hAe : va_A (hm_W T3 bd τ) s.heap.size = A at hD ⊢
  have hA : ∀ q : Nat, s.heap.size ≤ q → A q := fun q h => by rw [← hAe]; exact Or.inr h
  have hS : va_S A s.heap s.heap [] := va_S.rf
  have B_134 : ∀ (σ : hm_S) (x69 : Int32) (x70 : Int64) (x71 : Int32) (x72 : Int64) (x73 : Int32) (x74 : Int32) (H : Heap) (locs : List Loc) (ls : Array Slot), va_P D vwCl (hm_W T3 bd σ) H → va_D A (hm_W T3 bd σ) → va_S A s.heap H locs → lv_has ls 10 [(0, .ref (bd 0)), (1, .int x69), (2, .long x70), (4, .int x71), (5, .long x72)] → f_M_product_134 σ x69 x70 x71 x72 x73 x74 = some σ0 → W p l e (headSpec w_M_product m_M_product).room s m args below meth c H locs 0 0 (MQ below (hx_Qv D (hx_ty T3) A (hm_W T3 bd σ0)) args s 0 0 A) (F0 m 134 ls [.int x74, .int x73, .ref (bd 0)]) := by
      intro σ x69 x70 x71 x72 x73 x74 H locs ls hP hD hS hl h
      rw [f_M_product_134] at h
      refine lv_aload_n hx hb d_M_product_134 rfl (lv_at hl 0 rfl) ?_
      refine lv_iload_n hx hb d_M_product_135 rfl (lv_at hl 1 rfl) ?_
      refine lv_lload_n hx hb d_M_product_136 rfl (lv_at hl 2 rfl) ?_
      obtain ⟨r75, er75, h⟩ := hx_b1s h
      refine hx_rd (va_runV (As := [.int x69, .long x70]) (rest := [.int x74, .int x73, .ref (bd 0)]) ⟨hx, hb, hml, hown, hts⟩ (c_M_wholeOf l D T3 bd σ x69 x70 _ er75) (cwV 2 hts (hx_gV hx_cons k_674 k_676 k_30 k_55 k_677) rfl rfl rfl (by decide +kernel) ⟨Nat.le_of_ble_eq_true rfl, Nat.le_of_ble_eq_true rfl⟩) (hx_preV (va_recv hK hP (ci := 5) (q0 := 0) rfl hm_at_M) hP hK) rfl rfl hl.1 rfl (lv_room (Nat.le_of_ble_eq_true rfl)) d_M_product_137 ⟨Nat.zero_le _, Nat.zero_le _⟩) ?_
      refine lv_aload_n hx hb d_M_product_140 rfl (lv_at hl 0 rfl) ?_
      refine lv_iload hx hb d_M_product_141 (lv_at hl 3 rfl) ?_
      refine lv_lload hx hb d_M_product_143 (lv_at hl 4 rfl) ?_
      obtain ⟨r76, er76, h⟩ := hx_b1s h
      refine hx_rd (va_runV (As := [.int x71, .long x72]) (rest := [.long r75, .int x74, .int x73, .ref (bd 0)]) ⟨hx, hb, hml, hown, hts⟩ (c_M_wholeOf l D T3 bd σ x71 x72 _ er76) (cwV 2 hts (hx_gV hx_cons k_674 k_676 k_30 k_55 k_677) rfl rfl rfl (by decide +kernel) ⟨Nat.le_of_ble_eq_true rfl, Nat.le_of_ble_eq_true rfl⟩) (hx_preV (va_recv hK hP (ci := 5) (q0 := 0) rfl hm_at_M) hP hK) rfl rfl hl.1 rfl (lv_room (Nat.le_of_ble_eq_true rfl)) d_M_product_145 ⟨Nat.zero_le _, Nat.zero_le _⟩) ?_
      refine lv_lmul hx hb d_M_product_148 ?_
      refine lv_aload_n hx hb d_M_product_149 rfl (lv_at hl 0 rfl) ?_
      refine lv_iload_n hx hb d_M_product_150 rfl (lv_at hl 1 rfl) ?_
      refine lv_lload_n hx hb d_M_product_151 rfl (lv_at hl 2 rfl) ?_
      obtain ⟨r77, er77, h⟩ := hx_b1s h
      refine hx_rd (va_runV (As := [.int x69, .long x70]) (rest := [.long (r75 * r76), .int x74, .int x73, .ref (bd 0)]) ⟨hx, hb, hml, hown, hts⟩ (c_M_powerOf l D T3 bd σ x69 x70 _ er77) (cwV 2 hts (hx_gV hx_cons k_678 k_680 k_31 k_55 k_681) rfl rfl rfl (by decide +kernel) ⟨Nat.le_of_ble_eq_true rfl, Nat.le_of_ble_eq_true rfl⟩) (hx_preV (va_recv hK hP (ci := 5) (q0 := 0) rfl hm_at_M) hP hK) rfl rfl hl.1 rfl (lv_room (Nat.le_of_ble_eq_true rfl)) d_M_product_152 ⟨Nat.zero_le _, Nat.zero_le _⟩) ?_
      refine lv_aload_n hx hb d_M_product_155 rfl (lv_at hl 0 rfl) ?_
      refine lv_iload hx hb d_M_product_156 (lv_at hl 3 rfl) ?_
      refine lv_lload hx hb d_M_product_158 (lv_at hl 4 rfl) ?_
      obtain ⟨r78, er78, h⟩ := hx_b1s h
      refine hx_rd (va_runV (As := [.int x71, .long x72]) (rest := [.int r77, .long (r75 * r76), .int x74, .int x73, .ref (bd 0)]) ⟨hx, hb, hml, hown, hts⟩ (c_M_powerOf l D T3 bd σ x71 x72 _ er78) (cwV 2 hts (hx_gV hx_cons k_678 k_680 k_31 k_55 k_681) rfl rfl rfl (by decide +kernel) ⟨Nat.le_of_ble_eq_true rfl, Nat.le_of_ble_eq_true rfl⟩) (hx_preV (va_recv hK hP (ci := 5) (q0 := 0) rfl hm_at_M) hP hK) rfl rfl hl.1 rfl (lv_room (Nat.le_of_ble_eq_true rfl)) d_M_product_160 ⟨Nat.zero_le _, Nat.zero_le _⟩) ?_
      refine lv_iadd hx hb d_M_product_163 ?_
      obtain ⟨q79, eq79, h⟩ := hx_b1s h
      refine hx_wv (va_runV (As := [.int x73, .int x74, .long (r75 * r76), .int (r77 + r78)]) (rest := []) ⟨hx, hb, hml, hown, hts⟩ (c_M_term l D T3 bd _ σ x73 x74 (r75 * r76) (r77 + r78) _ eq79) (cwV 4 hts (hx_gV hx_cons k_707 k_709 k_36 k_55 k_710) rfl rfl rfl (by decide +kernel) ⟨Nat.le_of_ble_eq_true rfl, Nat.le_of_ble_eq_true rfl⟩) (hx_preVw (va_recv hK hP (ci := 5) (q0 := 0) rfl hm_at_M) hP hK hD) rfl rfl hl.1 rfl (lv_room (Nat.le_of_ble_eq_true rfl)) d_M_product_164 ⟨Nat.zero_le _, Nat.zero_le _⟩) hD hS hA (fun H locs hP hD hS => ?_)
      exact W.vret hx hb hr (fun t ht hW => hx_endv h ht hW hP hK hD hS) hS.2.2 d_M_product_167
  have B_129 : ∀ (σ : hm_S) (x64 : Int32) (x65 : Int64) (x66 : Int32) (x67 : Int64) (x68 : Int32) (H : Heap) (locs : List Loc) (ls : Array Slot), va_P D vwCl (hm_W T3 bd σ) H → va_D A (hm_W T3 bd σ) → va_S A s.heap H locs → lv_has ls 10 [(0, .ref (bd 0)), (1, .int x64), (2, .long x65), (4, .int x66), (5, .long x67)] → f_M_product_129 σ x64 x65 x66 x67 x68 = some σ0 → W p l e (headSpec w_M_product m_M_product).room s m args below meth c H locs 0 0 (MQ below (hx_Qv D (hx_ty T3) A (hm_W T3 bd σ0)) args s 0 0 A) (F0 m 129 ls [.int x68, .ref (bd 0)]) := by
      intro σ x64 x65 x66 x67 x68 H locs ls hP hD hS hl h
      rw [f_M_product_129] at h
      refine lv_iconst (v := 1) hx hb d_M_product_129 (by decide) ?_
      refine lv_goto (tgt := 134) hx hb d_M_product_130 (by decide) ?_
      exact B_134 σ x64 x65 x66 x67 x68 (1 : Int32) _ _ ls hP hD hS (lv_sub hl [0, 1, 2, 3, 4] rfl) h
  have B_117 : ∀ (σ : hm_S) (x56 : Int32) (x57 : Int64) (x58 : Int32) (x59 : Int64) (x60 : Int32) (x61 : Int32) (x62 : Int32) (H : Heap) (locs : List Loc) (ls : Array Slot), va_P D vwCl (hm_W T3 bd σ) H → va_D A (hm_W T3 bd σ) → va_S A s.heap H locs → lv_has ls 10 [(0, .ref (bd 0)), (1, .int x56), (2, .long x57), (4, .int x58), (5, .long x59), (8, .int x60), (9, .int x61)] → f_M_product_117 σ x56 x57 x58 x59 x60 x61 x62 = some σ0 → W p l e (headSpec w_M_product m_M_product).room s m args below meth c H locs 0 0 (MQ below (hx_Qv D (hx_ty T3) A (hm_W T3 bd σ0)) args s 0 0 A) (F0 m 117 ls [.int x62, .ref (bd 0)]) := by
      intro σ x56 x57 x58 x59 x60 x61 x62 H locs ls hP hD hS hl h
      rw [f_M_product_117] at h
      refine lv_iload hx hb d_M_product_117 (lv_at hl 5 rfl) ?_
      refine lv_iconst (v := 3) hx hb d_M_product_119 (by decide) ?_
      refine lv_icmp_eq (tgt := 129) hx hb d_M_product_120 (by decide) (fun c63 => ?_) (fun c63 => ?_)
      · replace h := hx_ip c63 h
        exact B_129 σ x56 x57 x58 x59 x62 _ _ ls hP hD hS (lv_sub hl [0, 1, 2, 3, 4] rfl) h
      · replace h := hx_in c63 h
        refine lv_iload hx hb d_M_product_123 (lv_at hl 6 rfl) ?_
        refine lv_iconst (v := 3) hx hb d_M_product_125 (by decide) ?_
        refine lv_icmp_ne (tgt := 133) hx hb d_M_product_126 (by decide) (fun c80 => ?_) (fun c80 => ?_)
        · replace h := hx_in c80 h
          refine lv_iconst (v := 0) hx hb d_M_product_133 (by decide) ?_
          exact B_134 σ x56 x57 x58 x59 x62 (0 : Int32) _ _ ls hP hD hS (lv_sub hl [0, 1, 2, 3, 4] rfl) h
        · replace h := hx_ip c80 h
          exact B_129 σ x56 x57 x58 x59 x62 _ _ ls hP hD hS (lv_sub hl [0, 1, 2, 3, 4] rfl) h
  have B_107 : ∀ (σ : hm_S) (x47 : Int32) (x48 : Int64) (x49 : Int32) (x50 : Int64) (x51 : Int32) (x52 : Int32) (x53 : Int32) (x54 : Int32) (H : Heap) (locs : List Loc) (ls : Array Slot), va_P D vwCl (hm_W T3 bd σ) H → va_D A (hm_W T3 bd σ) → va_S A s.heap H locs → lv_has ls 10 [(0, .ref (bd 0)), (1, .int x47), (2, .long x48), (4, .int x49), (5, .long x50), (7, .int x51), (8, .int x52), (9, .int x53)] → f_M_product_107 σ x47 x48 x49 x50 x51 x52 x53 x54 = some σ0 → W p l e (headSpec w_M_product m_M_product).room s m args below meth c H locs 0 0 (MQ below (hx_Qv D (hx_ty T3) A (hm_W T3 bd σ0)) args s 0 0 A) (F0 m 107 ls [.int x54, .ref (bd 0)]) := by
      intro σ x47 x48 x49 x50 x51 x52 x53 x54 H locs ls hP hD hS hl h
      rw [f_M_product_107] at h
      refine lv_iload hx hb d_M_product_107 (lv_at hl 5 rfl) ?_
      refine lv_icmp_eq (tgt := 116) hx hb d_M_product_109 (by decide) (fun c55 => ?_) (fun c55 => ?_)
      · replace h := hx_ip c55 h
        refine lv_iconst (v := 0) hx hb d_M_product_116 (by decide) ?_
        exact B_117 σ x47 x48 x49 x50 x52 x53 (0 : Int32) _ _ ls hP hD hS (lv_sub hl [0, 1, 2, 3, 4, 6, 7] rfl) h
      · replace h := hx_in c55 h
        refine lv_iconst (v := 1) hx hb d_M_product_112 (by decide) ?_
        refine lv_goto (tgt := 117) hx hb d_M_product_113 (by decide) ?_
        exact B_117 σ x47 x48 x49 x50 x52 x53 (1 : Int32) _ _ ls hP hD hS (lv_sub hl [0, 1, 2, 3, 4, 6, 7] rfl) h
  have B_81 : ∀ (σ : hm_S) (x34 : Int32) (x35 : Int64) (x36 : Int32) (x37 : Int64) (x38 : Int32) (x39 : Int32) (x40 : Int32) (x41 : Int32) (H : Heap) (locs : List Loc) (ls : Array Slot), va_P D vwCl (hm_W T3 bd σ) H → va_D A (hm_W T3 bd σ) → va_S A s.heap H locs → lv_has ls 10 [(0, .ref (bd 0)), (1, .int x34), (2, .long x35), (4, .int x36), (5, .long x37), (7, .int x38), (8, .int x39), (9, .int x40)] → f_M_product_81 σ x34 x35 x36 x37 x38 x39 x40 x41 = some σ0 → W p l e (headSpec w_M_product m_M_product).room s m args below meth c H locs 0 0 (MQ below (hx_Qv D (hx_ty T3) A (hm_W T3 bd σ0)) args s 0 0 A) (F0 m 81 ls [.int x41, .ref (bd 0)]) := by
      intro σ x34 x35 x36 x37 x38 x39 x40 x41 H locs ls hP hD hS hl h
      rw [f_M_product_81] at h
      obtain ⟨g42, h⟩ := hx_gt h
      refine va_put (D := D) (ci := 5) (v := .int x41) (ty := .boolean) (C := "HalfFloatsModel") (T := T_M) (N := 21) hx hb hts (hx_up in_M) ty_M tyok_M nm_M hown hK hP hD hS (0) hm_at_M rfl 14 (by decide) (hts _ (hx_cons _ k_570)) (fun _ h9 => h9) rfl (by decide +kernel) (hx_nb g42) (hx_fb g42) (Nat.le_of_ble_eq_true rfl) d_M_product_81 (fun H locs hP hD hS => ?_)
      obtain ⟨σ43, eσ43⟩ : ∃ y : hm_S, y = (hm_isWrong_s σ x41) := ⟨_, rfl⟩
      replace hP : va_P D vwCl (hm_W T3 bd σ43) H := by rw [eσ43]; exact hP
      replace hD : va_D A (hm_W T3 bd σ43) := by rw [eσ43]; exact hD
      replace h := hx_ns eσ43 h
      clear eσ43
      refine lv_aload_n hx hb d_M_product_84 rfl (lv_at hl 0 rfl) ?_
      refine lv_aload_n hx hb d_M_product_85 rfl (lv_at hl 0 rfl) ?_
      refine lv_iload_n hx hb d_M_product_86 rfl (lv_at hl 1 rfl) ?_
      refine lv_lload_n hx hb d_M_product_87 rfl (lv_at hl 2 rfl) ?_
      obtain ⟨r44, er44, h⟩ := hx_b1s h
      refine hx_rd (va_runV (As := [.int x34, .long x35]) (rest := [.ref (bd 0)]) ⟨hx, hb, hml, hown, hts⟩ (c_M_isBelow l D T3 bd σ43 x34 x35 _ er44) (cwV 2 hts (hx_gV hx_cons k_670 k_672 k_29 k_55 k_673) rfl rfl rfl (by decide +kernel) ⟨Nat.le_of_ble_eq_true rfl, Nat.le_of_ble_eq_true rfl⟩) (hx_preV (va_recv hK hP (ci := 5) (q0 := 0) rfl hm_at_M) hP hK) rfl rfl hl.1 rfl (lv_room (Nat.le_of_ble_eq_true rfl)) d_M_product_88 ⟨Nat.zero_le _, Nat.zero_le _⟩) ?_
      refine lv_aload_n hx hb d_M_product_91 rfl (lv_at hl 0 rfl) ?_
      refine lv_iload hx hb d_M_product_92 (lv_at hl 3 rfl) ?_
      refine lv_lload hx hb d_M_product_94 (lv_at hl 4 rfl) ?_
      obtain ⟨r45, er45, h⟩ := hx_b1s h
      refine hx_rd (va_runV (As := [.int x36, .long x37]) (rest := [.int r44, .ref (bd 0)]) ⟨hx, hb, hml, hown, hts⟩ (c_M_isBelow l D T3 bd σ43 x36 x37 _ er45) (cwV 2 hts (hx_gV hx_cons k_670 k_672 k_29 k_55 k_673) rfl rfl rfl (by decide +kernel) ⟨Nat.le_of_ble_eq_true rfl, Nat.le_of_ble_eq_true rfl⟩) (hx_preV (va_recv hK hP (ci := 5) (q0 := 0) rfl hm_at_M) hP hK) rfl rfl hl.1 rfl (lv_room (Nat.le_of_ble_eq_true rfl)) d_M_product_96 ⟨Nat.zero_le _, Nat.zero_le _⟩) ?_
      refine lv_icmp_eq (tgt := 106) hx hb d_M_product_99 (by decide) (fun c46 => ?_) (fun c46 => ?_)
      · replace h := hx_ip c46 h
        refine lv_iconst (v := 0) hx hb d_M_product_106 (by decide) ?_
        exact B_107 σ43 x34 x35 x36 x37 x38 x39 x40 (0 : Int32) _ _ ls hP hD hS (lv_sub hl [0, 1, 2, 3, 4, 5, 6, 7] rfl) h
      · replace h := hx_in c46 h
        refine lv_iconst (v := 1) hx hb d_M_product_102 (by decide) ?_
        refine lv_goto (tgt := 107) hx hb d_M_product_103 (by decide) ?_
        exact B_107 σ43 x34 x35 x36 x37 x38 x39 x40 (1 : Int32) _ _ ls hP hD hS (lv_sub hl [0, 1, 2, 3, 4, 5, 6, 7] rfl) h
  have B_76 : ∀ (σ : hm_S) (x27 : Int32) (x28 : Int64) (x29 : Int32) (x30 : Int64) (x31 : Int32) (x32 : Int32) (x33 : Int32) (H : Heap) (locs : List Loc) (ls : Array Slot), va_P D vwCl (hm_W T3 bd σ) H → va_D A (hm_W T3 bd σ) → va_S A s.heap H locs → lv_has ls 10 [(0, .ref (bd 0)), (1, .int x27), (2, .long x28), (4, .int x29), (5, .long x30), (7, .int x31), (8, .int x32), (9, .int x33)] → f_M_product_76 σ x27 x28 x29 x30 x31 x32 x33 = some σ0 → W p l e (headSpec w_M_product m_M_product).room s m args below meth c H locs 0 0 (MQ below (hx_Qv D (hx_ty T3) A (hm_W T3 bd σ0)) args s 0 0 A) (F0 m 76 ls [.ref (bd 0)]) := by
      intro σ x27 x28 x29 x30 x31 x32 x33 H locs ls hP hD hS hl h
      rw [f_M_product_76] at h
      refine lv_iconst (v := 1) hx hb d_M_product_76 (by decide) ?_
      refine lv_goto (tgt := 81) hx hb d_M_product_77 (by decide) ?_
      exact B_81 σ x27 x28 x29 x30 x31 x32 x33 (1 : Int32) _ _ ls hP hD hS (lv_sub hl [0, 1, 2, 3, 4, 5, 6, 7] rfl) h
  have B_80 : ∀ (σ : hm_S) (x90 : Int32) (x91 : Int64) (x92 : Int32) (x93 : Int64) (x94 : Int32) (x95 : Int32) (x96 : Int32) (H : Heap) (locs : List Loc) (ls : Array Slot), va_P D vwCl (hm_W T3 bd σ) H → va_D A (hm_W T3 bd σ) → va_S A s.heap H locs → lv_has ls 10 [(0, .ref (bd 0)), (1, .int x90), (2, .long x91), (4, .int x92), (5, .long x93), (7, .int x94), (8, .int x95), (9, .int x96)] → f_M_product_80 σ x90 x91 x92 x93 x94 x95 x96 = some σ0 → W p l e (headSpec w_M_product m_M_product).room s m args below meth c H locs 0 0 (MQ below (hx_Qv D (hx_ty T3) A (hm_W T3 bd σ0)) args s 0 0 A) (F0 m 80 ls [.ref (bd 0)]) := by
      intro σ x90 x91 x92 x93 x94 x95 x96 H locs ls hP hD hS hl h
      rw [f_M_product_80] at h
      refine lv_iconst (v := 0) hx hb d_M_product_80 (by decide) ?_
      exact B_81 σ x90 x91 x92 x93 x94 x95 x96 (0 : Int32) _ _ ls hP hD hS (lv_sub hl [0, 1, 2, 3, 4, 5, 6, 7] rfl) h
  have B_65 : ∀ (σ : hm_S) (x82 : Int32) (x83 : Int64) (x84 : Int32) (x85 : Int64) (x86 : Int32) (x87 : Int32) (x88 : Int32) (H : Heap) (locs : List Loc) (ls : Array Slot), va_P D vwCl (hm_W T3 bd σ) H → va_D A (hm_W T3 bd σ) → va_S A s.heap H locs → lv_has ls 10 [(0, .ref (bd 0)), (1, .int x82), (2, .long x83), (4, .int x84), (5, .long x85), (7, .int x86), (8, .int x87), (9, .int x88)] → f_M_product_65 σ x82 x83 x84 x85 x86 x87 x88 = some σ0 → W p l e (headSpec w_M_product m_M_product).room s m args below meth c H locs 0 0 (MQ below (hx_Qv D (hx_ty T3) A (hm_W T3 bd σ0)) args s 0 0 A) (F0 m 65 ls [.ref (bd 0)]) := by
      intro σ x82 x83 x84 x85 x86 x87 x88 H locs ls hP hD hS hl h
      rw [f_M_product_65] at h
      refine lv_iload hx hb d_M_product_65 (lv_at hl 6 rfl) ?_
      refine lv_if_ne (tgt := 80) hx hb d_M_product_67 (by decide) (fun c89 => ?_) (fun c89 => ?_)
      · replace h := hx_in c89 h
        exact B_80 σ x82 x83 x84 x85 x86 x87 x88 _ _ ls hP hD hS (lv_sub hl [0, 1, 2, 3, 4, 5, 6, 7] rfl) h
      · replace h := hx_ip c89 h
        refine lv_iload hx hb d_M_product_70 (lv_at hl 7 rfl) ?_
        refine lv_iconst (v := 3) hx hb d_M_product_72 (by decide) ?_
        refine lv_icmp_ne (tgt := 80) hx hb d_M_product_73 (by decide) (fun c97 => ?_) (fun c97 => ?_)
        · replace h := hx_in c97 h
          exact B_80 σ x82 x83 x84 x85 x86 x87 x88 _ _ ls hP hD hS (lv_sub hl [0, 1, 2, 3, 4, 5, 6, 7] rfl) h
        · replace h := hx_ip c97 h
          exact B_76 σ x82 x83 x84 x85 x86 x87 x88 _ _ ls hP hD hS (lv_sub hl [0, 1, 2, 3, 4, 5, 6, 7] rfl) h
  have B_43 : ∀ (σ : hm_S) (x16 : Int32) (x17 : Int64) (x18 : Int32) (x19 : Int64) (x20 : Int32) (x21 : Int32) (x22 : Int32) (x23 : Int32) (H : Heap) (locs : List Loc) (ls : Array Slot), va_P D vwCl (hm_W T3 bd σ) H → va_D A (hm_W T3 bd σ) → va_S A s.heap H locs → lv_has ls 10 [(0, .ref (bd 0)), (1, .int x16), (2, .long x17), (4, .int x18), (5, .long x19), (7, .int x20), (8, .int x21), (9, .int x22)] → f_M_product_43 σ x16 x17 x18 x19 x20 x21 x22 x23 = some σ0 → W p l e (headSpec w_M_product m_M_product).room s m args below meth c H locs 0 0 (MQ below (hx_Qv D (hx_ty T3) A (hm_W T3 bd σ0)) args s 0 0 A) (F0 m 43 ls [.int x23, .ref (bd 0)]) := by
      intro σ x16 x17 x18 x19 x20 x21 x22 x23 H locs ls hP hD hS hl h
      rw [f_M_product_43] at h
      obtain ⟨g24, h⟩ := hx_gt h
      refine va_put (D := D) (ci := 5) (v := .int x23) (ty := .boolean) (C := "HalfFloatsModel") (T := T_M) (N := 21) hx hb hts (hx_up in_M) ty_M tyok_M nm_M hown hK hP hD hS (0) hm_at_M rfl 13 (by decide) (hts _ (hx_cons _ k_569)) (fun _ h9 => h9) rfl (by decide +kernel) (hx_nb g24) (hx_fb g24) (Nat.le_of_ble_eq_true rfl) d_M_product_43 (fun H locs hP hD hS => ?_)
      obtain ⟨σ25, eσ25⟩ : ∃ y : hm_S, y = (hm_hasNan_s σ x23) := ⟨_, rfl⟩
      replace hP : va_P D vwCl (hm_W T3 bd σ25) H := by rw [eσ25]; exact hP
      replace hD : va_D A (hm_W T3 bd σ25) := by rw [eσ25]; exact hD
      replace h := hx_ns eσ25 h
      clear eσ25
      refine lv_aload_n hx hb d_M_product_46 rfl (lv_at hl 0 rfl) ?_
      refine lv_aload_n hx hb d_M_product_47 rfl (lv_at hl 0 rfl) ?_
      refine va_get (D := D) (ci := 5) (v := .int (hm_isWrong σ25)) (C := "HalfFloatsModel") (T := T_M) (N := 21) hx hb hts (hx_up in_M) hown hK hP (0) hm_at_M rfl 14 (by decide) (hts _ (hx_cons _ k_570)) (fun _ h9 => h9) rfl d_M_product_48 ?_
      refine lv_if_ne (tgt := 76) hx hb d_M_product_51 (by decide) (fun c26 => ?_) (fun c26 => ?_)
      · replace h := hx_in c26 h
        exact B_76 σ25 x16 x17 x18 x19 x20 x21 x22 _ _ ls hP hD hS (lv_sub hl [0, 1, 2, 3, 4, 5, 6, 7] rfl) h
      · replace h := hx_ip c26 h
        refine lv_iload hx hb d_M_product_54 (lv_at hl 6 rfl) ?_
        refine lv_iconst (v := 3) hx hb d_M_product_56 (by decide) ?_
        refine lv_icmp_ne (tgt := 65) hx hb d_M_product_57 (by decide) (fun c81 => ?_) (fun c81 => ?_)
        · replace h := hx_in c81 h
          exact B_65 σ25 x16 x17 x18 x19 x20 x21 x22 _ _ ls hP hD hS (lv_sub hl [0, 1, 2, 3, 4, 5, 6, 7] rfl) h
        · replace h := hx_ip c81 h
          refine lv_iload hx hb d_M_product_60 (lv_at hl 7 rfl) ?_
          refine lv_if_eq (tgt := 76) hx hb d_M_product_62 (by decide) (fun c98 => ?_) (fun c98 => ?_)
          · replace h := hx_ip c98 h
            exact B_76 σ25 x16 x17 x18 x19 x20 x21 x22 _ _ ls hP hD hS (lv_sub hl [0, 1, 2, 3, 4, 5, 6, 7] rfl) h
          · replace h := hx_in c98 h
            exact B_65 σ25 x16 x17 x18 x19 x20 x21 x22 _ _ ls hP hD hS (lv_sub hl [0, 1, 2, 3, 4, 5, 6, 7] rfl) h
  have B_38 : ∀ (σ : hm_S) (x9 : Int32) (x10 : Int64) (x11 : Int32) (x12 : Int64) (x13 : Int32) (x14 : Int32) (x15 : Int32) (H : Heap) (locs : List Loc) (ls : Array Slot), va_P D vwCl (hm_W T3 bd σ) H → va_D A (hm_W T3 bd σ) → va_S A s.heap H locs → lv_has ls 10 [(0, .ref (bd 0)), (1, .int x9), (2, .long x10), (4, .int x11), (5, .long x12), (7, .int x13), (8, .int x14), (9, .int x15)] → f_M_product_38 σ x9 x10 x11 x12 x13 x14 x15 = some σ0 → W p l e (headSpec w_M_product m_M_product).room s m args below meth c H locs 0 0 (MQ below (hx_Qv D (hx_ty T3) A (hm_W T3 bd σ0)) args s 0 0 A) (F0 m 38 ls [.ref (bd 0)]) := by
      intro σ x9 x10 x11 x12 x13 x14 x15 H locs ls hP hD hS hl h
      rw [f_M_product_38] at h
      refine lv_iconst (v := 1) hx hb d_M_product_38 (by decide) ?_
      refine lv_goto (tgt := 43) hx hb d_M_product_39 (by decide) ?_
      exact B_43 σ x9 x10 x11 x12 x13 x14 x15 (1 : Int32) _ _ ls hP hD hS (lv_sub hl [0, 1, 2, 3, 4, 5, 6, 7] rfl) h
  refine W.eq (g2 := F0 m 0 ((lg_sl [.ref (bd 0), .int x1, .long x2, .int x3, .long x4, .int x5] ++ List.replicate (10 - (lg_sl [.ref (bd 0), .int x1, .long x2, .int x3, .long x4, .int x5]).length) Slot.unset).toArray) []) (by rw [hargs, lg_entry_eq]) ?_
  have hl := lv_entry ([.ref (bd 0), .int x1, .long x2, .int x3, .long x4, .int x5]) (n := 10) (Nat.le_of_ble_eq_true rfl)
  generalize (lg_sl ([.ref (bd 0), .int x1, .long x2, .int x3, .long x4, .int x5]) ++ List.replicate (10 - (lg_sl ([.ref (bd 0), .int x1, .long x2, .int x3, .long x4, .int x5])).length) Slot.unset).toArray = ls at hl ⊢
  have hl : lv_has ls 10 [(0, .ref (bd 0)), (1, .int x1), (2, .long x2), (4, .int x3), (5, .long x4), (7, .int x5)] := hl
  rw [f_M_product] at h
  refine lv_aload_n hx hb d_M_product_0 rfl (lv_at hl 0 rfl) ?_
  refine lv_iload_n hx hb d_M_product_1 rfl (lv_at hl 1 rfl) ?_
  refine lv_lload_n hx hb d_M_product_2 rfl (lv_at hl 2 rfl) ?_
  obtain ⟨r6, er6, h⟩ := hx_b1s h
  refine hx_rd (va_runV (As := [.int x1, .long x2]) (rest := []) ⟨hx, hb, hml, hown, hts⟩ (c_M_sortOf l D T3 bd τ x1 x2 _ er6) (cwV 2 hts (hx_gV hx_cons k_666 k_668 k_28 k_55 k_669) rfl rfl rfl (by decide +kernel) ⟨Nat.le_of_ble_eq_true rfl, Nat.le_of_ble_eq_true rfl⟩) (hx_preV (va_recv hK hP (ci := 5) (q0 := 0) rfl hm_at_M) hP hK) rfl rfl hl.1 rfl (lv_room (Nat.le_of_ble_eq_true rfl)) d_M_product_3 ⟨Nat.zero_le _, Nat.zero_le _⟩) ?_
  refine lv_istore (lv' := [(8, .int r6), (0, .ref (bd 0)), (1, .int x1), (2, .long x2), (4, .int x3), (5, .long x4), (7, .int x5)]) hx hb d_M_product_6 hl (by decide) rfl (fun ls hl => ?_)
  refine lv_aload_n hx hb d_M_product_8 rfl (lv_at hl 1 rfl) ?_
  refine lv_iload hx hb d_M_product_9 (lv_at hl 4 rfl) ?_
  refine lv_lload hx hb d_M_product_11 (lv_at hl 5 rfl) ?_
  obtain ⟨r7, er7, h⟩ := hx_b1s h
  refine hx_rd (va_runV (As := [.int x3, .long x4]) (rest := []) ⟨hx, hb, hml, hown, hts⟩ (c_M_sortOf l D T3 bd τ x3 x4 _ er7) (cwV 2 hts (hx_gV hx_cons k_666 k_668 k_28 k_55 k_669) rfl rfl rfl (by decide +kernel) ⟨Nat.le_of_ble_eq_true rfl, Nat.le_of_ble_eq_true rfl⟩) (hx_preV (va_recv hK hP (ci := 5) (q0 := 0) rfl hm_at_M) hP hK) rfl rfl hl.1 rfl (lv_room (Nat.le_of_ble_eq_true rfl)) d_M_product_13 ⟨Nat.zero_le _, Nat.zero_le _⟩) ?_
  refine lv_istore (lv' := [(9, .int r7), (8, .int r6), (0, .ref (bd 0)), (1, .int x1), (2, .long x2), (4, .int x3), (5, .long x4), (7, .int x5)]) hx hb d_M_product_16 hl (by decide) rfl (fun ls hl => ?_)
  refine lv_aload_n hx hb d_M_product_18 rfl (lv_at hl 2 rfl) ?_
  refine lv_aload_n hx hb d_M_product_19 rfl (lv_at hl 2 rfl) ?_
  refine va_get (D := D) (ci := 5) (v := .int (hm_hasNan τ)) (C := "HalfFloatsModel") (T := T_M) (N := 21) hx hb hts (hx_up in_M) hown hK hP (0) hm_at_M rfl 13 (by decide) (hts _ (hx_cons _ k_569)) (fun _ h9 => h9) rfl d_M_product_20 ?_
  refine lv_if_ne (tgt := 38) hx hb d_M_product_23 (by decide) (fun c8 => ?_) (fun c8 => ?_)
  · replace h := hx_in c8 h
    exact B_38 τ x1 x2 x3 x4 x5 r6 r7 _ _ ls hP hD hS (lv_sub hl [2, 3, 4, 5, 6, 7, 1, 0] rfl) h
  · replace h := hx_ip c8 h
    refine lv_iload hx hb d_M_product_26 (lv_at hl 1 rfl) ?_
    refine lv_iconst (v := 4) hx hb d_M_product_28 (by decide) ?_
    refine lv_icmp_eq (tgt := 38) hx hb d_M_product_29 (by decide) (fun c99 => ?_) (fun c99 => ?_)
    · replace h := hx_ip c99 h
      exact B_38 τ x1 x2 x3 x4 x5 r6 r7 _ _ ls hP hD hS (lv_sub hl [2, 3, 4, 5, 6, 7, 1, 0] rfl) h
    · replace h := hx_in c99 h
      refine lv_iload hx hb d_M_product_32 (lv_at hl 0 rfl) ?_
      refine lv_iconst (v := 4) hx hb d_M_product_34 (by decide) ?_
      refine lv_icmp_ne (tgt := 42) hx hb d_M_product_35 (by decide) (fun c100 => ?_) (fun c100 => ?_)
      · replace h := hx_in c100 h
        refine lv_iconst (v := 0) hx hb d_M_product_42 (by decide) ?_
        exact B_43 τ x1 x2 x3 x4 x5 r6 r7 (0 : Int32) _ _ ls hP hD hS (lv_sub hl [2, 3, 4, 5, 6, 7, 1, 0] rfl) h
      · replace h := hx_ip c100 h
        exact B_38 τ x1 x2 x3 x4 x5 r6 r7 _ _ ls hP hD hS (lv_sub hl [2, 3, 4, 5, 6, 7, 1, 0] rfl) h
abbrev m_M_bitAt : Room := { frames := 0, cells := 0, slots := 0, locals := 0 }
set_option maxHeartbeats 4000000 in
set_option maxRecDepth 100000 in
theorem c_M_bitAt (l : Launch) (D : va_G) (T3 : hx_T3) (bd : Nat → Nat) (τ : hm_S) (x1 : Int32) (r0 : Int32) (h : f_M_bitAt τ x1 = some r0) : hx_R l D (hx_ty T3) (hm_W T3 bd τ) y_M_bitAt w_M_bitAt m_M_bitAt [.ref (bd 0), .int x1] (.int r0) := by
  refine Met.ofW (cc := b_M_bitAt) (maxL := 2) (ret := (some .int)) (by decide) rfl ?_
  intro p e s m args below meth c s₁ B hml hv
  obtain ⟨hargs, hP, hK⟩ := hv
  have hx := B.exec
  have hb := B.bytes
  have hr := B.returns
  have hts := atoms_spec (ws := w_M_bitAt) B.pre
  have hown : s.vm.findClass "HalfFloatsModel" = some m.cls := findClass_of_methodNamed B.named
  have hlocks := B.notSynchronized
  refine W.eq (g2 := F0 m 0 ((lg_sl [.ref (bd 0), .int x1] ++ List.replicate (2 - (lg_sl [.ref (bd 0), .int x1]).length) Slot.unset).toArray) []) (by rw [hargs, lg_entry_eq]) ?_
  have hl := lv_entry ([.ref (bd 0), .int x1]) (n := 2) (Nat.le_of_ble_eq_true rfl)
  generalize (lg_sl ([.ref (bd 0), .int x1]) ++ List.replicate (2 - (lg_sl ([.ref (bd 0), .int x1])).length) Slot.unset).toArray = ls at hl ⊢
  have hl : lv_has ls 2 [(0, .ref (bd 0)), (1, .int x1)] := hl
  rw [f_M_bitAt] at h
  refine lv_iload_n hx hb d_M_bitAt_0 rfl (lv_at hl 1 rfl) ?_
  refine lv_if_ge (tgt := 8) hx hb d_M_bitAt_1 (by decide) (fun c2 => ?_) (fun c2 => ?_)
  · replace h := hx_ip c2 h
    refine lv_aload_n hx hb d_M_bitAt_8 rfl (lv_at hl 0 rfl) ?_
    refine va_get (D := D) (ci := 5) (v := .ref (bd 7)) (C := "HalfFloatsModel") (T := T_M) (N := 21) hx hb hts (hx_up in_M) hown hK hP (0) hm_at_M rfl 11 (by decide) (hts _ (hx_cons _ k_567)) (fun _ h9 => h9) rfl d_M_bitAt_9 ?_
    refine lv_iload_n hx hb d_M_bitAt_12 rfl (lv_at hl 1 rfl) ?_
    refine lv_bipush (v := 32) hx hb d_M_bitAt_13 (by decide) ?_
    refine lv_idiv hx hb d_M_bitAt_15 (by decide) ?_
    obtain ⟨g3, h⟩ := hx_gs h
    refine va_lald hx hb hK hP (7) 2 hm_at_limb rfl g3 d_M_bitAt_16 ?_
    refine lv_iload_n hx hb d_M_bitAt_17 rfl (lv_at hl 1 rfl) ?_
    refine lv_bipush (v := 32) hx hb d_M_bitAt_18 (by decide) ?_
    refine lv_irem hx hb d_M_bitAt_20 (by decide) ?_
    refine lv_lshr hx hb d_M_bitAt_21 rfl ?_
    refine lv_lconst (v := 1) hx hb d_M_bitAt_22 rfl ?_
    refine lv_land hx hb d_M_bitAt_23 ?_
    refine lv_l2i hx hb d_M_bitAt_24 rfl ?_
    exact W.iret hx hb hr (fun t ht hW => ⟨by rw [Option.some.inj h], ht⟩) (fun q hq => nomatch hq) d_M_bitAt_25
  · replace h := hx_in c2 h
    refine lv_iconst (v := 0) hx hb d_M_bitAt_4 (by decide) ?_
    refine lv_goto (tgt := 25) hx hb d_M_bitAt_5 (by decide) ?_
    exact W.iret hx hb hr (fun t ht hW => ⟨by rw [Option.some.inj h], ht⟩) (fun q hq => nomatch hq) d_M_bitAt_25
abbrev m_M_hasLower : Room := { frames := 1, cells := 0, slots := 0, locals := 21 }
set_option maxHeartbeats 4000000 in
set_option maxRecDepth 100000 in
theorem c_M_hasLower (l : Launch) (D : va_G) (T3 : hx_T3) (bd : Nat → Nat) (τ : hm_S) (x1 : Int32) (r0 : Int32) (h : f_M_hasLower τ x1 = some r0) : hx_R l D (hx_ty T3) (hm_W T3 bd τ) y_M_hasLower w_M_hasLower m_M_hasLower [.ref (bd 0), .int x1] (.int r0) := by
  refine Met.ofW (cc := b_M_hasLower) (maxL := 3) (ret := (some .boolean)) (by decide) rfl ?_
  intro p e s m args below meth c s₁ B hml hv
  obtain ⟨hargs, hP, hK⟩ := hv
  have hx := B.exec
  have hb := B.bytes
  have hr := B.returns
  have hts := atoms_spec (ws := w_M_hasLower) B.pre
  have hown : s.vm.findClass "HalfFloatsModel" = some m.cls := findClass_of_methodNamed B.named
  have hlocks := B.notSynchronized
  have B_2 : ∀ (n : Nat), ∀ (x2 : Int32) (x3 : Int32) (ls : Array Slot), lv_has ls 3 [(0, .ref (bd 0)), (1, .int x2), (2, .int x3)] → f_M_hasLower_2 n τ x2 x3 = some r0 → W p l e (headSpec w_M_hasLower m_M_hasLower).room s m args below meth c s.heap [] 0 0 (MQ below (hx_Q (.int r0)) args s 0 0 (fun _ => False)) (F0 m 2 ls []) := by
    intro n
    induction n with
    | zero =>
      intro x2 x3 ls hl h
      rw [f_M_hasLower_2] at h
      cases h
    | succ n ih =>
        intro x2 x3 ls hl h
        rw [f_M_hasLower_2] at h
        refine lv_iload_n hx hb d_M_hasLower_2 rfl (lv_at hl 2 rfl) ?_
        refine lv_iload_n hx hb d_M_hasLower_3 rfl (lv_at hl 1 rfl) ?_
        refine lv_icmp_ge (tgt := 24) hx hb d_M_hasLower_4 (by decide) (fun c4 => ?_) (fun c4 => ?_)
        · replace h := hx_ip c4 h
          refine lv_iconst (v := 0) hx hb d_M_hasLower_24 (by decide) ?_
          exact W.zret hx hb hr (hx_nb (Or.inl rfl)) (fun t ht hW => ⟨by rw [Option.some.inj h], ht⟩) (fun q hq => nomatch hq) d_M_hasLower_25
        · replace h := hx_in c4 h
          refine lv_aload_n hx hb d_M_hasLower_7 rfl (lv_at hl 0 rfl) ?_
          refine lv_iload_n hx hb d_M_hasLower_8 rfl (lv_at hl 2 rfl) ?_
          obtain ⟨r5, er5, h⟩ := hx_b1s h
          refine hx_rd (va_runV (As := [.int x3]) (rest := []) ⟨hx, hb, hml, hown, hts⟩ (c_M_bitAt l D T3 bd τ x3 _ er5) (cwV 1 hts (hx_gV hx_cons k_720 k_722 k_39 k_55 k_723) rfl rfl rfl (by decide +kernel) ⟨Nat.le_of_ble_eq_true rfl, Nat.le_of_ble_eq_true rfl⟩) (hx_preV (va_recv hK hP (ci := 5) (q0 := 0) rfl hm_at_M) hP hK) rfl rfl hl.1 rfl (lv_room (Nat.le_of_ble_eq_true rfl)) d_M_hasLower_9 ⟨Nat.zero_le _, Nat.zero_le _⟩) ?_
          refine lv_iconst (v := 1) hx hb d_M_hasLower_12 (by decide) ?_
          refine lv_icmp_ne (tgt := 18) hx hb d_M_hasLower_13 (by decide) (fun c6 => ?_) (fun c6 => ?_)
          · replace h := hx_in c6 h
            obtain ⟨x7, ex7⟩ : ∃ y : Int32, y = x3 + 1 := ⟨_, rfl⟩
            replace h := hx_ns ex7 h
            refine lv_iinc (v := x7) (lv' := [(2, .int x7), (0, .ref (bd 0)), (1, .int x2)]) hx hb d_M_hasLower_18 hl (k := 2) rfl (by rw [ex7]; rfl) (by decide) rfl (fun ls hl => ?_)
            clear ex7
            refine lv_goto (tgt := 2) hx hb d_M_hasLower_21 (by decide) ?_
            exact ih x2 x7 ls (lv_sub hl [1, 2, 0] rfl) h
          · replace h := hx_ip c6 h
            refine lv_iconst (v := 1) hx hb d_M_hasLower_16 (by decide) ?_
            exact W.zret hx hb hr (hx_nb (Or.inr rfl)) (fun t ht hW => ⟨by rw [Option.some.inj h], ht⟩) (fun q hq => nomatch hq) d_M_hasLower_17
  refine W.eq (g2 := F0 m 0 ((lg_sl [.ref (bd 0), .int x1] ++ List.replicate (3 - (lg_sl [.ref (bd 0), .int x1]).length) Slot.unset).toArray) []) (by rw [hargs, lg_entry_eq]) ?_
  have hl := lv_entry ([.ref (bd 0), .int x1]) (n := 3) (Nat.le_of_ble_eq_true rfl)
  generalize (lg_sl ([.ref (bd 0), .int x1]) ++ List.replicate (3 - (lg_sl ([.ref (bd 0), .int x1])).length) Slot.unset).toArray = ls at hl ⊢
  have hl : lv_has ls 3 [(0, .ref (bd 0)), (1, .int x1)] := hl
  rw [f_M_hasLower] at h
  refine lv_iconst (v := 0) hx hb d_M_hasLower_0 (by decide) ?_
  refine lv_istore_n (lv' := [(2, .int (0 : Int32)), (0, .ref (bd 0)), (1, .int x1)]) hx hb d_M_hasLower_1 rfl hl (by decide) rfl (fun ls hl => ?_)
  exact B_2 hx_fuel x1 (0 : Int32) ls (lv_sub hl [1, 2, 0] rfl) h
abbrev m_M_negate : Room := { frames := 0, cells := 0, slots := 0, locals := 0 }
set_option maxHeartbeats 4000000 in
set_option maxRecDepth 100000 in
theorem c_M_negate (l : Launch) (D : va_G) (T3 : hx_T3) (bd : Nat → Nat) (sz : Nat) (τ : hm_S)  (σ0 : hm_S) (h : f_M_negate τ = some σ0) : hx_Wv l D (hx_ty T3) y_M_negate w_M_negate m_M_negate [.ref (bd 0)] sz (hm_W T3 bd τ) (hm_W T3 bd σ0) := by
  refine Met.ofW (cc := b_M_negate) (maxL := 6) (ret := none) (by decide) rfl ?_
  intro p e s m args below meth c s₁ B hml hv
  obtain ⟨hargs, hsz, hP, hK, hD0⟩ := hv
  have hx := B.exec
  have hb := B.bytes
  have hr := B.returns
  have hts := atoms_spec (ws := w_M_negate) B.pre
  have hown : s.vm.findClass "HalfFloatsModel" = some m.cls := findClass_of_methodNamed B.named
  have hlocks := B.notSynchronized
  subst hsz
  have hD := hD0.self (sz := s.heap.size)
  generalize hAe : va_A (hm_W T3 bd τ) s.heap.size = A at hD ⊢
  have hA : ∀ q : Nat, s.heap.size ≤ q → A q := fun q h => by rw [← hAe]; exact Or.inr h
  have hS : va_S A s.heap s.heap [] := va_S.rf
  have B_4 : ∀ (n : Nat), ∀ (σ : hm_S) (x1 : Int64) (x2 : Int32) (H : Heap) (locs : List Loc) (ls : Array Slot), va_P D vwCl (hm_W T3 bd σ) H → va_D A (hm_W T3 bd σ) → va_S A s.heap H locs → lv_has ls 6 [(0, .ref (bd 0)), (1, .long x1), (3, .int x2)] → f_M_negate_4 n σ x1 x2 = some σ0 → W p l e (headSpec w_M_negate m_M_negate).room s m args below meth c H locs 0 0 (MQ below (hx_Qv D (hx_ty T3) A (hm_W T3 bd σ0)) args s 0 0 A) (F0 m 4 ls []) := by
    intro n
    induction n with
    | zero =>
      intro σ x1 x2 H locs ls hP hD hS hl h
      rw [f_M_negate_4] at h
      cases h
    | succ n ih =>
        intro σ x1 x2 H locs ls hP hD hS hl h
        rw [f_M_negate_4] at h
        refine lv_iload_n hx hb d_M_negate_4 rfl (lv_at hl 2 rfl) ?_
        refine lv_bipush (v := 24) hx hb d_M_negate_5 (by decide) ?_
        refine lv_icmp_ge (tgt := 52) hx hb d_M_negate_7 (by decide) (fun c3 => ?_) (fun c3 => ?_)
        · replace h := hx_ip c3 h
          exact W.vret hx hb hr (fun t ht hW => hx_endv h ht hW hP hK hD hS) hS.2.2 d_M_negate_52
        · replace h := hx_in c3 h
          refine lv_aload_n hx hb d_M_negate_10 rfl (lv_at hl 0 rfl) ?_
          refine va_get (D := D) (ci := 5) (v := .ref (bd 7)) (C := "HalfFloatsModel") (T := T_M) (N := 21) hx hb hts (hx_up in_M) hown hK hP (0) hm_at_M rfl 11 (by decide) (hts _ (hx_cons _ k_567)) (fun _ h9 => h9) rfl d_M_negate_11 ?_
          refine lv_iload_n hx hb d_M_negate_14 rfl (lv_at hl 2 rfl) ?_
          obtain ⟨g4, h⟩ := hx_gs h
          refine va_lald hx hb hK hP (7) 2 hm_at_limb rfl g4 d_M_negate_15 ?_
          refine lv_ldc2 (v := -1) hx hb hown (hts _ (hx_cons _ k_664)) d_M_negate_16 ?_
          refine lv_lxor hx hb d_M_negate_19 ?_
          refine lv_ldc2 (v := 4294967295) hx hb hown (hts _ (hx_cons _ k_663)) d_M_negate_20 ?_
          refine lv_land hx hb d_M_negate_23 ?_
          refine lv_lload_n hx hb d_M_negate_24 rfl (lv_at hl 1 rfl) ?_
          refine lv_ladd hx hb d_M_negate_25 ?_
          refine lv_topl (fun x5 ex5 => ?_)
          replace h := hx_ns ex5 h
          clear ex5
          refine lv_lstore (lv' := [(4, .long x5), (0, .ref (bd 0)), (1, .long x1), (3, .int x2)]) hx hb d_M_negate_26 hl (by decide) rfl (fun ls hl => ?_)
          refine lv_aload_n hx hb d_M_negate_28 rfl (lv_at hl 1 rfl) ?_
          refine va_get (D := D) (ci := 5) (v := .ref (bd 7)) (C := "HalfFloatsModel") (T := T_M) (N := 21) hx hb hts (hx_up in_M) hown hK hP (0) hm_at_M rfl 11 (by decide) (hts _ (hx_cons _ k_567)) (fun _ h9 => h9) rfl d_M_negate_29 ?_
          refine lv_iload_n hx hb d_M_negate_32 rfl (lv_at hl 3 rfl) ?_
          refine lv_lload hx hb d_M_negate_33 (lv_at hl 0 rfl) ?_
          refine lv_ldc2 (v := 4294967295) hx hb hown (hts _ (hx_cons _ k_663)) d_M_negate_35 ?_
          refine lv_land hx hb d_M_negate_38 ?_
          refine lv_topl (fun x6 ex6 => ?_)
          replace h := hx_ns ex6 h
          clear ex6
          obtain ⟨g7, h⟩ := hx_gs h
          refine va_last hx hb hK hP hD hS (7) 2 hm_at_limb rfl g7 d_M_negate_39 (fun H locs hP hD hS => ?_)
          obtain ⟨σ8, eσ8⟩ : ∃ y : hm_S, y = (hm_limb_s σ x2.toNatClampNeg x6) := ⟨_, rfl⟩
          replace hP : va_P D vwCl (hm_W T3 bd σ8) H := by rw [eσ8]; exact hP
          replace hD : va_D A (hm_W T3 bd σ8) := by rw [eσ8]; exact hD
          replace h := hx_ns eσ8 h
          clear eσ8
          refine lv_lload hx hb d_M_negate_40 (lv_at hl 0 rfl) ?_
          refine lv_bipush (v := 32) hx hb d_M_negate_42 (by decide) ?_
          refine lv_lshr hx hb d_M_negate_44 rfl ?_
          refine lv_topl (fun x9 ex9 => ?_)
          replace h := hx_ns ex9 h
          clear ex9
          refine lv_lstore_n (lv' := [(1, .long x9), (4, .long x5), (0, .ref (bd 0)), (3, .int x2)]) hx hb d_M_negate_45 rfl hl (by decide) rfl (fun ls hl => ?_)
          obtain ⟨x10, ex10⟩ : ∃ y : Int32, y = x2 + 1 := ⟨_, rfl⟩
          replace h := hx_ns ex10 h
          refine lv_iinc (v := x10) (lv' := [(3, .int x10), (1, .long x9), (4, .long x5), (0, .ref (bd 0))]) hx hb d_M_negate_46 hl (k := 3) rfl (by rw [ex10]; rfl) (by decide) rfl (fun ls hl => ?_)
          clear ex10
          refine lv_goto (tgt := 4) hx hb d_M_negate_49 (by decide) ?_
          exact ih σ8 x9 x10 _ _ ls hP hD hS (lv_sub hl [3, 1, 0] rfl) h
  refine W.eq (g2 := F0 m 0 ((lg_sl [.ref (bd 0)] ++ List.replicate (6 - (lg_sl [.ref (bd 0)]).length) Slot.unset).toArray) []) (by rw [hargs, lg_entry_eq]) ?_
  have hl := lv_entry ([.ref (bd 0)]) (n := 6) (Nat.le_of_ble_eq_true rfl)
  generalize (lg_sl ([.ref (bd 0)]) ++ List.replicate (6 - (lg_sl ([.ref (bd 0)])).length) Slot.unset).toArray = ls at hl ⊢
  have hl : lv_has ls 6 [(0, .ref (bd 0))] := hl
  rw [f_M_negate] at h
  refine lv_lconst (v := 1) hx hb d_M_negate_0 rfl ?_
  refine lv_lstore_n (lv' := [(1, .long (1 : Int64)), (0, .ref (bd 0))]) hx hb d_M_negate_1 rfl hl (by decide) rfl (fun ls hl => ?_)
  refine lv_iconst (v := 0) hx hb d_M_negate_2 (by decide) ?_
  refine lv_istore_n (lv' := [(3, .int (0 : Int32)), (1, .long (1 : Int64)), (0, .ref (bd 0))]) hx hb d_M_negate_3 rfl hl (by decide) rfl (fun ls hl => ?_)
  exact B_4 hx_fuel τ (1 : Int64) (0 : Int32) _ _ ls hP hD hS (lv_sub hl [2, 1, 0] rfl) h
abbrev m_M_drawn : Room := { frames := 0, cells := 0, slots := 0, locals := 0 }
set_option maxHeartbeats 4000000 in
set_option maxRecDepth 100000 in
theorem c_M_drawn (l : Launch) (D : va_G) (T3 : hx_T3) (bd : Nat → Nat) (sz : Nat) (τ : hm_S) (r0 : Int32) (σ0 : hm_S) (h : f_M_drawn τ = some (r0, σ0)) : hx_Wi l D (hx_ty T3) y_M_drawn w_M_drawn m_M_drawn [.ref (bd 0)] sz (hm_W T3 bd τ) r0 (hm_W T3 bd σ0) := by
  refine Met.ofW (cc := b_M_drawn) (maxL := 1) (ret := (some .int)) (by decide) rfl ?_
  intro p e s m args below meth c s₁ B hml hv
  obtain ⟨hargs, hsz, hP, hK, hD0⟩ := hv
  have hx := B.exec
  have hb := B.bytes
  have hr := B.returns
  have hts := atoms_spec (ws := w_M_drawn) B.pre
  have hown : s.vm.findClass "HalfFloatsModel" = some m.cls := findClass_of_methodNamed B.named
  have hlocks := B.notSynchronized
  subst hsz
  have hD := hD0.self (sz := s.heap.size)
  generalize hAe : va_A (hm_W T3 bd τ) s.heap.size = A at hD ⊢
  have hA : ∀ q : Nat, s.heap.size ≤ q → A q := fun q h => by rw [← hAe]; exact Or.inr h
  have hS : va_S A s.heap s.heap [] := va_S.rf
  refine W.eq (g2 := F0 m 0 ((lg_sl [.ref (bd 0)] ++ List.replicate (1 - (lg_sl [.ref (bd 0)]).length) Slot.unset).toArray) []) (by rw [hargs, lg_entry_eq]) ?_
  have hl := lv_entry ([.ref (bd 0)]) (n := 1) (Nat.le_of_ble_eq_true rfl)
  generalize (lg_sl ([.ref (bd 0)]) ++ List.replicate (1 - (lg_sl ([.ref (bd 0)])).length) Slot.unset).toArray = ls at hl ⊢
  have hl : lv_has ls 1 [(0, .ref (bd 0))] := hl
  rw [f_M_drawn] at h
  refine lv_aload_n hx hb d_M_drawn_0 rfl (lv_at hl 0 rfl) ?_
  refine lv_aload_n hx hb d_M_drawn_1 rfl (lv_at hl 0 rfl) ?_
  refine va_get (D := D) (ci := 5) (v := .long (hm_state τ)) (C := "HalfFloatsModel") (T := T_M) (N := 21) hx hb hts (hx_up in_M) hown hK hP (0) hm_at_M rfl 7 (by decide) (hts _ (hx_cons _ k_563)) (fun _ h9 => h9) rfl d_M_drawn_2 ?_
  refine lv_ldc2 (v := 48271) hx hb hown (hts _ (hx_cons _ k_744)) d_M_drawn_5 ?_
  refine lv_lmul hx hb d_M_drawn_8 ?_
  refine lv_ldc2 (v := 2147483647) hx hb hown (hts _ (hx_cons _ k_745)) d_M_drawn_9 ?_
  refine lv_lrem hx hb d_M_drawn_12 (by decide) ?_
  refine lv_topl (fun x1 ex1 => ?_)
  replace h := hx_ns ex1 h
  clear ex1
  refine va_put (D := D) (ci := 5) (v := .long x1) (ty := .long) (C := "HalfFloatsModel") (T := T_M) (N := 21) hx hb hts (hx_up in_M) ty_M tyok_M nm_M hown hK hP hD hS (0) hm_at_M rfl 7 (by decide) (hts _ (hx_cons _ k_563)) (fun _ h9 => h9) rfl (by decide +kernel) rfl rfl (Nat.le_of_ble_eq_true rfl) d_M_drawn_13 (fun H locs hP hD hS => ?_)
  obtain ⟨σ2, eσ2⟩ : ∃ y : hm_S, y = (hm_state_s τ x1) := ⟨_, rfl⟩
  replace hP : va_P D vwCl (hm_W T3 bd σ2) H := by rw [eσ2]; exact hP
  replace hD : va_D A (hm_W T3 bd σ2) := by rw [eσ2]; exact hD
  replace h := hx_ns eσ2 h
  clear eσ2
  refine lv_aload_n hx hb d_M_drawn_16 rfl (lv_at hl 0 rfl) ?_
  refine va_get (D := D) (ci := 5) (v := .long (hm_state σ2)) (C := "HalfFloatsModel") (T := T_M) (N := 21) hx hb hts (hx_up in_M) hown hK hP (0) hm_at_M rfl 7 (by decide) (hts _ (hx_cons _ k_563)) (fun _ h9 => h9) rfl d_M_drawn_17 ?_
  refine lv_ldc2 (v := 16) hx hb hown (hts _ (hx_cons _ k_746)) d_M_drawn_20 ?_
  refine lv_ldiv hx hb d_M_drawn_23 (by decide) ?_
  refine lv_ldc2 (v := 65536) hx hb hown (hts _ (hx_cons _ k_747)) d_M_drawn_24 ?_
  refine lv_lrem hx hb d_M_drawn_27 (by decide) ?_
  refine lv_l2i hx hb d_M_drawn_28 rfl ?_
  exact W.iret hx hb hr (fun t ht hW => hx_endi h ht hW hP hK hD hS) hS.2.2 d_M_drawn_29
abbrev m_M_isFarther : Room := { frames := 2, cells := 0, slots := 0, locals := 43 }
set_option maxHeartbeats 4000000 in
set_option maxRecDepth 100000 in
theorem c_M_isFarther (l : Launch) (D : va_G) (T3 : hx_T3) (bd : Nat → Nat) (sz : Nat) (τ : hm_S) (x1 : Int32) (x2 : Int32) (x3 : Int32) (x4 : Int64) (r0 : Int32) (σ0 : hm_S) (h : f_M_isFarther τ x1 x2 x3 x4 = some (r0, σ0)) : hx_Wi l D (hx_ty T3) y_M_isFarther w_M_isFarther m_M_isFarther [.ref (bd 0), .int x1, .int x2, .int x3, .long x4] sz (hm_W T3 bd τ) r0 (hm_W T3 bd σ0) := by
  refine Met.ofW (cc := b_M_isFarther) (maxL := 10) (ret := (some .boolean)) (by decide) rfl ?_
  intro p e s m args below meth c s₁ B hml hv
  obtain ⟨hargs, hsz, hP, hK, hD0⟩ := hv
  have hx := B.exec
  have hb := B.bytes
  have hr := B.returns
  have hts := atoms_spec (ws := w_M_isFarther) B.pre
  have hown : s.vm.findClass "HalfFloatsModel" = some m.cls := findClass_of_methodNamed B.named
  have hlocks := B.notSynchronized
  subst hsz
  have hD := hD0.self (sz := s.heap.size)
  generalize hAe : va_A (hm_W T3 bd τ) s.heap.size = A at hD ⊢
  have hA : ∀ q : Nat, s.heap.size ≤ q → A q := fun q h => by rw [← hAe]; exact Or.inr h
  have hS : va_S A s.heap s.heap [] := va_S.rf
  have B_116 : ∀ (n : Nat), ∀ (σ : hm_S) (x25 : Int32) (x26 : Int32) (x27 : Int32) (H : Heap) (locs : List Loc) (ls : Array Slot), va_P D vwCl (hm_W T3 bd σ) H → va_D A (hm_W T3 bd σ) → va_S A s.heap H locs → lv_has ls 10 [(0, .ref (bd 0)), (3, .int x25), (8, .int x26), (9, .int x27)] → f_M_isFarther_116 n σ x25 x26 x27 = some (r0, σ0) → W p l e (headSpec w_M_isFarther m_M_isFarther).room s m args below meth c H locs 0 0 (MQ below (hx_Qi D (hx_ty T3) A r0 (hm_W T3 bd σ0)) args s 0 0 A) (F0 m 116 ls []) := by
    intro n
    induction n with
    | zero =>
      intro σ x25 x26 x27 H locs ls hP hD hS hl h
      rw [f_M_isFarther_116] at h
      cases h
    | succ n ih =>
        intro σ x25 x26 x27 H locs ls hP hD hS hl h
        rw [f_M_isFarther_116] at h
        refine lv_iload hx hb d_M_isFarther_116 (lv_at hl 3 rfl) ?_
        refine lv_iload_n hx hb d_M_isFarther_118 rfl (lv_at hl 1 rfl) ?_
        refine lv_bipush (v := 17) hx hb d_M_isFarther_119 (by decide) ?_
        refine lv_isub hx hb d_M_isFarther_121 ?_
        refine lv_icmp_le (tgt := 144) hx hb d_M_isFarther_122 (by decide) (fun c28 => ?_) (fun c28 => ?_)
        · replace h := hx_ip c28 h
          refine lv_aload_n hx hb d_M_isFarther_144 rfl (lv_at hl 0 rfl) ?_
          obtain ⟨r30, q29, eq29, h⟩ := hx_b2s h
          refine hx_wi (va_runV (As := []) (rest := []) ⟨hx, hb, hml, hown, hts⟩ (c_M_drawn l D T3 bd _ σ _ _ eq29) (cwV 0 hts (hx_gV hx_cons k_740 k_742 k_44 k_55 k_743) rfl rfl rfl (by decide +kernel) ⟨Nat.le_of_ble_eq_true rfl, Nat.le_of_ble_eq_true rfl⟩) (hx_preVw (va_recv hK hP (ci := 5) (q0 := 0) rfl hm_at_M) hP hK hD) rfl rfl hl.1 rfl (lv_room (Nat.le_of_ble_eq_true rfl)) d_M_isFarther_145 ⟨Nat.zero_le _, Nat.zero_le _⟩) hD hS hA (fun H locs hP hD hS => ?_)
          refine lv_iload hx hb d_M_isFarther_148 (lv_at hl 2 rfl) ?_
          refine lv_icmp_ge (tgt := 157) hx hb d_M_isFarther_150 (by decide) (fun c31 => ?_) (fun c31 => ?_)
          · replace h := hx_ip c31 h
            refine lv_iconst (v := 0) hx hb d_M_isFarther_157 (by decide) ?_
            exact W.zret hx hb hr (hx_nb (Or.inl rfl)) (fun t ht hW => hx_endi h ht hW hP hK hD hS) hS.2.2 d_M_isFarther_158
          · replace h := hx_in c31 h
            refine lv_iconst (v := 1) hx hb d_M_isFarther_153 (by decide) ?_
            refine lv_goto (tgt := 158) hx hb d_M_isFarther_154 (by decide) ?_
            exact W.zret hx hb hr (hx_nb (Or.inr rfl)) (fun t ht hW => hx_endi h ht hW hP hK hD hS) hS.2.2 d_M_isFarther_158
        · replace h := hx_in c28 h
          refine lv_iconst (v := 2) hx hb d_M_isFarther_125 (by decide) ?_
          refine lv_iload hx hb d_M_isFarther_126 (lv_at hl 2 rfl) ?_
          refine lv_imul hx hb d_M_isFarther_128 ?_
          refine lv_aload_n hx hb d_M_isFarther_129 rfl (lv_at hl 0 rfl) ?_
          refine lv_iload hx hb d_M_isFarther_130 (lv_at hl 3 rfl) ?_
          obtain ⟨r32, er32, h⟩ := hx_b1s h
          refine hx_rd (va_runV (As := [.int x27]) (rest := [.int ((2 : Int32) * x26)]) ⟨hx, hb, hml, hown, hts⟩ (c_M_bitAt l D T3 bd σ x27 _ er32) (cwV 1 hts (hx_gV hx_cons k_720 k_722 k_39 k_55 k_723) rfl rfl rfl (by decide +kernel) ⟨Nat.le_of_ble_eq_true rfl, Nat.le_of_ble_eq_true rfl⟩) (hx_preV (va_recv hK hP (ci := 5) (q0 := 0) rfl hm_at_M) hP hK) rfl rfl hl.1 rfl (lv_room (Nat.le_of_ble_eq_true rfl)) d_M_isFarther_132 ⟨Nat.zero_le _, Nat.zero_le _⟩) ?_
          refine lv_iadd hx hb d_M_isFarther_135 ?_
          refine lv_topi (fun x33 ex33 => ?_)
          replace h := hx_ns ex33 h
          clear ex33
          refine lv_istore (lv' := [(8, .int x33), (0, .ref (bd 0)), (3, .int x25), (9, .int x27)]) hx hb d_M_isFarther_136 hl (by decide) rfl (fun ls hl => ?_)
          obtain ⟨x34, ex34⟩ : ∃ y : Int32, y = x27 + (-1) := ⟨_, rfl⟩
          replace h := hx_ns ex34 h
          refine lv_iinc (v := x34) (lv' := [(9, .int x34), (8, .int x33), (0, .ref (bd 0)), (3, .int x25)]) hx hb d_M_isFarther_138 hl (k := 3) rfl (by rw [ex34]; rfl) (by decide) rfl (fun ls hl => ?_)
          clear ex34
          refine lv_goto (tgt := 116) hx hb d_M_isFarther_141 (by decide) ?_
          exact ih σ x25 x33 x34 _ _ ls hP hD hS (lv_sub hl [2, 3, 1, 0] rfl) h
  have B_16 : ∀ (σ : hm_S) (x7 : Int32) (x8 : Int32) (x9 : Int32) (x10 : Int64) (x11 : Int32) (H : Heap) (locs : List Loc) (ls : Array Slot), va_P D vwCl (hm_W T3 bd σ) H → va_D A (hm_W T3 bd σ) → va_S A s.heap H locs → lv_has ls 10 [(0, .ref (bd 0)), (1, .int x7), (2, .int x8), (3, .int x9), (4, .long x10)] → f_M_isFarther_16 σ x7 x8 x9 x10 x11 = some (r0, σ0) → W p l e (headSpec w_M_isFarther m_M_isFarther).room s m args below meth c H locs 0 0 (MQ below (hx_Qi D (hx_ty T3) A r0 (hm_W T3 bd σ0)) args s 0 0 A) (F0 m 16 ls [.int x11]) := by
      intro σ x7 x8 x9 x10 x11 H locs ls hP hD hS hl h
      rw [f_M_isFarther_16] at h
      refine lv_istore (lv' := [(6, .int x11), (0, .ref (bd 0)), (1, .int x7), (2, .int x8), (3, .int x9), (4, .long x10)]) hx hb d_M_isFarther_16 hl (by decide) rfl (fun ls hl => ?_)
      refine lv_aload_n hx hb d_M_isFarther_18 rfl (lv_at hl 1 rfl) ?_
      refine lv_iload_n hx hb d_M_isFarther_19 rfl (lv_at hl 4 rfl) ?_
      refine lv_iconst (v := 1) hx hb d_M_isFarther_20 (by decide) ?_
      refine lv_isub hx hb d_M_isFarther_21 ?_
      obtain ⟨r12, er12, h⟩ := hx_b1s h
      refine hx_rd (va_runV (As := [.int (x9 - (1 : Int32))]) (rest := []) ⟨hx, hb, hml, hown, hts⟩ (c_M_hasLower l D T3 bd σ (x9 - (1 : Int32)) _ er12) (cwV 1 hts (hx_gV hx_cons k_732 k_734 k_42 k_55 k_735) rfl rfl rfl (by decide +kernel) ⟨Nat.le_of_ble_eq_true rfl, Nat.le_of_ble_eq_true rfl⟩) (hx_preV (va_recv hK hP (ci := 5) (q0 := 0) rfl hm_at_M) hP hK) rfl rfl hl.1 rfl (lv_room (Nat.le_of_ble_eq_true rfl)) d_M_isFarther_22 ⟨Nat.zero_le _, Nat.zero_le _⟩) ?_
      refine lv_istore (lv' := [(7, .int r12), (6, .int x11), (0, .ref (bd 0)), (1, .int x7), (2, .int x8), (3, .int x9), (4, .long x10)]) hx hb d_M_isFarther_25 hl (by decide) rfl (fun ls hl => ?_)
      refine lv_iload_n hx hb d_M_isFarther_27 rfl (lv_at hl 3 rfl) ?_
      by_cases c13 : x7 = 0
      · replace h := hx_ip c13 h
        refine lv_tableIn (tgt := 64) hx hb d_M_isFarther_28 (by rw [c13]; decide) (by rw [c13]; decide) (by rw [c13]; rfl) (by decide) ?_
        refine lv_iload hx hb d_M_isFarther_64 (lv_at hl 1 rfl) ?_
        refine lv_if_eq (tgt := 89) hx hb d_M_isFarther_66 (by decide) (fun c14 => ?_) (fun c14 => ?_)
        · replace h := hx_ip c14 h
          refine lv_iconst (v := 0) hx hb d_M_isFarther_89 (by decide) ?_
          exact W.zret hx hb hr (hx_nb (Or.inl rfl)) (fun t ht hW => hx_endi h ht hW hP hK hD hS) hS.2.2 d_M_isFarther_90
        · replace h := hx_in c14 h
          refine lv_iload hx hb d_M_isFarther_69 (lv_at hl 0 rfl) ?_
          refine lv_if_ne (tgt := 85) hx hb d_M_isFarther_71 (by decide) (fun c15 => ?_) (fun c15 => ?_)
          · replace h := hx_in c15 h
            refine lv_iconst (v := 1) hx hb d_M_isFarther_85 (by decide) ?_
            refine lv_goto (tgt := 90) hx hb d_M_isFarther_86 (by decide) ?_
            exact W.zret hx hb hr (hx_nb (Or.inr rfl)) (fun t ht hW => hx_endi h ht hW hP hK hD hS) hS.2.2 d_M_isFarther_90
          · replace h := hx_ip c15 h
            refine lv_lload hx hb d_M_isFarther_74 (lv_at hl 6 rfl) ?_
            refine lv_ldc2 (v := 2) hx hb hown (hts _ (hx_cons _ k_631)) d_M_isFarther_76 ?_
            refine lv_lrem hx hb d_M_isFarther_79 (by decide) ?_
            refine lv_lconst (v := 1) hx hb d_M_isFarther_80 rfl ?_
            refine W.lcmp hx hb d_M_isFarther_81 ?_
            refine lv_if_ne (tgt := 89) hx hb d_M_isFarther_82 (by decide) (fun c16 => ?_) (fun c16 => ?_)
            · replace h := hx_in c16 h
              refine lv_iconst (v := 0) hx hb d_M_isFarther_89 (by decide) ?_
              exact W.zret hx hb hr (hx_nb (Or.inl rfl)) (fun t ht hW => hx_endi h ht hW hP hK hD hS) hS.2.2 d_M_isFarther_90
            · replace h := hx_ip c16 h
              refine lv_iconst (v := 1) hx hb d_M_isFarther_85 (by decide) ?_
              refine lv_goto (tgt := 90) hx hb d_M_isFarther_86 (by decide) ?_
              exact W.zret hx hb hr (hx_nb (Or.inr rfl)) (fun t ht hW => hx_endi h ht hW hP hK hD hS) hS.2.2 d_M_isFarther_90
      · replace h := hx_in c13 h
        by_cases c17 : x7 = 1
        · replace h := hx_ip c17 h
          refine lv_tableIn (tgt := 91) hx hb d_M_isFarther_28 (by rw [c17]; decide) (by rw [c17]; decide) (by rw [c17]; rfl) (by decide) ?_
          refine lv_iload hx hb d_M_isFarther_91 (lv_at hl 1 rfl) ?_
          obtain ⟨g18, h⟩ := hx_gt h
          exact W.zret hx hb hr (hx_nb g18) (fun t ht hW => hx_endi h ht hW hP hK hD hS) hS.2.2 d_M_isFarther_93
        · replace h := hx_in c17 h
          by_cases c19 : x7 = 2
          · replace h := hx_ip c19 h
            refine lv_tableIn (tgt := 94) hx hb d_M_isFarther_28 (by rw [c19]; decide) (by rw [c19]; decide) (by rw [c19]; rfl) (by decide) ?_
            refine lv_iconst (v := 0) hx hb d_M_isFarther_94 (by decide) ?_
            exact W.zret hx hb hr (hx_nb (Or.inl rfl)) (fun t ht hW => hx_endi h ht hW hP hK hD hS) hS.2.2 d_M_isFarther_95
          · replace h := hx_in c19 h
            by_cases c20 : x7 = 3
            · replace h := hx_ip c20 h
              refine lv_tableIn (tgt := 96) hx hb d_M_isFarther_28 (by rw [c20]; decide) (by rw [c20]; decide) (by rw [c20]; rfl) (by decide) ?_
              refine lv_iload_n hx hb d_M_isFarther_96 rfl (lv_at hl 4 rfl) ?_
              refine lv_if_ne (tgt := 104) hx hb d_M_isFarther_97 (by decide) (fun c21 => ?_) (fun c21 => ?_)
              · replace h := hx_in c21 h
                refine lv_iconst (v := 0) hx hb d_M_isFarther_104 (by decide) ?_
                exact W.zret hx hb hr (hx_nb (Or.inl rfl)) (fun t ht hW => hx_endi h ht hW hP hK hD hS) hS.2.2 d_M_isFarther_105
              · replace h := hx_ip c21 h
                refine lv_iconst (v := 1) hx hb d_M_isFarther_100 (by decide) ?_
                refine lv_goto (tgt := 105) hx hb d_M_isFarther_101 (by decide) ?_
                exact W.zret hx hb hr (hx_nb (Or.inr rfl)) (fun t ht hW => hx_endi h ht hW hP hK hD hS) hS.2.2 d_M_isFarther_105
            · replace h := hx_in c20 h
              by_cases c22 : x7 = 4
              · replace h := hx_ip c22 h
                refine lv_tableIn (tgt := 106) hx hb d_M_isFarther_28 (by rw [c22]; decide) (by rw [c22]; decide) (by rw [c22]; rfl) (by decide) ?_
                refine lv_iload_n hx hb d_M_isFarther_106 rfl (lv_at hl 4 rfl) ?_
                obtain ⟨g23, h⟩ := hx_gt h
                exact W.zret hx hb hr (hx_nb g23) (fun t ht hW => hx_endi h ht hW hP hK hD hS) hS.2.2 d_M_isFarther_107
              · replace h := hx_in c22 h
                have tc13 := lv_neT (a := 0) c13 (by decide)
                have tc17 := lv_neT (a := 1) c17 (by decide)
                have tc19 := lv_neT (a := 2) c19 (by decide)
                have tc20 := lv_neT (a := 3) c20 (by decide)
                have tc22 := lv_neT (a := 4) c22 (by decide)
                refine lv_tableOut (tgt := 108) hx hb d_M_isFarther_28 (by omega) (by decide) ?_
                refine lv_iconst (v := 0) hx hb d_M_isFarther_108 (by decide) ?_
                refine lv_istore (lv' := [(8, .int (0 : Int32)), (7, .int r12), (6, .int x11), (0, .ref (bd 0)), (1, .int x7), (2, .int x8), (3, .int x9), (4, .long x10)]) hx hb d_M_isFarther_109 hl (by decide) rfl (fun ls hl => ?_)
                refine lv_iload_n hx hb d_M_isFarther_111 rfl (lv_at hl 6 rfl) ?_
                refine lv_iconst (v := 1) hx hb d_M_isFarther_112 (by decide) ?_
                refine lv_isub hx hb d_M_isFarther_113 ?_
                refine lv_topi (fun x24 ex24 => ?_)
                replace h := hx_ns ex24 h
                clear ex24
                refine lv_istore (lv' := [(9, .int x24), (8, .int (0 : Int32)), (7, .int r12), (6, .int x11), (0, .ref (bd 0)), (1, .int x7), (2, .int x8), (3, .int x9), (4, .long x10)]) hx hb d_M_isFarther_114 hl (by decide) rfl (fun ls hl => ?_)
                exact B_116 hx_fuel σ x9 (0 : Int32) x24 _ _ ls hP hD hS (lv_sub hl [4, 7, 1, 0] rfl) h
  refine W.eq (g2 := F0 m 0 ((lg_sl [.ref (bd 0), .int x1, .int x2, .int x3, .long x4] ++ List.replicate (10 - (lg_sl [.ref (bd 0), .int x1, .int x2, .int x3, .long x4]).length) Slot.unset).toArray) []) (by rw [hargs, lg_entry_eq]) ?_
  have hl := lv_entry ([.ref (bd 0), .int x1, .int x2, .int x3, .long x4]) (n := 10) (Nat.le_of_ble_eq_true rfl)
  generalize (lg_sl ([.ref (bd 0), .int x1, .int x2, .int x3, .long x4]) ++ List.replicate (10 - (lg_sl ([.ref (bd 0), .int x1, .int x2, .int x3, .long x4])).length) Slot.unset).toArray = ls at hl ⊢
  have hl : lv_has ls 10 [(0, .ref (bd 0)), (1, .int x1), (2, .int x2), (3, .int x3), (4, .long x4)] := hl
  rw [f_M_isFarther] at h
  refine lv_aload_n hx hb d_M_isFarther_0 rfl (lv_at hl 0 rfl) ?_
  refine lv_iload_n hx hb d_M_isFarther_1 rfl (lv_at hl 3 rfl) ?_
  refine lv_iconst (v := 1) hx hb d_M_isFarther_2 (by decide) ?_
  refine lv_isub hx hb d_M_isFarther_3 ?_
  obtain ⟨r5, er5, h⟩ := hx_b1s h
  refine hx_rd (va_runV (As := [.int (x3 - (1 : Int32))]) (rest := []) ⟨hx, hb, hml, hown, hts⟩ (c_M_bitAt l D T3 bd τ (x3 - (1 : Int32)) _ er5) (cwV 1 hts (hx_gV hx_cons k_720 k_722 k_39 k_55 k_723) rfl rfl rfl (by decide +kernel) ⟨Nat.le_of_ble_eq_true rfl, Nat.le_of_ble_eq_true rfl⟩) (hx_preV (va_recv hK hP (ci := 5) (q0 := 0) rfl hm_at_M) hP hK) rfl rfl hl.1 rfl (lv_room (Nat.le_of_ble_eq_true rfl)) d_M_isFarther_4 ⟨Nat.zero_le _, Nat.zero_le _⟩) ?_
  refine lv_iconst (v := 1) hx hb d_M_isFarther_7 (by decide) ?_
  refine lv_icmp_ne (tgt := 15) hx hb d_M_isFarther_8 (by decide) (fun c6 => ?_) (fun c6 => ?_)
  · replace h := hx_in c6 h
    refine lv_iconst (v := 0) hx hb d_M_isFarther_15 (by decide) ?_
    exact B_16 τ x1 x2 x3 x4 (0 : Int32) _ _ ls hP hD hS (lv_sub hl [0, 1, 2, 3, 4] rfl) h
  · replace h := hx_ip c6 h
    refine lv_iconst (v := 1) hx hb d_M_isFarther_11 (by decide) ?_
    refine lv_goto (tgt := 16) hx hb d_M_isFarther_12 (by decide) ?_
    exact B_16 τ x1 x2 x3 x4 (1 : Int32) _ _ ls hP hD hS (lv_sub hl [0, 1, 2, 3, 4] rfl) h
abbrev m_M_round : Room := { frames := 3, cells := 0, slots := 0, locals := 72 }
set_option maxHeartbeats 4000000 in
set_option maxRecDepth 100000 in
theorem c_M_round (l : Launch) (D : va_G) (T3 : hx_T3) (bd : Nat → Nat) (sz : Nat) (τ : hm_S) (x1 : Int32) (x2 : Int32) (x3 : Int32) (x4 : Int32) (r0 : Int64) (σ0 : hm_S) (h : f_M_round τ x1 x2 x3 x4 = some (r0, σ0)) : hx_Wj l D (hx_ty T3) y_M_round w_M_round m_M_round [.ref (bd 0), .int x1, .int x2, .int x3, .int x4] sz (hm_W T3 bd τ) r0 (hm_W T3 bd σ0) := by
  refine Met.ofW (cc := b_M_round) (maxL := 16) (ret := (some .long)) (by decide) rfl ?_
  intro p e s m args below meth c s₁ B hml hv
  obtain ⟨hargs, hsz, hP, hK, hD0⟩ := hv
  have hx := B.exec
  have hb := B.bytes
  have hr := B.returns
  have hts := atoms_spec (ws := w_M_round) B.pre
  have hown : s.vm.findClass "HalfFloatsModel" = some m.cls := findClass_of_methodNamed B.named
  have hlocks := B.notSynchronized
  subst hsz
  have hD := hD0.self (sz := s.heap.size)
  generalize hAe : va_A (hm_W T3 bd τ) s.heap.size = A at hD ⊢
  have hA : ∀ q : Nat, s.heap.size ≤ q → A q := fun q h => by rw [← hAe]; exact Or.inr h
  have hS : va_S A s.heap s.heap [] := va_S.rf
  have B_253 : ∀ (σ : hm_S) (x51 : Int32) (x52 : Int64) (x53 : Int32) (H : Heap) (locs : List Loc) (ls : Array Slot), va_P D vwCl (hm_W T3 bd σ) H → va_D A (hm_W T3 bd σ) → va_S A s.heap H locs → lv_has ls 16 [(0, .ref (bd 0)), (1, .int x51), (13, .long x52)] → f_M_round_253 σ x51 x52 x53 = some (r0, σ0) → W p l e (headSpec w_M_round m_M_round).room s m args below meth c H locs 0 0 (MQ below (hx_Qj D (hx_ty T3) A r0 (hm_W T3 bd σ0)) args s 0 0 A) (F0 m 253 ls [.int x53]) := by
      intro σ x51 x52 x53 H locs ls hP hD hS hl h
      rw [f_M_round_253] at h
      refine lv_istore (lv' := [(15, .int x53), (0, .ref (bd 0)), (1, .int x51), (13, .long x52)]) hx hb d_M_round_253 hl (by decide) rfl (fun ls hl => ?_)
      refine lv_aload_n hx hb d_M_round_255 rfl (lv_at hl 1 rfl) ?_
      refine va_get (D := D) (ci := 5) (v := .ref (bd 3)) (C := "HalfFloatsModel") (T := T_M) (N := 21) hx hb hts (hx_up in_M) hown hK hP (0) hm_at_M rfl 2 (by decide) (hts _ (hx_cons _ k_558)) (fun _ h9 => h9) rfl d_M_round_256 ?_
      refine lv_iload_n hx hb d_M_round_259 rfl (lv_at hl 2 rfl) ?_
      obtain ⟨g54, h⟩ := hx_gs h
      refine va_iald hx hb hK hP (3) 1 hm_at_fK rfl g54 d_M_round_260 ?_
      refine lv_iconst (v := 2) hx hb d_M_round_261 (by decide) ?_
      refine lv_icmp_ne (tgt := 273) hx hb d_M_round_262 (by decide) (fun c55 => ?_) (fun c55 => ?_)
      · replace h := hx_in c55 h
        refine lv_lload hx hb d_M_round_273 (lv_at hl 3 rfl) ?_
        refine lv_iload hx hb d_M_round_275 (lv_at hl 0 rfl) ?_
        refine lv_if_eq (tgt := 290) hx hb d_M_round_277 (by decide) (fun c56 => ?_) (fun c56 => ?_)
        · replace h := hx_ip c56 h
          refine lv_aload_n hx hb d_M_round_290 rfl (lv_at hl 1 rfl) ?_
          refine lv_iload_n hx hb d_M_round_291 rfl (lv_at hl 2 rfl) ?_
          obtain ⟨r57, er57, h⟩ := hx_b1s h
          refine hx_rd (va_runV (As := [.int x51]) (rest := [.long x52]) ⟨hx, hb, hml, hown, hts⟩ (c_M_limit l D T3 bd σ x51 _ er57) (cwV 1 hts (hx_gV hx_cons k_639 k_641 k_23 k_55 k_642) rfl rfl rfl (by decide +kernel) ⟨Nat.le_of_ble_eq_true rfl, Nat.le_of_ble_eq_true rfl⟩) (hx_preV (va_recv hK hP (ci := 5) (q0 := 0) rfl hm_at_M) hP hK) rfl rfl hl.1 rfl (lv_room (Nat.le_of_ble_eq_true rfl)) d_M_round_292 ⟨Nat.zero_le _, Nat.zero_le _⟩) ?_
          refine lv_lor hx hb d_M_round_295 ?_
          exact W.lret hx hb hr (fun t ht hW => hx_endj h ht hW hP hK hD hS) hS.2.2 d_M_round_296
        · replace h := hx_in c56 h
          refine lv_aload_n hx hb d_M_round_280 rfl (lv_at hl 1 rfl) ?_
          refine lv_iload_n hx hb d_M_round_281 rfl (lv_at hl 2 rfl) ?_
          obtain ⟨r58, er58, h⟩ := hx_b1s h
          refine hx_rd (va_runV (As := [.int x51]) (rest := [.long x52]) ⟨hx, hb, hml, hown, hts⟩ (c_M_limit l D T3 bd σ x51 _ er58) (cwV 1 hts (hx_gV hx_cons k_639 k_641 k_23 k_55 k_642) rfl rfl rfl (by decide +kernel) ⟨Nat.le_of_ble_eq_true rfl, Nat.le_of_ble_eq_true rfl⟩) (hx_preV (va_recv hK hP (ci := 5) (q0 := 0) rfl hm_at_M) hP hK) rfl rfl hl.1 rfl (lv_room (Nat.le_of_ble_eq_true rfl)) d_M_round_282 ⟨Nat.zero_le _, Nat.zero_le _⟩) ?_
          refine lv_lconst (v := 1) hx hb d_M_round_285 rfl ?_
          refine lv_lsub hx hb d_M_round_286 ?_
          refine lv_goto (tgt := 295) hx hb d_M_round_287 (by decide) ?_
          refine lv_lor hx hb d_M_round_295 ?_
          exact W.lret hx hb hr (fun t ht hW => hx_endj h ht hW hP hK hD hS) hS.2.2 d_M_round_296
      · replace h := hx_ip c55 h
        refine lv_aload_n hx hb d_M_round_265 rfl (lv_at hl 1 rfl) ?_
        refine lv_iload_n hx hb d_M_round_266 rfl (lv_at hl 2 rfl) ?_
        obtain ⟨r59, er59, h⟩ := hx_b1s h
        refine hx_rd (va_runV (As := [.int x51]) (rest := []) ⟨hx, hb, hml, hown, hts⟩ (c_M_nan l D T3 bd σ x51 _ er59) (cwV 1 hts (hx_gV hx_cons k_647 k_649 k_25 k_55 k_650) rfl rfl rfl (by decide +kernel) ⟨Nat.le_of_ble_eq_true rfl, Nat.le_of_ble_eq_true rfl⟩) (hx_preV (va_recv hK hP (ci := 5) (q0 := 0) rfl hm_at_M) hP hK) rfl rfl hl.1 rfl (lv_room (Nat.le_of_ble_eq_true rfl)) d_M_round_267 ⟨Nat.zero_le _, Nat.zero_le _⟩) ?_
        refine lv_goto (tgt := 296) hx hb d_M_round_270 (by decide) ?_
        exact W.lret hx hb hr (fun t ht hW => hx_endj h ht hW hP hK hD hS) hS.2.2 d_M_round_296
  have B_248 : ∀ (σ : hm_S) (x49 : Int32) (x50 : Int64) (H : Heap) (locs : List Loc) (ls : Array Slot), va_P D vwCl (hm_W T3 bd σ) H → va_D A (hm_W T3 bd σ) → va_S A s.heap H locs → lv_has ls 16 [(0, .ref (bd 0)), (1, .int x49), (13, .long x50)] → f_M_round_248 σ x49 x50 = some (r0, σ0) → W p l e (headSpec w_M_round m_M_round).room s m args below meth c H locs 0 0 (MQ below (hx_Qj D (hx_ty T3) A r0 (hm_W T3 bd σ0)) args s 0 0 A) (F0 m 248 ls []) := by
      intro σ x49 x50 H locs ls hP hD hS hl h
      rw [f_M_round_248] at h
      refine lv_iconst (v := 1) hx hb d_M_round_248 (by decide) ?_
      refine lv_goto (tgt := 253) hx hb d_M_round_249 (by decide) ?_
      exact B_253 σ x49 x50 (1 : Int32) _ _ ls hP hD hS (lv_sub hl [0, 1, 2] rfl) h
  have B_252 : ∀ (σ : hm_S) (x67 : Int32) (x68 : Int64) (H : Heap) (locs : List Loc) (ls : Array Slot), va_P D vwCl (hm_W T3 bd σ) H → va_D A (hm_W T3 bd σ) → va_S A s.heap H locs → lv_has ls 16 [(0, .ref (bd 0)), (1, .int x67), (13, .long x68)] → f_M_round_252 σ x67 x68 = some (r0, σ0) → W p l e (headSpec w_M_round m_M_round).room s m args below meth c H locs 0 0 (MQ below (hx_Qj D (hx_ty T3) A r0 (hm_W T3 bd σ0)) args s 0 0 A) (F0 m 252 ls []) := by
      intro σ x67 x68 H locs ls hP hD hS hl h
      rw [f_M_round_252] at h
      refine lv_iconst (v := 0) hx hb d_M_round_252 (by decide) ?_
      exact B_253 σ x67 x68 (0 : Int32) _ _ ls hP hD hS (lv_sub hl [0, 1, 2] rfl) h
  have B_239 : ∀ (σ : hm_S) (x62 : Int32) (x63 : Int32) (x64 : Int32) (x65 : Int64) (H : Heap) (locs : List Loc) (ls : Array Slot), va_P D vwCl (hm_W T3 bd σ) H → va_D A (hm_W T3 bd σ) → va_S A s.heap H locs → lv_has ls 16 [(0, .ref (bd 0)), (1, .int x62), (2, .int x63), (3, .int x64), (13, .long x65)] → f_M_round_239 σ x62 x63 x64 x65 = some (r0, σ0) → W p l e (headSpec w_M_round m_M_round).room s m args below meth c H locs 0 0 (MQ below (hx_Qj D (hx_ty T3) A r0 (hm_W T3 bd σ0)) args s 0 0 A) (F0 m 239 ls []) := by
      intro σ x62 x63 x64 x65 H locs ls hP hD hS hl h
      rw [f_M_round_239] at h
      refine lv_iload_n hx hb d_M_round_239 rfl (lv_at hl 2 rfl) ?_
      refine lv_iconst (v := 4) hx hb d_M_round_240 (by decide) ?_
      refine lv_icmp_ne (tgt := 252) hx hb d_M_round_241 (by decide) (fun c66 => ?_) (fun c66 => ?_)
      · replace h := hx_in c66 h
        exact B_252 σ x62 x65 _ _ ls hP hD hS (lv_sub hl [0, 1, 4] rfl) h
      · replace h := hx_ip c66 h
        refine lv_iload_n hx hb d_M_round_244 rfl (lv_at hl 3 rfl) ?_
        refine lv_if_ne (tgt := 252) hx hb d_M_round_245 (by decide) (fun c69 => ?_) (fun c69 => ?_)
        · replace h := hx_in c69 h
          exact B_252 σ x62 x65 _ _ ls hP hD hS (lv_sub hl [0, 1, 4] rfl) h
        · replace h := hx_ip c69 h
          exact B_248 σ x62 x65 _ _ ls hP hD hS (lv_sub hl [0, 1, 4] rfl) h
  have B_191 : ∀ (σ : hm_S) (x38 : Int32) (x39 : Int32) (x40 : Int32) (x41 : Int64) (x42 : Int64) (H : Heap) (locs : List Loc) (ls : Array Slot), va_P D vwCl (hm_W T3 bd σ) H → va_D A (hm_W T3 bd σ) → va_S A s.heap H locs → lv_has ls 16 [(0, .ref (bd 0)), (1, .int x38), (2, .int x39), (3, .int x40), (11, .long x41)] → f_M_round_191 σ x38 x39 x40 x41 x42 = some (r0, σ0) → W p l e (headSpec w_M_round m_M_round).room s m args below meth c H locs 0 0 (MQ below (hx_Qj D (hx_ty T3) A r0 (hm_W T3 bd σ0)) args s 0 0 A) (F0 m 191 ls [.long x42]) := by
      intro σ x38 x39 x40 x41 x42 H locs ls hP hD hS hl h
      rw [f_M_round_191] at h
      refine lv_lstore (lv' := [(13, .long x42), (0, .ref (bd 0)), (1, .int x38), (2, .int x39), (3, .int x40), (11, .long x41)]) hx hb d_M_round_191 hl (by decide) rfl (fun ls hl => ?_)
      refine lv_lload hx hb d_M_round_193 (lv_at hl 5 rfl) ?_
      refine lv_aload_n hx hb d_M_round_195 rfl (lv_at hl 1 rfl) ?_
      refine lv_iload_n hx hb d_M_round_196 rfl (lv_at hl 2 rfl) ?_
      obtain ⟨r43, er43, h⟩ := hx_b1s h
      refine hx_rd (va_runV (As := [.int x38]) (rest := [.long x41]) ⟨hx, hb, hml, hown, hts⟩ (c_M_limit l D T3 bd σ x38 _ er43) (cwV 1 hts (hx_gV hx_cons k_639 k_641 k_23 k_55 k_642) rfl rfl rfl (by decide +kernel) ⟨Nat.le_of_ble_eq_true rfl, Nat.le_of_ble_eq_true rfl⟩) (hx_preV (va_recv hK hP (ci := 5) (q0 := 0) rfl hm_at_M) hP hK) rfl rfl hl.1 rfl (lv_room (Nat.le_of_ble_eq_true rfl)) d_M_round_197 ⟨Nat.zero_le _, Nat.zero_le _⟩) ?_
      refine W.lcmp hx hb d_M_round_200 ?_
      refine lv_if_lt (tgt := 297) hx hb d_M_round_201 (by decide) (fun c44 => ?_) (fun c44 => ?_)
      · replace h := hx_ip c44 h
        refine lv_lload hx hb d_M_round_297 (lv_at hl 0 rfl) ?_
        refine lv_lload hx hb d_M_round_299 (lv_at hl 5 rfl) ?_
        refine lv_lor hx hb d_M_round_301 ?_
        exact W.lret hx hb hr (fun t ht hW => hx_endj h ht hW hP hK hD hS) hS.2.2 d_M_round_302
      · replace h := hx_in c44 h
        refine lv_aload_n hx hb d_M_round_204 rfl (lv_at hl 1 rfl) ?_
        refine lv_dup hx hb d_M_round_205 rfl ?_
        refine va_get (D := D) (ci := 5) (v := .int (hm_flags σ)) (C := "HalfFloatsModel") (T := T_M) (N := 21) hx hb hts (hx_up in_M) hown hK hP (0) hm_at_M rfl 6 (by decide) (hts _ (hx_cons _ k_562)) (fun _ h9 => h9) rfl d_M_round_206 ?_
        refine lv_bipush (v := 10) hx hb d_M_round_209 (by decide) ?_
        refine lv_ior hx hb d_M_round_211 ?_
        refine lv_topi (fun x45 ex45 => ?_)
        replace h := hx_ns ex45 h
        clear ex45
        refine va_put (D := D) (ci := 5) (v := .int x45) (ty := .int) (C := "HalfFloatsModel") (T := T_M) (N := 21) hx hb hts (hx_up in_M) ty_M tyok_M nm_M hown hK hP hD hS (0) hm_at_M rfl 6 (by decide) (hts _ (hx_cons _ k_562)) (fun _ h9 => h9) rfl (by decide +kernel) rfl rfl (Nat.le_of_ble_eq_true rfl) d_M_round_212 (fun H locs hP hD hS => ?_)
        obtain ⟨σ46, eσ46⟩ : ∃ y : hm_S, y = (hm_flags_s σ x45) := ⟨_, rfl⟩
        replace hP : va_P D vwCl (hm_W T3 bd σ46) H := by rw [eσ46]; exact hP
        replace hD : va_D A (hm_W T3 bd σ46) := by rw [eσ46]; exact hD
        replace h := hx_ns eσ46 h
        clear eσ46
        refine lv_aload_n hx hb d_M_round_215 rfl (lv_at hl 1 rfl) ?_
        refine va_get (D := D) (ci := 5) (v := .ref (bd 3)) (C := "HalfFloatsModel") (T := T_M) (N := 21) hx hb hts (hx_up in_M) hown hK hP (0) hm_at_M rfl 2 (by decide) (hts _ (hx_cons _ k_558)) (fun _ h9 => h9) rfl d_M_round_216 ?_
        refine lv_iload_n hx hb d_M_round_219 rfl (lv_at hl 2 rfl) ?_
        obtain ⟨g47, h⟩ := hx_gs h
        refine va_iald hx hb hK hP (3) 1 hm_at_fK rfl g47 d_M_round_220 ?_
        refine lv_iconst (v := 1) hx hb d_M_round_221 (by decide) ?_
        refine lv_icmp_eq (tgt := 248) hx hb d_M_round_222 (by decide) (fun c48 => ?_) (fun c48 => ?_)
        · replace h := hx_ip c48 h
          exact B_248 σ46 x38 x42 _ _ ls hP hD hS (lv_sub hl [1, 2, 0] rfl) h
        · replace h := hx_in c48 h
          refine lv_iload_n hx hb d_M_round_225 rfl (lv_at hl 3 rfl) ?_
          refine lv_iconst (v := 2) hx hb d_M_round_226 (by decide) ?_
          refine lv_icmp_eq (tgt := 248) hx hb d_M_round_227 (by decide) (fun c60 => ?_) (fun c60 => ?_)
          · replace h := hx_ip c60 h
            exact B_248 σ46 x38 x42 _ _ ls hP hD hS (lv_sub hl [1, 2, 0] rfl) h
          · replace h := hx_in c60 h
            refine lv_iload_n hx hb d_M_round_230 rfl (lv_at hl 3 rfl) ?_
            refine lv_iconst (v := 3) hx hb d_M_round_231 (by decide) ?_
            refine lv_icmp_ne (tgt := 239) hx hb d_M_round_232 (by decide) (fun c61 => ?_) (fun c61 => ?_)
            · replace h := hx_in c61 h
              exact B_239 σ46 x38 x39 x40 x42 _ _ ls hP hD hS (lv_sub hl [1, 2, 3, 4, 0] rfl) h
            · replace h := hx_ip c61 h
              refine lv_iload_n hx hb d_M_round_235 rfl (lv_at hl 4 rfl) ?_
              refine lv_if_ne (tgt := 248) hx hb d_M_round_236 (by decide) (fun c70 => ?_) (fun c70 => ?_)
              · replace h := hx_in c70 h
                exact B_248 σ46 x38 x42 _ _ ls hP hD hS (lv_sub hl [1, 2, 0] rfl) h
              · replace h := hx_ip c70 h
                exact B_239 σ46 x38 x39 x40 x42 _ _ ls hP hD hS (lv_sub hl [1, 2, 3, 4, 0] rfl) h
  have B_148 : ∀ (σ : hm_S) (x28 : Int32) (x29 : Int32) (x30 : Int32) (x31 : Int32) (x32 : Int64) (H : Heap) (locs : List Loc) (ls : Array Slot), va_P D vwCl (hm_W T3 bd σ) H → va_D A (hm_W T3 bd σ) → va_S A s.heap H locs → lv_has ls 16 [(0, .ref (bd 0)), (1, .int x28), (2, .int x29), (3, .int x30), (6, .int x31), (8, .long x32)] → f_M_round_148 σ x28 x29 x30 x31 x32 = some (r0, σ0) → W p l e (headSpec w_M_round m_M_round).room s m args below meth c H locs 0 0 (MQ below (hx_Qj D (hx_ty T3) A r0 (hm_W T3 bd σ0)) args s 0 0 A) (F0 m 148 ls []) := by
      intro σ x28 x29 x30 x31 x32 H locs ls hP hD hS hl h
      rw [f_M_round_148] at h
      refine lv_iload hx hb d_M_round_148 (lv_at hl 4 rfl) ?_
      refine lv_aload_n hx hb d_M_round_150 rfl (lv_at hl 0 rfl) ?_
      refine lv_iload_n hx hb d_M_round_151 rfl (lv_at hl 1 rfl) ?_
      obtain ⟨r33, er33, h⟩ := hx_b1s h
      refine hx_rd (va_runV (As := [.int x28]) (rest := [.int x31]) ⟨hx, hb, hml, hown, hts⟩ (c_M_bias l D T3 bd σ x28 _ er33) (cwV 1 hts (hx_gV hx_cons k_682 k_684 k_32 k_55 k_685) rfl rfl rfl (by decide +kernel) ⟨Nat.le_of_ble_eq_true rfl, Nat.le_of_ble_eq_true rfl⟩) (hx_preV (va_recv hK hP (ci := 5) (q0 := 0) rfl hm_at_M) hP hK) rfl rfl hl.1 rfl (lv_room (Nat.le_of_ble_eq_true rfl)) d_M_round_152 ⟨Nat.zero_le _, Nat.zero_le _⟩) ?_
      refine lv_iadd hx hb d_M_round_155 ?_
      refine lv_i2l hx hb d_M_round_156 rfl ?_
      refine lv_aload_n hx hb d_M_round_157 rfl (lv_at hl 0 rfl) ?_
      refine va_get (D := D) (ci := 5) (v := .ref (bd 2)) (C := "HalfFloatsModel") (T := T_M) (N := 21) hx hb hts (hx_up in_M) hown hK hP (0) hm_at_M rfl 1 (by decide) (hts _ (hx_cons _ k_557)) (fun _ h9 => h9) rfl d_M_round_158 ?_
      refine lv_iload_n hx hb d_M_round_161 rfl (lv_at hl 1 rfl) ?_
      obtain ⟨g34, h⟩ := hx_gs h
      refine va_iald hx hb hK hP (2) 1 hm_at_fF rfl g34 d_M_round_162 ?_
      refine lv_lshl hx hb d_M_round_163 rfl ?_
      refine lv_lload hx hb d_M_round_164 (lv_at hl 5 rfl) ?_
      refine lv_ladd hx hb d_M_round_166 ?_
      refine lv_lconst (v := 1) hx hb d_M_round_167 rfl ?_
      refine lv_aload_n hx hb d_M_round_168 rfl (lv_at hl 0 rfl) ?_
      refine va_get (D := D) (ci := 5) (v := .ref (bd 2)) (C := "HalfFloatsModel") (T := T_M) (N := 21) hx hb hts (hx_up in_M) hown hK hP (0) hm_at_M rfl 1 (by decide) (hts _ (hx_cons _ k_557)) (fun _ h9 => h9) rfl d_M_round_169 ?_
      refine lv_iload_n hx hb d_M_round_172 rfl (lv_at hl 1 rfl) ?_
      obtain ⟨g35, h⟩ := hx_gs h
      refine va_iald hx hb hK hP (2) 1 hm_at_fF rfl g35 d_M_round_173 ?_
      refine lv_lshl hx hb d_M_round_174 rfl ?_
      refine lv_lsub hx hb d_M_round_175 ?_
      refine lv_topl (fun x36 ex36 => ?_)
      replace h := hx_ns ex36 h
      clear ex36
      refine lv_lstore (lv' := [(11, .long x36), (0, .ref (bd 0)), (1, .int x28), (2, .int x29), (3, .int x30), (6, .int x31), (8, .long x32)]) hx hb d_M_round_176 hl (by decide) rfl (fun ls hl => ?_)
      refine lv_iload_n hx hb d_M_round_178 rfl (lv_at hl 4 rfl) ?_
      refine lv_if_eq (tgt := 190) hx hb d_M_round_179 (by decide) (fun c37 => ?_) (fun c37 => ?_)
      · replace h := hx_ip c37 h
        refine lv_lconst (v := 0) hx hb d_M_round_190 rfl ?_
        exact B_191 σ x28 x29 x30 x36 (0 : Int64) _ _ ls hP hD hS (lv_sub hl [1, 2, 3, 4, 0] rfl) h
      · replace h := hx_in c37 h
        refine lv_aload_n hx hb d_M_round_182 rfl (lv_at hl 1 rfl) ?_
        refine lv_iload_n hx hb d_M_round_183 rfl (lv_at hl 2 rfl) ?_
        obtain ⟨r71, er71, h⟩ := hx_b1s h
        refine hx_rd (va_runV (As := [.int x28]) (rest := []) ⟨hx, hb, hml, hown, hts⟩ (c_M_signBit l D T3 bd σ x28 _ er71) (cwV 1 hts (hx_gV hx_cons k_643 k_645 k_24 k_55 k_646) rfl rfl rfl (by decide +kernel) ⟨Nat.le_of_ble_eq_true rfl, Nat.le_of_ble_eq_true rfl⟩) (hx_preV (va_recv hK hP (ci := 5) (q0 := 0) rfl hm_at_M) hP hK) rfl rfl hl.1 rfl (lv_room (Nat.le_of_ble_eq_true rfl)) d_M_round_184 ⟨Nat.zero_le _, Nat.zero_le _⟩) ?_
        refine lv_goto (tgt := 191) hx hb d_M_round_187 (by decide) ?_
        exact B_191 σ x28 x29 x30 x36 r71 _ _ ls hP hD hS (lv_sub hl [1, 2, 3, 4, 0] rfl) h
  have B_145 : ∀ (σ : hm_S) (x87 : Int32) (x88 : Int32) (x89 : Int32) (x90 : Int32) (x91 : Int64) (x92 : Int64) (H : Heap) (locs : List Loc) (ls : Array Slot), va_P D vwCl (hm_W T3 bd σ) H → va_D A (hm_W T3 bd σ) → va_S A s.heap H locs → lv_has ls 16 [(0, .ref (bd 0)), (1, .int x87), (2, .int x88), (3, .int x89), (6, .int x90)] → f_M_round_145 σ x87 x88 x89 x90 x91 x92 = some (r0, σ0) → W p l e (headSpec w_M_round m_M_round).room s m args below meth c H locs 0 0 (MQ below (hx_Qj D (hx_ty T3) A r0 (hm_W T3 bd σ0)) args s 0 0 A) (F0 m 145 ls [.long x92, .long x91]) := by
      intro σ x87 x88 x89 x90 x91 x92 H locs ls hP hD hS hl h
      rw [f_M_round_145] at h
      refine lv_ladd hx hb d_M_round_145 ?_
      refine lv_topl (fun x93 ex93 => ?_)
      replace h := hx_ns ex93 h
      clear ex93
      refine lv_lstore (lv' := [(8, .long x93), (0, .ref (bd 0)), (1, .int x87), (2, .int x88), (3, .int x89), (6, .int x90)]) hx hb d_M_round_146 hl (by decide) rfl (fun ls hl => ?_)
      exact B_148 σ x87 x88 x89 x90 x93 _ _ ls hP hD hS (lv_sub hl [1, 2, 3, 4, 5, 0] rfl) h
  have B_120 : ∀ (σ : hm_S) (x73 : Int32) (x74 : Int32) (x75 : Int32) (x76 : Int32) (x77 : Int32) (x78 : Int64) (x79 : Int32) (x80 : Int32) (x81 : Int32) (H : Heap) (locs : List Loc) (ls : Array Slot), va_P D vwCl (hm_W T3 bd σ) H → va_D A (hm_W T3 bd σ) → va_S A s.heap H locs → lv_has ls 16 [(0, .ref (bd 0)), (1, .int x73), (2, .int x74), (3, .int x75), (6, .int x76), (7, .int x77), (8, .long x78)] → f_M_round_120 σ x73 x74 x75 x76 x77 x78 x79 x80 x81 = some (r0, σ0) → W p l e (headSpec w_M_round m_M_round).room s m args below meth c H locs 0 0 (MQ below (hx_Qj D (hx_ty T3) A r0 (hm_W T3 bd σ0)) args s 0 0 A) (F0 m 120 ls [.int x81, .int x80, .int x79, .ref (bd 0)]) := by
      intro σ x73 x74 x75 x76 x77 x78 x79 x80 x81 H locs ls hP hD hS hl h
      rw [f_M_round_120] at h
      refine lv_ior hx hb d_M_round_120 ?_
      refine lv_ior hx hb d_M_round_121 ?_
      refine lv_topi (fun x82 ex82 => ?_)
      replace h := hx_ns ex82 h
      clear ex82
      refine va_put (D := D) (ci := 5) (v := .int x82) (ty := .int) (C := "HalfFloatsModel") (T := T_M) (N := 21) hx hb hts (hx_up in_M) ty_M tyok_M nm_M hown hK hP hD hS (0) hm_at_M rfl 6 (by decide) (hts _ (hx_cons _ k_562)) (fun _ h9 => h9) rfl (by decide +kernel) rfl rfl (Nat.le_of_ble_eq_true rfl) d_M_round_122 (fun H locs hP hD hS => ?_)
      obtain ⟨σ83, eσ83⟩ : ∃ y : hm_S, y = (hm_flags_s σ x82) := ⟨_, rfl⟩
      replace hP : va_P D vwCl (hm_W T3 bd σ83) H := by rw [eσ83]; exact hP
      replace hD : va_D A (hm_W T3 bd σ83) := by rw [eσ83]; exact hD
      replace h := hx_ns eσ83 h
      clear eσ83
      refine lv_lload hx hb d_M_round_125 (lv_at hl 6 rfl) ?_
      refine lv_aload_n hx hb d_M_round_127 rfl (lv_at hl 0 rfl) ?_
      refine lv_iload_n hx hb d_M_round_128 rfl (lv_at hl 2 rfl) ?_
      refine lv_iload_n hx hb d_M_round_129 rfl (lv_at hl 3 rfl) ?_
      refine lv_iload hx hb d_M_round_130 (lv_at hl 5 rfl) ?_
      refine lv_lload hx hb d_M_round_132 (lv_at hl 6 rfl) ?_
      obtain ⟨r85, q84, eq84, h⟩ := hx_b2s h
      refine hx_wi (va_runV (As := [.int x74, .int x75, .int x77, .long x78]) (rest := [.long x78]) ⟨hx, hb, hml, hown, hts⟩ (c_M_isFarther l D T3 bd _ σ83 x74 x75 x77 x78 _ _ eq84) (cwV 4 hts (hx_gV hx_cons k_736 k_738 k_43 k_55 k_739) rfl rfl rfl (by decide +kernel) ⟨Nat.le_of_ble_eq_true rfl, Nat.le_of_ble_eq_true rfl⟩) (hx_preVw (va_recv hK hP (ci := 5) (q0 := 0) rfl hm_at_M) hP hK hD) rfl rfl hl.1 rfl (lv_room (Nat.le_of_ble_eq_true rfl)) d_M_round_134 ⟨Nat.zero_le _, Nat.zero_le _⟩) hD hS hA (fun H locs hP hD hS => ?_)
      refine lv_if_eq (tgt := 144) hx hb d_M_round_137 (by decide) (fun c86 => ?_) (fun c86 => ?_)
      · replace h := hx_ip c86 h
        refine lv_lconst (v := 0) hx hb d_M_round_144 rfl ?_
        exact B_145 q84 x73 x74 x75 x76 x78 (0 : Int64) _ _ ls hP hD hS (lv_sub hl [0, 1, 2, 3, 4] rfl) h
      · replace h := hx_in c86 h
        refine lv_lconst (v := 1) hx hb d_M_round_140 rfl ?_
        refine lv_goto (tgt := 145) hx hb d_M_round_141 (by decide) ?_
        exact B_145 q84 x73 x74 x75 x76 x78 (1 : Int64) _ _ ls hP hD hS (lv_sub hl [0, 1, 2, 3, 4] rfl) h
  have B_55 : ∀ (n : Nat), ∀ (σ : hm_S) (x16 : Int32) (x17 : Int32) (x18 : Int32) (x19 : Int32) (x20 : Int32) (x21 : Int32) (x22 : Int32) (x23 : Int64) (x24 : Int32) (H : Heap) (locs : List Loc) (ls : Array Slot), va_P D vwCl (hm_W T3 bd σ) H → va_D A (hm_W T3 bd σ) → va_S A s.heap H locs → lv_has ls 16 [(0, .ref (bd 0)), (1, .int x16), (2, .int x17), (3, .int x18), (4, .int x19), (5, .int x20), (6, .int x21), (7, .int x22), (8, .long x23), (10, .int x24)] → f_M_round_55 n σ x16 x17 x18 x19 x20 x21 x22 x23 x24 = some (r0, σ0) → W p l e (headSpec w_M_round m_M_round).room s m args below meth c H locs 0 0 (MQ below (hx_Qj D (hx_ty T3) A r0 (hm_W T3 bd σ0)) args s 0 0 A) (F0 m 55 ls []) := by
    intro n
    induction n with
    | zero =>
      intro σ x16 x17 x18 x19 x20 x21 x22 x23 x24 H locs ls hP hD hS hl h
      rw [f_M_round_55] at h
      cases h
    | succ n ih =>
        intro σ x16 x17 x18 x19 x20 x21 x22 x23 x24 H locs ls hP hD hS hl h
        rw [f_M_round_55] at h
        refine lv_iload hx hb d_M_round_55 (lv_at hl 9 rfl) ?_
        refine lv_iload hx hb d_M_round_57 (lv_at hl 7 rfl) ?_
        refine lv_icmp_lt (tgt := 84) hx hb d_M_round_59 (by decide) (fun c25 => ?_) (fun c25 => ?_)
        · replace h := hx_ip c25 h
          refine lv_aload_n hx hb d_M_round_84 rfl (lv_at hl 0 rfl) ?_
          refine lv_iload hx hb d_M_round_85 (lv_at hl 7 rfl) ?_
          obtain ⟨r26, er26, h⟩ := hx_b1s h
          refine hx_rd (va_runV (As := [.int x22]) (rest := []) ⟨hx, hb, hml, hown, hts⟩ (c_M_hasLower l D T3 bd σ x22 _ er26) (cwV 1 hts (hx_gV hx_cons k_732 k_734 k_42 k_55 k_735) rfl rfl rfl (by decide +kernel) ⟨Nat.le_of_ble_eq_true rfl, Nat.le_of_ble_eq_true rfl⟩) (hx_preV (va_recv hK hP (ci := 5) (q0 := 0) rfl hm_at_M) hP hK) rfl rfl hl.1 rfl (lv_room (Nat.le_of_ble_eq_true rfl)) d_M_round_87 ⟨Nat.zero_le _, Nat.zero_le _⟩) ?_
          refine lv_istore (lv' := [(10, .int r26), (0, .ref (bd 0)), (1, .int x16), (2, .int x17), (3, .int x18), (4, .int x19), (5, .int x20), (6, .int x21), (7, .int x22), (8, .long x23)]) hx hb d_M_round_90 hl (by decide) rfl (fun ls hl => ?_)
          refine lv_iload hx hb d_M_round_92 (lv_at hl 0 rfl) ?_
          refine lv_if_eq (tgt := 148) hx hb d_M_round_94 (by decide) (fun c27 => ?_) (fun c27 => ?_)
          · replace h := hx_ip c27 h
            exact B_148 σ x16 x17 x18 x21 x23 _ _ ls hP hD hS (lv_sub hl [1, 2, 3, 4, 7, 9] rfl) h
          · replace h := hx_in c27 h
            refine lv_aload_n hx hb d_M_round_97 rfl (lv_at hl 1 rfl) ?_
            refine lv_dup hx hb d_M_round_98 rfl ?_
            refine va_get (D := D) (ci := 5) (v := .int (hm_flags σ)) (C := "HalfFloatsModel") (T := T_M) (N := 21) hx hb hts (hx_up in_M) hown hK hP (0) hm_at_M rfl 6 (by decide) (hts _ (hx_cons _ k_562)) (fun _ h9 => h9) rfl d_M_round_99 ?_
            refine lv_bipush (v := 8) hx hb d_M_round_102 (by decide) ?_
            refine lv_iload hx hb d_M_round_104 (lv_at hl 5 rfl) ?_
            refine lv_sipush (v := -352) hx hb d_M_round_106 (by decide) ?_
            refine lv_iadd hx hb d_M_round_109 ?_
            refine lv_iload hx hb d_M_round_110 (lv_at hl 6 rfl) ?_
            refine lv_icmp_ge (tgt := 119) hx hb d_M_round_112 (by decide) (fun c72 => ?_) (fun c72 => ?_)
            · replace h := hx_ip c72 h
              refine lv_iconst (v := 0) hx hb d_M_round_119 (by decide) ?_
              exact B_120 σ x16 x17 x18 x21 x22 x23 (hm_flags σ) (8 : Int32) (0 : Int32) _ _ ls hP hD hS (lv_sub hl [1, 2, 3, 4, 7, 8, 9] rfl) h
            · replace h := hx_in c72 h
              refine lv_iconst (v := 4) hx hb d_M_round_115 (by decide) ?_
              refine lv_goto (tgt := 120) hx hb d_M_round_116 (by decide) ?_
              exact B_120 σ x16 x17 x18 x21 x22 x23 (hm_flags σ) (8 : Int32) (4 : Int32) _ _ ls hP hD hS (lv_sub hl [1, 2, 3, 4, 7, 8, 9] rfl) h
        · replace h := hx_in c25 h
          refine lv_ldc2 (v := 2) hx hb hown (hts _ (hx_cons _ k_631)) d_M_round_62 ?_
          refine lv_lload hx hb d_M_round_65 (lv_at hl 8 rfl) ?_
          refine lv_lmul hx hb d_M_round_67 ?_
          refine lv_aload_n hx hb d_M_round_68 rfl (lv_at hl 0 rfl) ?_
          refine lv_iload hx hb d_M_round_69 (lv_at hl 9 rfl) ?_
          obtain ⟨r94, er94, h⟩ := hx_b1s h
          refine hx_rd (va_runV (As := [.int x24]) (rest := [.long ((2 : Int64) * x23)]) ⟨hx, hb, hml, hown, hts⟩ (c_M_bitAt l D T3 bd σ x24 _ er94) (cwV 1 hts (hx_gV hx_cons k_720 k_722 k_39 k_55 k_723) rfl rfl rfl (by decide +kernel) ⟨Nat.le_of_ble_eq_true rfl, Nat.le_of_ble_eq_true rfl⟩) (hx_preV (va_recv hK hP (ci := 5) (q0 := 0) rfl hm_at_M) hP hK) rfl rfl hl.1 rfl (lv_room (Nat.le_of_ble_eq_true rfl)) d_M_round_71 ⟨Nat.zero_le _, Nat.zero_le _⟩) ?_
          refine lv_i2l hx hb d_M_round_74 rfl ?_
          refine lv_ladd hx hb d_M_round_75 ?_
          refine lv_topl (fun x95 ex95 => ?_)
          replace h := hx_ns ex95 h
          clear ex95
          refine lv_lstore (lv' := [(8, .long x95), (0, .ref (bd 0)), (1, .int x16), (2, .int x17), (3, .int x18), (4, .int x19), (5, .int x20), (6, .int x21), (7, .int x22), (10, .int x24)]) hx hb d_M_round_76 hl (by decide) rfl (fun ls hl => ?_)
          obtain ⟨x96, ex96⟩ : ∃ y : Int32, y = x24 + (-1) := ⟨_, rfl⟩
          replace h := hx_ns ex96 h
          refine lv_iinc (v := x96) (lv' := [(10, .int x96), (8, .long x95), (0, .ref (bd 0)), (1, .int x16), (2, .int x17), (3, .int x18), (4, .int x19), (5, .int x20), (6, .int x21), (7, .int x22)]) hx hb d_M_round_78 hl (k := 9) rfl (by rw [ex96]; rfl) (by decide) rfl (fun ls hl => ?_)
          clear ex96
          refine lv_goto (tgt := 55) hx hb d_M_round_81 (by decide) ?_
          exact ih σ x16 x17 x18 x19 x20 x21 x22 x95 x96 _ _ ls hP hD hS (lv_sub hl [2, 3, 4, 5, 6, 7, 8, 9, 1, 0] rfl) h
  have B_31 : ∀ (σ : hm_S) (x8 : Int32) (x9 : Int32) (x10 : Int32) (x11 : Int32) (x12 : Int32) (x13 : Int32) (H : Heap) (locs : List Loc) (ls : Array Slot), va_P D vwCl (hm_W T3 bd σ) H → va_D A (hm_W T3 bd σ) → va_S A s.heap H locs → lv_has ls 16 [(0, .ref (bd 0)), (1, .int x8), (2, .int x9), (3, .int x10), (4, .int x11), (5, .int x12)] → f_M_round_31 σ x8 x9 x10 x11 x12 x13 = some (r0, σ0) → W p l e (headSpec w_M_round m_M_round).room s m args below meth c H locs 0 0 (MQ below (hx_Qj D (hx_ty T3) A r0 (hm_W T3 bd σ0)) args s 0 0 A) (F0 m 31 ls [.int x13]) := by
      intro σ x8 x9 x10 x11 x12 x13 H locs ls hP hD hS hl h
      rw [f_M_round_31] at h
      refine lv_istore (lv' := [(6, .int x13), (0, .ref (bd 0)), (1, .int x8), (2, .int x9), (3, .int x10), (4, .int x11), (5, .int x12)]) hx hb d_M_round_31 hl (by decide) rfl (fun ls hl => ?_)
      refine lv_iload hx hb d_M_round_33 (lv_at hl 0 rfl) ?_
      refine lv_aload_n hx hb d_M_round_35 rfl (lv_at hl 1 rfl) ?_
      refine va_get (D := D) (ci := 5) (v := .ref (bd 2)) (C := "HalfFloatsModel") (T := T_M) (N := 21) hx hb hts (hx_up in_M) hown hK hP (0) hm_at_M rfl 1 (by decide) (hts _ (hx_cons _ k_557)) (fun _ h9 => h9) rfl d_M_round_36 ?_
      refine lv_iload_n hx hb d_M_round_39 rfl (lv_at hl 2 rfl) ?_
      obtain ⟨g14, h⟩ := hx_gs h
      refine va_iald hx hb hK hP (2) 1 hm_at_fF rfl g14 d_M_round_40 ?_
      refine lv_isub hx hb d_M_round_41 ?_
      refine lv_sipush (v := -352) hx hb d_M_round_42 (by decide) ?_
      refine lv_isub hx hb d_M_round_45 ?_
      refine lv_topi (fun x15 ex15 => ?_)
      replace h := hx_ns ex15 h
      clear ex15
      refine lv_istore (lv' := [(7, .int x15), (6, .int x13), (0, .ref (bd 0)), (1, .int x8), (2, .int x9), (3, .int x10), (4, .int x11), (5, .int x12)]) hx hb d_M_round_46 hl (by decide) rfl (fun ls hl => ?_)
      refine lv_lconst (v := 0) hx hb d_M_round_48 rfl ?_
      refine lv_lstore (lv' := [(8, .long (0 : Int64)), (7, .int x15), (6, .int x13), (0, .ref (bd 0)), (1, .int x8), (2, .int x9), (3, .int x10), (4, .int x11), (5, .int x12)]) hx hb d_M_round_49 hl (by decide) rfl (fun ls hl => ?_)
      refine lv_iload hx hb d_M_round_51 (lv_at hl 7 rfl) ?_
      refine lv_istore (lv' := [(10, .int x11), (8, .long (0 : Int64)), (7, .int x15), (6, .int x13), (0, .ref (bd 0)), (1, .int x8), (2, .int x9), (3, .int x10), (4, .int x11), (5, .int x12)]) hx hb d_M_round_53 hl (by decide) rfl (fun ls hl => ?_)
      exact B_55 hx_fuel σ x8 x9 x10 x11 x12 x13 x15 (0 : Int64) x11 _ _ ls hP hD hS (lv_sub hl [4, 5, 6, 7, 8, 9, 3, 2, 1, 0] rfl) h
  refine W.eq (g2 := F0 m 0 ((lg_sl [.ref (bd 0), .int x1, .int x2, .int x3, .int x4] ++ List.replicate (16 - (lg_sl [.ref (bd 0), .int x1, .int x2, .int x3, .int x4]).length) Slot.unset).toArray) []) (by rw [hargs, lg_entry_eq]) ?_
  have hl := lv_entry ([.ref (bd 0), .int x1, .int x2, .int x3, .int x4]) (n := 16) (Nat.le_of_ble_eq_true rfl)
  generalize (lg_sl ([.ref (bd 0), .int x1, .int x2, .int x3, .int x4]) ++ List.replicate (16 - (lg_sl ([.ref (bd 0), .int x1, .int x2, .int x3, .int x4])).length) Slot.unset).toArray = ls at hl ⊢
  have hl : lv_has ls 16 [(0, .ref (bd 0)), (1, .int x1), (2, .int x2), (3, .int x3), (4, .int x4)] := hl
  rw [f_M_round] at h
  refine lv_iconst (v := 1) hx hb d_M_round_0 (by decide) ?_
  refine lv_aload_n hx hb d_M_round_1 rfl (lv_at hl 0 rfl) ?_
  refine lv_iload_n hx hb d_M_round_2 rfl (lv_at hl 1 rfl) ?_
  obtain ⟨r5, er5, h⟩ := hx_b1s h
  refine hx_rd (va_runV (As := [.int x1]) (rest := [.int (1 : Int32)]) ⟨hx, hb, hml, hown, hts⟩ (c_M_bias l D T3 bd τ x1 _ er5) (cwV 1 hts (hx_gV hx_cons k_682 k_684 k_32 k_55 k_685) rfl rfl rfl (by decide +kernel) ⟨Nat.le_of_ble_eq_true rfl, Nat.le_of_ble_eq_true rfl⟩) (hx_preV (va_recv hK hP (ci := 5) (q0 := 0) rfl hm_at_M) hP hK) rfl rfl hl.1 rfl (lv_room (Nat.le_of_ble_eq_true rfl)) d_M_round_3 ⟨Nat.zero_le _, Nat.zero_le _⟩) ?_
  refine lv_isub hx hb d_M_round_6 ?_
  refine lv_topi (fun x6 ex6 => ?_)
  replace h := hx_ns ex6 h
  clear ex6
  refine lv_istore (lv' := [(5, .int x6), (0, .ref (bd 0)), (1, .int x1), (2, .int x2), (3, .int x3), (4, .int x4)]) hx hb d_M_round_7 hl (by decide) rfl (fun ls hl => ?_)
  refine lv_iload hx hb d_M_round_9 (lv_at hl 5 rfl) ?_
  refine lv_sipush (v := -352) hx hb d_M_round_11 (by decide) ?_
  refine lv_iadd hx hb d_M_round_14 ?_
  refine lv_iload hx hb d_M_round_15 (lv_at hl 0 rfl) ?_
  refine lv_icmp_ge (tgt := 25) hx hb d_M_round_17 (by decide) (fun c7 => ?_) (fun c7 => ?_)
  · replace h := hx_ip c7 h
    refine lv_iload hx hb d_M_round_25 (lv_at hl 5 rfl) ?_
    refine lv_sipush (v := -352) hx hb d_M_round_27 (by decide) ?_
    refine lv_iadd hx hb d_M_round_30 ?_
    exact B_31 τ x1 x2 x3 x4 x6 (x4 + (-352 : Int32)) _ _ ls hP hD hS (lv_sub hl [1, 2, 3, 4, 5, 0] rfl) h
  · replace h := hx_in c7 h
    refine lv_iload hx hb d_M_round_20 (lv_at hl 0 rfl) ?_
    refine lv_goto (tgt := 31) hx hb d_M_round_22 (by decide) ?_
    exact B_31 τ x1 x2 x3 x4 x6 x6 _ _ ls hP hD hS (lv_sub hl [1, 2, 3, 4, 5, 0] rfl) h
abbrev m_M_end : Room := { frames := 4, cells := 0, slots := 0, locals := 107 }
set_option maxHeartbeats 4000000 in
set_option maxRecDepth 100000 in
theorem c_M_end (l : Launch) (D : va_G) (T3 : hx_T3) (bd : Nat → Nat) (sz : Nat) (τ : hm_S) (x1 : Int32) (x2 : Int32) (r0 : Int64) (σ0 : hm_S) (h : f_M_end τ x1 x2 = some (r0, σ0)) : hx_Wj l D (hx_ty T3) y_M_end w_M_end m_M_end [.ref (bd 0), .int x1, .int x2] sz (hm_W T3 bd τ) r0 (hm_W T3 bd σ0) := by
  refine Met.ofW (cc := b_M_end) (maxL := 7) (ret := (some .long)) (by decide) rfl ?_
  intro p e s m args below meth c s₁ B hml hv
  obtain ⟨hargs, hsz, hP, hK, hD0⟩ := hv
  have hx := B.exec
  have hb := B.bytes
  have hr := B.returns
  have hts := atoms_spec (ws := w_M_end) B.pre
  have hown : s.vm.findClass "HalfFloatsModel" = some m.cls := findClass_of_methodNamed B.named
  have hlocks := B.notSynchronized
  subst hsz
  have hD := hD0.self (sz := s.heap.size)
  generalize hAe : va_A (hm_W T3 bd τ) s.heap.size = A at hD ⊢
  have hA : ∀ q : Nat, s.heap.size ≤ q → A q := fun q h => by rw [← hAe]; exact Or.inr h
  have hS : va_S A s.heap s.heap [] := va_S.rf
  have B_34 : ∀ (σ : hm_S) (x5 : Int32) (H : Heap) (locs : List Loc) (ls : Array Slot), va_P D vwCl (hm_W T3 bd σ) H → va_D A (hm_W T3 bd σ) → va_S A s.heap H locs → lv_has ls 7 [(0, .ref (bd 0)), (1, .int x5)] → f_M_end_34 σ x5 = some (r0, σ0) → W p l e (headSpec w_M_end m_M_end).room s m args below meth c H locs 0 0 (MQ below (hx_Qj D (hx_ty T3) A r0 (hm_W T3 bd σ0)) args s 0 0 A) (F0 m 34 ls []) := by
      intro σ x5 H locs ls hP hD hS hl h
      rw [f_M_end_34] at h
      refine lv_aload_n hx hb d_M_end_34 rfl (lv_at hl 0 rfl) ?_
      refine lv_dup hx hb d_M_end_35 rfl ?_
      refine va_get (D := D) (ci := 5) (v := .int (hm_flags σ)) (C := "HalfFloatsModel") (T := T_M) (N := 21) hx hb hts (hx_up in_M) hown hK hP (0) hm_at_M rfl 6 (by decide) (hts _ (hx_cons _ k_562)) (fun _ h9 => h9) rfl d_M_end_36 ?_
      refine lv_iconst (v := 1) hx hb d_M_end_39 (by decide) ?_
      refine lv_ior hx hb d_M_end_40 ?_
      refine lv_topi (fun x6 ex6 => ?_)
      replace h := hx_ns ex6 h
      clear ex6
      refine va_put (D := D) (ci := 5) (v := .int x6) (ty := .int) (C := "HalfFloatsModel") (T := T_M) (N := 21) hx hb hts (hx_up in_M) ty_M tyok_M nm_M hown hK hP hD hS (0) hm_at_M rfl 6 (by decide) (hts _ (hx_cons _ k_562)) (fun _ h9 => h9) rfl (by decide +kernel) rfl rfl (Nat.le_of_ble_eq_true rfl) d_M_end_41 (fun H locs hP hD hS => ?_)
      obtain ⟨σ7, eσ7⟩ : ∃ y : hm_S, y = (hm_flags_s σ x6) := ⟨_, rfl⟩
      replace hP : va_P D vwCl (hm_W T3 bd σ7) H := by rw [eσ7]; exact hP
      replace hD : va_D A (hm_W T3 bd σ7) := by rw [eσ7]; exact hD
      replace h := hx_ns eσ7 h
      clear eσ7
      refine lv_aload_n hx hb d_M_end_44 rfl (lv_at hl 0 rfl) ?_
      refine lv_iload_n hx hb d_M_end_45 rfl (lv_at hl 1 rfl) ?_
      obtain ⟨r8, er8, h⟩ := hx_b1s h
      refine hx_rd (va_runV (As := [.int x5]) (rest := []) ⟨hx, hb, hml, hown, hts⟩ (c_M_nan l D T3 bd σ7 x5 _ er8) (cwV 1 hts (hx_gV hx_cons k_647 k_649 k_25 k_55 k_650) rfl rfl rfl (by decide +kernel) ⟨Nat.le_of_ble_eq_true rfl, Nat.le_of_ble_eq_true rfl⟩) (hx_preV (va_recv hK hP (ci := 5) (q0 := 0) rfl hm_at_M) hP hK) rfl rfl hl.1 rfl (lv_room (Nat.le_of_ble_eq_true rfl)) d_M_end_46 ⟨Nat.zero_le _, Nat.zero_le _⟩) ?_
      exact W.lret hx hb hr (fun t ht hW => hx_endj h ht hW hP hK hD hS) hS.2.2 d_M_end_49
  have B_80 : ∀ (σ : hm_S) (x15 : Int32) (x16 : Int64) (H : Heap) (locs : List Loc) (ls : Array Slot), va_P D vwCl (hm_W T3 bd σ) H → va_D A (hm_W T3 bd σ) → va_S A s.heap H locs → lv_has ls 7 [(0, .ref (bd 0)), (1, .int x15)] → f_M_end_80 σ x15 x16 = some (r0, σ0) → W p l e (headSpec w_M_end m_M_end).room s m args below meth c H locs 0 0 (MQ below (hx_Qj D (hx_ty T3) A r0 (hm_W T3 bd σ0)) args s 0 0 A) (F0 m 80 ls [.long x16]) := by
      intro σ x15 x16 H locs ls hP hD hS hl h
      rw [f_M_end_80] at h
      refine lv_lstore_n (lv' := [(3, .long x16), (0, .ref (bd 0)), (1, .int x15)]) hx hb d_M_end_80 rfl hl (by decide) rfl (fun ls hl => ?_)
      refine lv_aload_n hx hb d_M_end_81 rfl (lv_at hl 1 rfl) ?_
      refine va_get (D := D) (ci := 5) (v := .ref (bd 3)) (C := "HalfFloatsModel") (T := T_M) (N := 21) hx hb hts (hx_up in_M) hown hK hP (0) hm_at_M rfl 2 (by decide) (hts _ (hx_cons _ k_558)) (fun _ h9 => h9) rfl d_M_end_82 ?_
      refine lv_iload_n hx hb d_M_end_85 rfl (lv_at hl 2 rfl) ?_
      obtain ⟨g17, h⟩ := hx_gs h
      refine va_iald hx hb hK hP (3) 1 hm_at_fK rfl g17 d_M_end_86 ?_
      refine lv_if_ne (tgt := 100) hx hb d_M_end_87 (by decide) (fun c18 => ?_) (fun c18 => ?_)
      · replace h := hx_in c18 h
        refine lv_aload_n hx hb d_M_end_100 rfl (lv_at hl 1 rfl) ?_
        refine va_get (D := D) (ci := 5) (v := .ref (bd 3)) (C := "HalfFloatsModel") (T := T_M) (N := 21) hx hb hts (hx_up in_M) hown hK hP (0) hm_at_M rfl 2 (by decide) (hts _ (hx_cons _ k_558)) (fun _ h9 => h9) rfl d_M_end_101 ?_
        refine lv_iload_n hx hb d_M_end_104 rfl (lv_at hl 2 rfl) ?_
        obtain ⟨g19, h⟩ := hx_gs h
        refine va_iald hx hb hK hP (3) 1 hm_at_fK rfl g19 d_M_end_105 ?_
        refine lv_iconst (v := 1) hx hb d_M_end_106 (by decide) ?_
        refine lv_icmp_ne (tgt := 122) hx hb d_M_end_107 (by decide) (fun c20 => ?_) (fun c20 => ?_)
        · replace h := hx_in c20 h
          refine lv_aload_n hx hb d_M_end_122 rfl (lv_at hl 1 rfl) ?_
          refine lv_iload_n hx hb d_M_end_123 rfl (lv_at hl 2 rfl) ?_
          obtain ⟨r21, er21, h⟩ := hx_b1s h
          refine hx_rd (va_runV (As := [.int x15]) (rest := []) ⟨hx, hb, hml, hown, hts⟩ (c_M_nan l D T3 bd σ x15 _ er21) (cwV 1 hts (hx_gV hx_cons k_647 k_649 k_25 k_55 k_650) rfl rfl rfl (by decide +kernel) ⟨Nat.le_of_ble_eq_true rfl, Nat.le_of_ble_eq_true rfl⟩) (hx_preV (va_recv hK hP (ci := 5) (q0 := 0) rfl hm_at_M) hP hK) rfl rfl hl.1 rfl (lv_room (Nat.le_of_ble_eq_true rfl)) d_M_end_124 ⟨Nat.zero_le _, Nat.zero_le _⟩) ?_
          exact W.lret hx hb hr (fun t ht hW => hx_endj h ht hW hP hK hD hS) hS.2.2 d_M_end_127
        · replace h := hx_ip c20 h
          refine lv_lload_n hx hb d_M_end_110 rfl (lv_at hl 0 rfl) ?_
          refine lv_aload_n hx hb d_M_end_111 rfl (lv_at hl 1 rfl) ?_
          refine lv_iload_n hx hb d_M_end_112 rfl (lv_at hl 2 rfl) ?_
          obtain ⟨r22, er22, h⟩ := hx_b1s h
          refine hx_rd (va_runV (As := [.int x15]) (rest := [.long x16]) ⟨hx, hb, hml, hown, hts⟩ (c_M_limit l D T3 bd σ x15 _ er22) (cwV 1 hts (hx_gV hx_cons k_639 k_641 k_23 k_55 k_642) rfl rfl rfl (by decide +kernel) ⟨Nat.le_of_ble_eq_true rfl, Nat.le_of_ble_eq_true rfl⟩) (hx_preV (va_recv hK hP (ci := 5) (q0 := 0) rfl hm_at_M) hP hK) rfl rfl hl.1 rfl (lv_room (Nat.le_of_ble_eq_true rfl)) d_M_end_113 ⟨Nat.zero_le _, Nat.zero_le _⟩) ?_
          refine lv_lconst (v := 1) hx hb d_M_end_116 rfl ?_
          refine lv_lsub hx hb d_M_end_117 ?_
          refine lv_lor hx hb d_M_end_118 ?_
          refine lv_goto (tgt := 127) hx hb d_M_end_119 (by decide) ?_
          exact W.lret hx hb hr (fun t ht hW => hx_endj h ht hW hP hK hD hS) hS.2.2 d_M_end_127
      · replace h := hx_ip c18 h
        refine lv_lload_n hx hb d_M_end_90 rfl (lv_at hl 0 rfl) ?_
        refine lv_aload_n hx hb d_M_end_91 rfl (lv_at hl 1 rfl) ?_
        refine lv_iload_n hx hb d_M_end_92 rfl (lv_at hl 2 rfl) ?_
        obtain ⟨r23, er23, h⟩ := hx_b1s h
        refine hx_rd (va_runV (As := [.int x15]) (rest := [.long x16]) ⟨hx, hb, hml, hown, hts⟩ (c_M_limit l D T3 bd σ x15 _ er23) (cwV 1 hts (hx_gV hx_cons k_639 k_641 k_23 k_55 k_642) rfl rfl rfl (by decide +kernel) ⟨Nat.le_of_ble_eq_true rfl, Nat.le_of_ble_eq_true rfl⟩) (hx_preV (va_recv hK hP (ci := 5) (q0 := 0) rfl hm_at_M) hP hK) rfl rfl hl.1 rfl (lv_room (Nat.le_of_ble_eq_true rfl)) d_M_end_93 ⟨Nat.zero_le _, Nat.zero_le _⟩) ?_
        refine lv_lor hx hb d_M_end_96 ?_
        refine lv_goto (tgt := 127) hx hb d_M_end_97 (by decide) ?_
        exact W.lret hx hb hr (fun t ht hW => hx_endj h ht hW hP hK hD hS) hS.2.2 d_M_end_127
  have B_64 : ∀ (σ : hm_S) (x13 : Int32) (H : Heap) (locs : List Loc) (ls : Array Slot), va_P D vwCl (hm_W T3 bd σ) H → va_D A (hm_W T3 bd σ) → va_S A s.heap H locs → lv_has ls 7 [(0, .ref (bd 0)), (1, .int x13)] → f_M_end_64 σ x13 = some (r0, σ0) → W p l e (headSpec w_M_end m_M_end).room s m args below meth c H locs 0 0 (MQ below (hx_Qj D (hx_ty T3) A r0 (hm_W T3 bd σ0)) args s 0 0 A) (F0 m 64 ls []) := by
      intro σ x13 H locs ls hP hD hS hl h
      rw [f_M_end_64] at h
      refine lv_aload_n hx hb d_M_end_64 rfl (lv_at hl 0 rfl) ?_
      refine va_get (D := D) (ci := 5) (v := .int (hm_hasBelow σ)) (C := "HalfFloatsModel") (T := T_M) (N := 21) hx hb hts (hx_up in_M) hown hK hP (0) hm_at_M rfl 16 (by decide) (hts _ (hx_cons _ k_572)) (fun _ h9 => h9) rfl d_M_end_65 ?_
      refine lv_if_eq (tgt := 79) hx hb d_M_end_68 (by decide) (fun c14 => ?_) (fun c14 => ?_)
      · replace h := hx_ip c14 h
        refine lv_lconst (v := 0) hx hb d_M_end_79 rfl ?_
        exact B_80 σ x13 (0 : Int64) _ _ ls hP hD hS (lv_sub hl [0, 1] rfl) h
      · replace h := hx_in c14 h
        refine lv_aload_n hx hb d_M_end_71 rfl (lv_at hl 0 rfl) ?_
        refine lv_iload_n hx hb d_M_end_72 rfl (lv_at hl 1 rfl) ?_
        obtain ⟨r24, er24, h⟩ := hx_b1s h
        refine hx_rd (va_runV (As := [.int x13]) (rest := []) ⟨hx, hb, hml, hown, hts⟩ (c_M_signBit l D T3 bd σ x13 _ er24) (cwV 1 hts (hx_gV hx_cons k_643 k_645 k_24 k_55 k_646) rfl rfl rfl (by decide +kernel) ⟨Nat.le_of_ble_eq_true rfl, Nat.le_of_ble_eq_true rfl⟩) (hx_preV (va_recv hK hP (ci := 5) (q0 := 0) rfl hm_at_M) hP hK) rfl rfl hl.1 rfl (lv_room (Nat.le_of_ble_eq_true rfl)) d_M_end_73 ⟨Nat.zero_le _, Nat.zero_le _⟩) ?_
        refine lv_goto (tgt := 80) hx hb d_M_end_76 (by decide) ?_
        exact B_80 σ x13 r24 _ _ ls hP hD hS (lv_sub hl [0, 1] rfl) h
  have B_237 : ∀ (σ : hm_S) (x56 : Int32) (x57 : Int32) (H : Heap) (locs : List Loc) (ls : Array Slot), va_P D vwCl (hm_W T3 bd σ) H → va_D A (hm_W T3 bd σ) → va_S A s.heap H locs → lv_has ls 7 [(0, .ref (bd 0)), (1, .int x56)] → f_M_end_237 σ x56 x57 = some (r0, σ0) → W p l e (headSpec w_M_end m_M_end).room s m args below meth c H locs 0 0 (MQ below (hx_Qj D (hx_ty T3) A r0 (hm_W T3 bd σ0)) args s 0 0 A) (F0 m 237 ls [.int x57]) := by
      intro σ x56 x57 H locs ls hP hD hS hl h
      rw [f_M_end_237] at h
      refine lv_istore (lv' := [(6, .int x57), (0, .ref (bd 0)), (1, .int x56)]) hx hb d_M_end_237 hl (by decide) rfl (fun ls hl => ?_)
      refine lv_iload hx hb d_M_end_239 (lv_at hl 0 rfl) ?_
      refine lv_if_eq (tgt := 252) hx hb d_M_end_241 (by decide) (fun c58 => ?_) (fun c58 => ?_)
      · replace h := hx_ip c58 h
        refine lv_lconst (v := 0) hx hb d_M_end_252 rfl ?_
        exact W.lret hx hb hr (fun t ht hW => hx_endj h ht hW hP hK hD hS) hS.2.2 d_M_end_253
      · replace h := hx_in c58 h
        refine lv_aload_n hx hb d_M_end_244 rfl (lv_at hl 1 rfl) ?_
        refine lv_iload_n hx hb d_M_end_245 rfl (lv_at hl 2 rfl) ?_
        obtain ⟨r59, er59, h⟩ := hx_b1s h
        refine hx_rd (va_runV (As := [.int x56]) (rest := []) ⟨hx, hb, hml, hown, hts⟩ (c_M_signBit l D T3 bd σ x56 _ er59) (cwV 1 hts (hx_gV hx_cons k_643 k_645 k_24 k_55 k_646) rfl rfl rfl (by decide +kernel) ⟨Nat.le_of_ble_eq_true rfl, Nat.le_of_ble_eq_true rfl⟩) (hx_preV (va_recv hK hP (ci := 5) (q0 := 0) rfl hm_at_M) hP hK) rfl rfl hl.1 rfl (lv_room (Nat.le_of_ble_eq_true rfl)) d_M_end_246 ⟨Nat.zero_le _, Nat.zero_le _⟩) ?_
        refine lv_goto (tgt := 253) hx hb d_M_end_249 (by decide) ?_
        exact W.lret hx hb hr (fun t ht hW => hx_endj h ht hW hP hK hD hS) hS.2.2 d_M_end_253
  have B_236 : ∀ (σ : hm_S) (x55 : Int32) (H : Heap) (locs : List Loc) (ls : Array Slot), va_P D vwCl (hm_W T3 bd σ) H → va_D A (hm_W T3 bd σ) → va_S A s.heap H locs → lv_has ls 7 [(0, .ref (bd 0)), (1, .int x55)] → f_M_end_236 σ x55 = some (r0, σ0) → W p l e (headSpec w_M_end m_M_end).room s m args below meth c H locs 0 0 (MQ below (hx_Qj D (hx_ty T3) A r0 (hm_W T3 bd σ0)) args s 0 0 A) (F0 m 236 ls []) := by
      intro σ x55 H locs ls hP hD hS hl h
      rw [f_M_end_236] at h
      refine lv_iconst (v := 0) hx hb d_M_end_236 (by decide) ?_
      exact B_237 σ x55 (0 : Int32) _ _ ls hP hD hS (lv_sub hl [0, 1] rfl) h
  have B_206 : ∀ (σ : hm_S) (x50 : Int32) (x51 : Int32) (x52 : Int32) (H : Heap) (locs : List Loc) (ls : Array Slot), va_P D vwCl (hm_W T3 bd σ) H → va_D A (hm_W T3 bd σ) → va_S A s.heap H locs → lv_has ls 7 [(0, .ref (bd 0)), (1, .int x50), (2, .int x51)] → f_M_end_206 σ x50 x51 x52 = some (r0, σ0) → W p l e (headSpec w_M_end m_M_end).room s m args below meth c H locs 0 0 (MQ below (hx_Qj D (hx_ty T3) A r0 (hm_W T3 bd σ0)) args s 0 0 A) (F0 m 206 ls [.int x52]) := by
      intro σ x50 x51 x52 H locs ls hP hD hS hl h
      rw [f_M_end_206] at h
      refine lv_istore (lv' := [(5, .int x52), (0, .ref (bd 0)), (1, .int x50), (2, .int x51)]) hx hb d_M_end_206 hl (by decide) rfl (fun ls hl => ?_)
      refine lv_iload hx hb d_M_end_208 (lv_at hl 0 rfl) ?_
      refine lv_if_eq (tgt := 220) hx hb d_M_end_210 (by decide) (fun c53 => ?_) (fun c53 => ?_)
      · replace h := hx_ip c53 h
        refine lv_aload_n hx hb d_M_end_220 rfl (lv_at hl 1 rfl) ?_
        refine va_get (D := D) (ci := 5) (v := .int (hm_terms σ)) (C := "HalfFloatsModel") (T := T_M) (N := 21) hx hb hts (hx_up in_M) hown hK hP (0) hm_at_M rfl 12 (by decide) (hts _ (hx_cons _ k_568)) (fun _ h9 => h9) rfl d_M_end_221 ?_
        refine lv_if_le (tgt := 236) hx hb d_M_end_224 (by decide) (fun c54 => ?_) (fun c54 => ?_)
        · replace h := hx_ip c54 h
          exact B_236 σ x50 _ _ ls hP hD hS (lv_sub hl [1, 2] rfl) h
        · replace h := hx_in c54 h
          refine lv_iload_n hx hb d_M_end_227 rfl (lv_at hl 3 rfl) ?_
          refine lv_iconst (v := 4) hx hb d_M_end_228 (by decide) ?_
          refine lv_icmp_ne (tgt := 236) hx hb d_M_end_229 (by decide) (fun c60 => ?_) (fun c60 => ?_)
          · replace h := hx_in c60 h
            exact B_236 σ x50 _ _ ls hP hD hS (lv_sub hl [1, 2] rfl) h
          · replace h := hx_ip c60 h
            refine lv_iconst (v := 1) hx hb d_M_end_232 (by decide) ?_
            refine lv_goto (tgt := 237) hx hb d_M_end_233 (by decide) ?_
            exact B_237 σ x50 (1 : Int32) _ _ ls hP hD hS (lv_sub hl [1, 2] rfl) h
      · replace h := hx_in c53 h
        refine lv_aload_n hx hb d_M_end_213 rfl (lv_at hl 1 rfl) ?_
        refine va_get (D := D) (ci := 5) (v := .int (hm_hasMinus σ)) (C := "HalfFloatsModel") (T := T_M) (N := 21) hx hb hts (hx_up in_M) hown hK hP (0) hm_at_M rfl 19 (by decide) (hts _ (hx_cons _ k_575)) (fun _ h9 => h9) rfl d_M_end_214 ?_
        refine lv_goto (tgt := 237) hx hb d_M_end_217 (by decide) ?_
        exact B_237 σ x50 (hm_hasMinus σ) _ _ ls hP hD hS (lv_sub hl [1, 2] rfl) h
  have B_205 : ∀ (σ : hm_S) (x48 : Int32) (x49 : Int32) (H : Heap) (locs : List Loc) (ls : Array Slot), va_P D vwCl (hm_W T3 bd σ) H → va_D A (hm_W T3 bd σ) → va_S A s.heap H locs → lv_has ls 7 [(0, .ref (bd 0)), (1, .int x48), (2, .int x49)] → f_M_end_205 σ x48 x49 = some (r0, σ0) → W p l e (headSpec w_M_end m_M_end).room s m args below meth c H locs 0 0 (MQ below (hx_Qj D (hx_ty T3) A r0 (hm_W T3 bd σ0)) args s 0 0 A) (F0 m 205 ls []) := by
      intro σ x48 x49 H locs ls hP hD hS hl h
      rw [f_M_end_205] at h
      refine lv_iconst (v := 0) hx hb d_M_end_205 (by decide) ?_
      exact B_206 σ x48 x49 (0 : Int32) _ _ ls hP hD hS (lv_sub hl [0, 1, 2] rfl) h
  have B_178 : ∀ (σ : hm_S) (x40 : Int32) (x41 : Int32) (x42 : Int32) (x43 : Int32) (H : Heap) (locs : List Loc) (ls : Array Slot), va_P D vwCl (hm_W T3 bd σ) H → va_D A (hm_W T3 bd σ) → va_S A s.heap H locs → lv_has ls 7 [(0, .ref (bd 0)), (1, .int x40), (2, .int x41), (3, .int x42), (4, .int x43)] → f_M_end_178 σ x40 x41 x42 x43 = some (r0, σ0) → W p l e (headSpec w_M_end m_M_end).room s m args below meth c H locs 0 0 (MQ below (hx_Qj D (hx_ty T3) A r0 (hm_W T3 bd σ0)) args s 0 0 A) (F0 m 178 ls []) := by
      intro σ x40 x41 x42 x43 H locs ls hP hD hS hl h
      rw [f_M_end_178] at h
      refine lv_iload hx hb d_M_end_178 (lv_at hl 4 rfl) ?_
      refine lv_if_ge (tgt := 254) hx hb d_M_end_180 (by decide) (fun c44 => ?_) (fun c44 => ?_)
      · replace h := hx_ip c44 h
        refine lv_aload_n hx hb d_M_end_254 rfl (lv_at hl 0 rfl) ?_
        refine lv_iload_n hx hb d_M_end_255 rfl (lv_at hl 1 rfl) ?_
        refine lv_iload_n hx hb d_M_end_256 rfl (lv_at hl 2 rfl) ?_
        refine lv_iload_n hx hb d_M_end_257 rfl (lv_at hl 3 rfl) ?_
        refine lv_iload hx hb d_M_end_258 (lv_at hl 4 rfl) ?_
        obtain ⟨r46, q45, eq45, h⟩ := hx_b2s h
        refine hx_wj (va_runV (As := [.int x40, .int x41, .int x42, .int x43]) (rest := []) ⟨hx, hb, hml, hown, hts⟩ (c_M_round l D T3 bd _ σ x40 x41 x42 x43 _ _ eq45) (cwV 4 hts (hx_gV hx_cons k_728 k_730 k_41 k_55 k_731) rfl rfl rfl (by decide +kernel) ⟨Nat.le_of_ble_eq_true rfl, Nat.le_of_ble_eq_true rfl⟩) (hx_preVw (va_recv hK hP (ci := 5) (q0 := 0) rfl hm_at_M) hP hK hD) rfl rfl hl.1 rfl (lv_room (Nat.le_of_ble_eq_true rfl)) d_M_end_260 ⟨Nat.zero_le _, Nat.zero_le _⟩) hD hS hA (fun H locs hP hD hS => ?_)
        exact W.lret hx hb hr (fun t ht hW => hx_endj h ht hW hP hK hD hS) hS.2.2 d_M_end_263
      · replace h := hx_in c44 h
        refine lv_aload_n hx hb d_M_end_183 rfl (lv_at hl 0 rfl) ?_
        refine va_get (D := D) (ci := 5) (v := .int (hm_allZero σ)) (C := "HalfFloatsModel") (T := T_M) (N := 21) hx hb hts (hx_up in_M) hown hK hP (0) hm_at_M rfl 17 (by decide) (hts _ (hx_cons _ k_573)) (fun _ h9 => h9) rfl d_M_end_184 ?_
        refine lv_if_eq (tgt := 205) hx hb d_M_end_187 (by decide) (fun c47 => ?_) (fun c47 => ?_)
        · replace h := hx_ip c47 h
          exact B_205 σ x40 x41 _ _ ls hP hD hS (lv_sub hl [0, 1, 2] rfl) h
        · replace h := hx_in c47 h
          refine lv_aload_n hx hb d_M_end_190 rfl (lv_at hl 0 rfl) ?_
          refine va_get (D := D) (ci := 5) (v := .int (hm_hasPlus σ)) (C := "HalfFloatsModel") (T := T_M) (N := 21) hx hb hts (hx_up in_M) hown hK hP (0) hm_at_M rfl 18 (by decide) (hts _ (hx_cons _ k_574)) (fun _ h9 => h9) rfl d_M_end_191 ?_
          refine lv_aload_n hx hb d_M_end_194 rfl (lv_at hl 0 rfl) ?_
          refine va_get (D := D) (ci := 5) (v := .int (hm_hasMinus σ)) (C := "HalfFloatsModel") (T := T_M) (N := 21) hx hb hts (hx_up in_M) hown hK hP (0) hm_at_M rfl 19 (by decide) (hts _ (hx_cons _ k_575)) (fun _ h9 => h9) rfl d_M_end_195 ?_
          refine lv_icmp_eq (tgt := 205) hx hb d_M_end_198 (by decide) (fun c61 => ?_) (fun c61 => ?_)
          · replace h := hx_ip c61 h
            exact B_205 σ x40 x41 _ _ ls hP hD hS (lv_sub hl [0, 1, 2] rfl) h
          · replace h := hx_in c61 h
            refine lv_iconst (v := 1) hx hb d_M_end_201 (by decide) ?_
            refine lv_goto (tgt := 206) hx hb d_M_end_202 (by decide) ?_
            exact B_206 σ x40 x41 (1 : Int32) _ _ ls hP hD hS (lv_sub hl [0, 1, 2] rfl) h
  have B_158 : ∀ (n : Nat), ∀ (σ : hm_S) (x35 : Int32) (x36 : Int32) (x37 : Int32) (x38 : Int32) (H : Heap) (locs : List Loc) (ls : Array Slot), va_P D vwCl (hm_W T3 bd σ) H → va_D A (hm_W T3 bd σ) → va_S A s.heap H locs → lv_has ls 7 [(0, .ref (bd 0)), (1, .int x35), (2, .int x36), (3, .int x37), (4, .int x38)] → f_M_end_158 n σ x35 x36 x37 x38 = some (r0, σ0) → W p l e (headSpec w_M_end m_M_end).room s m args below meth c H locs 0 0 (MQ below (hx_Qj D (hx_ty T3) A r0 (hm_W T3 bd σ0)) args s 0 0 A) (F0 m 158 ls []) := by
    intro n
    induction n with
    | zero =>
      intro σ x35 x36 x37 x38 H locs ls hP hD hS hl h
      rw [f_M_end_158] at h
      cases h
    | succ n ih =>
        intro σ x35 x36 x37 x38 H locs ls hP hD hS hl h
        rw [f_M_end_158] at h
        refine lv_iload hx hb d_M_end_158 (lv_at hl 4 rfl) ?_
        refine lv_if_lt (tgt := 178) hx hb d_M_end_160 (by decide) (fun c39 => ?_) (fun c39 => ?_)
        · replace h := hx_ip c39 h
          exact B_178 σ x35 x36 x37 x38 _ _ ls hP hD hS (lv_sub hl [0, 1, 2, 3, 4] rfl) h
        · replace h := hx_in c39 h
          refine lv_aload_n hx hb d_M_end_163 rfl (lv_at hl 0 rfl) ?_
          refine lv_iload hx hb d_M_end_164 (lv_at hl 4 rfl) ?_
          obtain ⟨r62, er62, h⟩ := hx_b1s h
          refine hx_rd (va_runV (As := [.int x38]) (rest := []) ⟨hx, hb, hml, hown, hts⟩ (c_M_bitAt l D T3 bd σ x38 _ er62) (cwV 1 hts (hx_gV hx_cons k_720 k_722 k_39 k_55 k_723) rfl rfl rfl (by decide +kernel) ⟨Nat.le_of_ble_eq_true rfl, Nat.le_of_ble_eq_true rfl⟩) (hx_preV (va_recv hK hP (ci := 5) (q0 := 0) rfl hm_at_M) hP hK) rfl rfl hl.1 rfl (lv_room (Nat.le_of_ble_eq_true rfl)) d_M_end_166 ⟨Nat.zero_le _, Nat.zero_le _⟩) ?_
          refine lv_if_ne (tgt := 178) hx hb d_M_end_169 (by decide) (fun c63 => ?_) (fun c63 => ?_)
          · replace h := hx_in c63 h
            exact B_178 σ x35 x36 x37 x38 _ _ ls hP hD hS (lv_sub hl [0, 1, 2, 3, 4] rfl) h
          · replace h := hx_ip c63 h
            obtain ⟨x64, ex64⟩ : ∃ y : Int32, y = x38 + (-1) := ⟨_, rfl⟩
            replace h := hx_ns ex64 h
            refine lv_iinc (v := x64) (lv' := [(4, .int x64), (0, .ref (bd 0)), (1, .int x35), (2, .int x36), (3, .int x37)]) hx hb d_M_end_172 hl (k := 4) rfl (by rw [ex64]; rfl) (by decide) rfl (fun ls hl => ?_)
            clear ex64
            refine lv_goto (tgt := 158) hx hb d_M_end_175 (by decide) ?_
            exact ih σ x35 x36 x37 x64 _ _ ls hP hD hS (lv_sub hl [1, 2, 3, 4, 0] rfl) h
  have B_153 : ∀ (σ : hm_S) (x32 : Int32) (x33 : Int32) (x34 : Int32) (H : Heap) (locs : List Loc) (ls : Array Slot), va_P D vwCl (hm_W T3 bd σ) H → va_D A (hm_W T3 bd σ) → va_S A s.heap H locs → lv_has ls 7 [(0, .ref (bd 0)), (1, .int x32), (2, .int x33), (3, .int x34)] → f_M_end_153 σ x32 x33 x34 = some (r0, σ0) → W p l e (headSpec w_M_end m_M_end).room s m args below meth c H locs 0 0 (MQ below (hx_Qj D (hx_ty T3) A r0 (hm_W T3 bd σ0)) args s 0 0 A) (F0 m 153 ls []) := by
      intro σ x32 x33 x34 H locs ls hP hD hS hl h
      rw [f_M_end_153] at h
      refine lv_sipush (v := 767) hx hb d_M_end_153 (by decide) ?_
      refine lv_istore (lv' := [(4, .int (767 : Int32)), (0, .ref (bd 0)), (1, .int x32), (2, .int x33), (3, .int x34)]) hx hb d_M_end_156 hl (by decide) rfl (fun ls hl => ?_)
      exact B_158 hx_fuel σ x32 x33 x34 (767 : Int32) _ _ ls hP hD hS (lv_sub hl [1, 2, 3, 4, 0] rfl) h
  have B_144 : ∀ (σ : hm_S) (x28 : Int32) (x29 : Int32) (x30 : Int32) (H : Heap) (locs : List Loc) (ls : Array Slot), va_P D vwCl (hm_W T3 bd σ) H → va_D A (hm_W T3 bd σ) → va_S A s.heap H locs → lv_has ls 7 [(0, .ref (bd 0)), (1, .int x28), (2, .int x29)] → f_M_end_144 σ x28 x29 x30 = some (r0, σ0) → W p l e (headSpec w_M_end m_M_end).room s m args below meth c H locs 0 0 (MQ below (hx_Qj D (hx_ty T3) A r0 (hm_W T3 bd σ0)) args s 0 0 A) (F0 m 144 ls [.int x30]) := by
      intro σ x28 x29 x30 H locs ls hP hD hS hl h
      rw [f_M_end_144] at h
      refine lv_istore_n (lv' := [(3, .int x30), (0, .ref (bd 0)), (1, .int x28), (2, .int x29)]) hx hb d_M_end_144 rfl hl (by decide) rfl (fun ls hl => ?_)
      refine lv_iload_n hx hb d_M_end_145 rfl (lv_at hl 0 rfl) ?_
      refine lv_if_eq (tgt := 153) hx hb d_M_end_146 (by decide) (fun c31 => ?_) (fun c31 => ?_)
      · replace h := hx_ip c31 h
        exact B_153 σ x28 x29 x30 _ _ ls hP hD hS (lv_sub hl [1, 2, 3, 0] rfl) h
      · replace h := hx_in c31 h
        refine lv_aload_n hx hb d_M_end_149 rfl (lv_at hl 1 rfl) ?_
        obtain ⟨q65, eq65, h⟩ := hx_b1s h
        refine hx_wv (va_runV (As := []) (rest := []) ⟨hx, hb, hml, hown, hts⟩ (c_M_negate l D T3 bd _ σ _ eq65) (cwV 0 hts (hx_gV hx_cons k_724 k_726 k_40 k_55 k_727) rfl rfl rfl (by decide +kernel) ⟨Nat.le_of_ble_eq_true rfl, Nat.le_of_ble_eq_true rfl⟩) (hx_preVw (va_recv hK hP (ci := 5) (q0 := 0) rfl hm_at_M) hP hK hD) rfl rfl hl.1 rfl (lv_room (Nat.le_of_ble_eq_true rfl)) d_M_end_150 ⟨Nat.zero_le _, Nat.zero_le _⟩) hD hS hA (fun H locs hP hD hS => ?_)
        exact B_153 q65 x28 x29 x30 _ _ ls hP hD hS (lv_sub hl [1, 2, 3, 0] rfl) h
  have B_50 : ∀ (σ : hm_S) (x10 : Int32) (x11 : Int32) (H : Heap) (locs : List Loc) (ls : Array Slot), va_P D vwCl (hm_W T3 bd σ) H → va_D A (hm_W T3 bd σ) → va_S A s.heap H locs → lv_has ls 7 [(0, .ref (bd 0)), (1, .int x10), (2, .int x11)] → f_M_end_50 σ x10 x11 = some (r0, σ0) → W p l e (headSpec w_M_end m_M_end).room s m args below meth c H locs 0 0 (MQ below (hx_Qj D (hx_ty T3) A r0 (hm_W T3 bd σ0)) args s 0 0 A) (F0 m 50 ls []) := by
      intro σ x10 x11 H locs ls hP hD hS hl h
      rw [f_M_end_50] at h
      refine lv_aload_n hx hb d_M_end_50 rfl (lv_at hl 0 rfl) ?_
      refine va_get (D := D) (ci := 5) (v := .int (hm_hasAbove σ)) (C := "HalfFloatsModel") (T := T_M) (N := 21) hx hb hts (hx_up in_M) hown hK hP (0) hm_at_M rfl 15 (by decide) (hts _ (hx_cons _ k_571)) (fun _ h9 => h9) rfl d_M_end_51 ?_
      refine lv_if_ne (tgt := 64) hx hb d_M_end_54 (by decide) (fun c12 => ?_) (fun c12 => ?_)
      · replace h := hx_in c12 h
        exact B_64 σ x10 _ _ ls hP hD hS (lv_sub hl [0, 1] rfl) h
      · replace h := hx_ip c12 h
        refine lv_aload_n hx hb d_M_end_57 rfl (lv_at hl 0 rfl) ?_
        refine va_get (D := D) (ci := 5) (v := .int (hm_hasBelow σ)) (C := "HalfFloatsModel") (T := T_M) (N := 21) hx hb hts (hx_up in_M) hown hK hP (0) hm_at_M rfl 16 (by decide) (hts _ (hx_cons _ k_572)) (fun _ h9 => h9) rfl d_M_end_58 ?_
        refine lv_if_eq (tgt := 128) hx hb d_M_end_61 (by decide) (fun c25 => ?_) (fun c25 => ?_)
        · replace h := hx_ip c25 h
          refine lv_aload_n hx hb d_M_end_128 rfl (lv_at hl 0 rfl) ?_
          refine lv_sipush (v := 767) hx hb d_M_end_129 (by decide) ?_
          obtain ⟨r26, er26, h⟩ := hx_b1s h
          refine hx_rd (va_runV (As := [.int (767 : Int32)]) (rest := []) ⟨hx, hb, hml, hown, hts⟩ (c_M_bitAt l D T3 bd σ (767 : Int32) _ er26) (cwV 1 hts (hx_gV hx_cons k_720 k_722 k_39 k_55 k_723) rfl rfl rfl (by decide +kernel) ⟨Nat.le_of_ble_eq_true rfl, Nat.le_of_ble_eq_true rfl⟩) (hx_preV (va_recv hK hP (ci := 5) (q0 := 0) rfl hm_at_M) hP hK) rfl rfl hl.1 rfl (lv_room (Nat.le_of_ble_eq_true rfl)) d_M_end_132 ⟨Nat.zero_le _, Nat.zero_le _⟩) ?_
          refine lv_iconst (v := 1) hx hb d_M_end_135 (by decide) ?_
          refine lv_icmp_ne (tgt := 143) hx hb d_M_end_136 (by decide) (fun c27 => ?_) (fun c27 => ?_)
          · replace h := hx_in c27 h
            refine lv_iconst (v := 0) hx hb d_M_end_143 (by decide) ?_
            exact B_144 σ x10 x11 (0 : Int32) _ _ ls hP hD hS (lv_sub hl [0, 1, 2] rfl) h
          · replace h := hx_ip c27 h
            refine lv_iconst (v := 1) hx hb d_M_end_139 (by decide) ?_
            refine lv_goto (tgt := 144) hx hb d_M_end_140 (by decide) ?_
            exact B_144 σ x10 x11 (1 : Int32) _ _ ls hP hD hS (lv_sub hl [0, 1, 2] rfl) h
        · replace h := hx_in c25 h
          exact B_64 σ x10 _ _ ls hP hD hS (lv_sub hl [0, 1] rfl) h
  refine W.eq (g2 := F0 m 0 ((lg_sl [.ref (bd 0), .int x1, .int x2] ++ List.replicate (7 - (lg_sl [.ref (bd 0), .int x1, .int x2]).length) Slot.unset).toArray) []) (by rw [hargs, lg_entry_eq]) ?_
  have hl := lv_entry ([.ref (bd 0), .int x1, .int x2]) (n := 7) (Nat.le_of_ble_eq_true rfl)
  generalize (lg_sl ([.ref (bd 0), .int x1, .int x2]) ++ List.replicate (7 - (lg_sl ([.ref (bd 0), .int x1, .int x2])).length) Slot.unset).toArray = ls at hl ⊢
  have hl : lv_has ls 7 [(0, .ref (bd 0)), (1, .int x1), (2, .int x2)] := hl
  rw [f_M_end] at h
  refine lv_aload_n hx hb d_M_end_0 rfl (lv_at hl 0 rfl) ?_
  refine va_get (D := D) (ci := 5) (v := .int (hm_hasNan τ)) (C := "HalfFloatsModel") (T := T_M) (N := 21) hx hb hts (hx_up in_M) hown hK hP (0) hm_at_M rfl 13 (by decide) (hts _ (hx_cons _ k_569)) (fun _ h9 => h9) rfl d_M_end_1 ?_
  refine lv_if_eq (tgt := 13) hx hb d_M_end_4 (by decide) (fun c3 => ?_) (fun c3 => ?_)
  · replace h := hx_ip c3 h
    refine lv_aload_n hx hb d_M_end_13 rfl (lv_at hl 0 rfl) ?_
    refine va_get (D := D) (ci := 5) (v := .int (hm_isWrong τ)) (C := "HalfFloatsModel") (T := T_M) (N := 21) hx hb hts (hx_up in_M) hown hK hP (0) hm_at_M rfl 14 (by decide) (hts _ (hx_cons _ k_570)) (fun _ h9 => h9) rfl d_M_end_14 ?_
    refine lv_if_ne (tgt := 34) hx hb d_M_end_17 (by decide) (fun c4 => ?_) (fun c4 => ?_)
    · replace h := hx_in c4 h
      exact B_34 τ x1 _ _ ls hP hD hS (lv_sub hl [0, 1] rfl) h
    · replace h := hx_ip c4 h
      refine lv_aload_n hx hb d_M_end_20 rfl (lv_at hl 0 rfl) ?_
      refine va_get (D := D) (ci := 5) (v := .int (hm_hasAbove τ)) (C := "HalfFloatsModel") (T := T_M) (N := 21) hx hb hts (hx_up in_M) hown hK hP (0) hm_at_M rfl 15 (by decide) (hts _ (hx_cons _ k_571)) (fun _ h9 => h9) rfl d_M_end_21 ?_
      refine lv_if_eq (tgt := 50) hx hb d_M_end_24 (by decide) (fun c9 => ?_) (fun c9 => ?_)
      · replace h := hx_ip c9 h
        exact B_50 τ x1 x2 _ _ ls hP hD hS (lv_sub hl [0, 1, 2] rfl) h
      · replace h := hx_in c9 h
        refine lv_aload_n hx hb d_M_end_27 rfl (lv_at hl 0 rfl) ?_
        refine va_get (D := D) (ci := 5) (v := .int (hm_hasBelow τ)) (C := "HalfFloatsModel") (T := T_M) (N := 21) hx hb hts (hx_up in_M) hown hK hP (0) hm_at_M rfl 16 (by decide) (hts _ (hx_cons _ k_572)) (fun _ h9 => h9) rfl d_M_end_28 ?_
        refine lv_if_eq (tgt := 50) hx hb d_M_end_31 (by decide) (fun c66 => ?_) (fun c66 => ?_)
        · replace h := hx_ip c66 h
          exact B_50 τ x1 x2 _ _ ls hP hD hS (lv_sub hl [0, 1, 2] rfl) h
        · replace h := hx_in c66 h
          exact B_34 τ x1 _ _ ls hP hD hS (lv_sub hl [0, 1] rfl) h
  · replace h := hx_in c3 h
    refine lv_aload_n hx hb d_M_end_7 rfl (lv_at hl 0 rfl) ?_
    refine lv_iload_n hx hb d_M_end_8 rfl (lv_at hl 1 rfl) ?_
    obtain ⟨r67, er67, h⟩ := hx_b1s h
    refine hx_rd (va_runV (As := [.int x1]) (rest := []) ⟨hx, hb, hml, hown, hts⟩ (c_M_nan l D T3 bd τ x1 _ er67) (cwV 1 hts (hx_gV hx_cons k_647 k_649 k_25 k_55 k_650) rfl rfl rfl (by decide +kernel) ⟨Nat.le_of_ble_eq_true rfl, Nat.le_of_ble_eq_true rfl⟩) (hx_preV (va_recv hK hP (ci := 5) (q0 := 0) rfl hm_at_M) hP hK) rfl rfl hl.1 rfl (lv_room (Nat.le_of_ble_eq_true rfl)) d_M_end_9 ⟨Nat.zero_le _, Nat.zero_le _⟩) ?_
    exact W.lret hx hb hr (fun t ht hW => hx_endj h ht hW hP hK hD hS) hS.2.2 d_M_end_12
