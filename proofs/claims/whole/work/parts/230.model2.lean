def f_M_turned (τ : hm_S) (x1 : Int32) (x2 : Int64) (x3 : Int32) (x4 : Int32) : Option (Int64 × hm_S) := hx_b1 (f_M_begin τ) (fun q5 => hx_b1 (f_M_value q5 x1 x2 (0 : Int32) (0 : Int32)) (fun q6 => hx_b2 (f_M_end q6 x3 x4) (fun r8 q7 => some (r8, q7))))
def f_M_turn (τ : hm_S) (x1 : Int32) (x2 : Int32) (x3 : Int32) (x4 : Int32) : Option (Int64 × hm_S) := hx_b1 (f_M_isFormat x1) (fun r5 => (if r5 = 0 then some ((-2 : Int64), τ) else hx_b1 (f_M_isFormat x3) (fun r7 => (if r7 = 0 then some ((-2 : Int64), τ) else hx_b1 (f_M_isWay x4) (fun r9 => (if r9 = 0 then some ((-2 : Int64), τ) else hx_b1 (f_M_isPattern τ x1 x2) (fun r11 => (if r11 = 0 then some ((-2 : Int64), τ) else hx_b1 (f_M_pattern τ x1 x2) (fun r13 => hx_b2 (f_M_turned τ x1 r13 x3 x4) (fun r15 q14 => some (r15, q14)))))))))))
def f_M_reckon_139 (σ : hm_S) (x34 : Int32) (x35 : Int32) : Option (Int64 × hm_S) := hx_b2 (f_M_end σ x34 x35) (fun r37 q36 => some (r37, q36))
def f_M_reckon_135 (σ : hm_S) (x28 : Int32) (x29 : Int32) (x30 : Int32) (x31 : Int64) (x32 : Int32) : Option (Int64 × hm_S) := hx_b1 (f_M_value σ x30 x31 x32 (0 : Int32)) (fun q33 => (f_M_reckon_139 q33 x28 x29))
def f_M_reckon (τ : hm_S) (x1 : Int32) (x2 : Int32) (x3 : Int32) (x4 : Int32) (x5 : Int32) (x6 : Int32) (x7 : Int32) : Option (Int64 × hm_S) := hx_b1 (f_M_isIn x1.toInt64 (0 : Int64) (2 : Int64)) (fun r8 => (if r8 = 0 then some ((-2 : Int64), τ) else hx_b1 (f_M_isFormat x2) (fun r10 => (if r10 = 0 then some ((-2 : Int64), τ) else hx_b1 (f_M_isFormat x4) (fun r12 => (if r12 = 0 then some ((-2 : Int64), τ) else hx_b1 (f_M_isFormat x6) (fun r14 => (if r14 = 0 then some ((-2 : Int64), τ) else hx_b1 (f_M_isWay x7) (fun r16 => (if r16 = 0 then some ((-2 : Int64), τ) else hx_b1 (f_M_isPattern τ x2 x3) (fun r18 => (if r18 = 0 then some ((-2 : Int64), τ) else hx_b1 (f_M_isPattern τ x4 x5) (fun r20 => (if r20 = 0 then some ((-2 : Int64), τ) else hx_b1 (f_M_begin τ) (fun q22 => (if x1 = (2 : Int32) then hx_b1 (f_M_pattern q22 x2 x3) (fun r38 => hx_b1 (f_M_pattern q22 x4 x5) (fun r39 => hx_b1 (f_M_product q22 x2 r38 x4 r39 (0 : Int32)) (fun q40 => (f_M_reckon_139 q40 x6 x7)))) else hx_b1 (f_M_pattern q22 x2 x3) (fun r24 => hx_b1 (f_M_value q22 x2 r24 (0 : Int32) (0 : Int32)) (fun q25 => hx_b1 (f_M_pattern q25 x4 x5) (fun r26 => (if x1 = (1 : Int32) then (f_M_reckon_135 q25 x6 x7 x4 r26 (1 : Int32)) else (f_M_reckon_135 q25 x6 x7 x4 r26 (0 : Int32))))))))))))))))))))))
def f_M_fused (τ : hm_S) (x1 : Int32) (x2 : Int32) (x3 : Int32) (x4 : Int32) (x5 : Int32) (x6 : Int32) : Option (Int64 × hm_S) := hx_b1 (f_M_isFormat x1) (fun r7 => (if r7 = 0 then some ((-2 : Int64), τ) else hx_b1 (f_M_isFormat x4) (fun r9 => (if r9 = 0 then some ((-2 : Int64), τ) else hx_b1 (f_M_isWay x6) (fun r11 => (if r11 = 0 then some ((-2 : Int64), τ) else hx_b1 (f_M_isPattern τ x1 x2) (fun r13 => (if r13 = 0 then some ((-2 : Int64), τ) else hx_b1 (f_M_isPattern τ x1 x3) (fun r15 => (if r15 = 0 then some ((-2 : Int64), τ) else hx_b1 (f_M_isPattern τ x4 x5) (fun r17 => (if r17 = 0 then some ((-2 : Int64), τ) else hx_b1 (f_M_begin τ) (fun q19 => hx_b1 (f_M_pattern q19 x1 x2) (fun r20 => hx_b1 (f_M_pattern q19 x1 x3) (fun r21 => hx_b1 (f_M_product q19 x1 r20 x1 r21 (0 : Int32)) (fun q22 => hx_b1 (f_M_pattern q22 x4 x5) (fun r23 => hx_b1 (f_M_value q22 x4 r23 (0 : Int32) (0 : Int32)) (fun q24 => hx_b2 (f_M_end q24 x4 x6) (fun r26 q25 => some (r26, q25))))))))))))))))))))
def f_M_compare_139 (σ : hm_S) (x28 : Int32) (x29 : Int32) (x30 : Int64) (x31 : Int64) (x32 : Int32) (x33 : Int32) : Option (Int32 × hm_S) := (if x32 = x33 then hx_b1 (f_M_begin σ) (fun q35 => hx_b1 (f_M_value q35 x28 x30 (0 : Int32) (0 : Int32)) (fun q36 => hx_b1 (f_M_value q36 x29 x31 (1 : Int32) (0 : Int32)) (fun q37 => (if x32 = 0 then hx_b1 (f_M_bitAt q37 (767 : Int32)) (fun r39 => (if r39 = (1 : Int32) then some ((-1 : Int32), q37) else hx_b1 (f_M_hasLower q37 (768 : Int32)) (fun r41 => (if r41 = 0 then some ((0 : Int32), q37) else some ((1 : Int32), q37))))) else some ((0 : Int32), q37))))) else (if x33 ≤ x32 then some ((1 : Int32), σ) else some ((-1 : Int32), σ)))
def f_M_compare_107 (σ : hm_S) (x21 : Int32) (x22 : Int32) (x23 : Int64) (x24 : Int64) (x25 : Int32) : Option (Int32 × hm_S) := hx_b1 (f_M_sortOf σ x22 x24) (fun r26 => (if r26 = (3 : Int32) then hx_b1 (f_M_isBelow σ x22 x24) (fun r44 => (if r44 = 0 then (f_M_compare_139 σ x21 x22 x23 x24 x25 (1 : Int32)) else (f_M_compare_139 σ x21 x22 x23 x24 x25 (-1 : Int32)))) else (f_M_compare_139 σ x21 x22 x23 x24 x25 (0 : Int32))))
def f_M_compare (τ : hm_S) (x1 : Int32) (x2 : Int32) (x3 : Int32) (x4 : Int32) : Option (Int32 × hm_S) := hx_b1 (f_M_isFormat x1) (fun r5 => (if r5 = 0 then some ((-2 : Int32), τ) else hx_b1 (f_M_isFormat x3) (fun r7 => (if r7 = 0 then some ((-2 : Int32), τ) else hx_b1 (f_M_isPattern τ x1 x2) (fun r9 => (if r9 = 0 then some ((-2 : Int32), τ) else hx_b1 (f_M_isPattern τ x3 x4) (fun r11 => (if r11 = 0 then some ((-2 : Int32), τ) else hx_b1 (f_M_pattern τ x1 x2) (fun r13 => hx_b1 (f_M_pattern τ x3 x4) (fun r14 => hx_b1 (f_M_sortOf τ x1 r13) (fun r15 => (if r15 = (4 : Int32) then some ((2 : Int32), τ) else hx_b1 (f_M_sortOf τ x3 r14) (fun r17 => (if r17 = (4 : Int32) then some ((2 : Int32), τ) else hx_b1 (f_M_sortOf τ x1 r13) (fun r19 => (if r19 = (3 : Int32) then hx_b1 (f_M_isBelow τ x1 r13) (fun r46 => (if r46 = 0 then (f_M_compare_107 τ x1 x3 r13 r14 (1 : Int32)) else (f_M_compare_107 τ x1 x3 r13 r14 (-1 : Int32)))) else (f_M_compare_107 τ x1 x3 r13 r14 (0 : Int32))))))))))))))))))
def f_M_flags (τ : hm_S) : Option (Int32 × hm_S) := hx_n (hm_flags τ) (fun x1 => hx_n (hm_flags_s τ (0 : Int32)) (fun σ2 => some (x1, σ2)))
def f_M_seed (τ : hm_S) (x1 : Int32) : Option (Int32 × hm_S) := hx_b1 (f_M_isIn x1.toInt64 (1 : Int64) (2147483646 : Int64)) (fun r2 => (if r2 = 0 then some ((-2 : Int32), τ) else hx_n ((hm_state τ).toInt32) (fun x4 => hx_n (hm_state_s τ x1.toInt64) (fun σ5 => some (x4, σ5)))))
def f_M_clear (τ : hm_S) (x1 : Int32) (x2 : Int32) : Option (Int32 × hm_S) := hx_b1 (f_M_isIn x1.toInt64 (0 : Int64) (1 : Int64)) (fun r3 => (if r3 = 0 then some ((-2 : Int32), τ) else hx_b1 (f_M_isFormat x2) (fun r5 => (if r5 = 0 then some ((-2 : Int32), τ) else (if x1 < 0 ∨ 2 ≤ x1.toNatClampNeg then none else hx_n (hm_rM τ x1.toNatClampNeg) (fun x8 => (if x1 < 0 ∨ 2 ≤ x1.toNatClampNeg then none else hx_n (hm_rM_s τ x1.toNatClampNeg (0 : Int32)) (fun σ10 => (if x1 < 0 ∨ 2 ≤ x1.toNatClampNeg then none else hx_n (hm_rF_s σ10 x1.toNatClampNeg x2) (fun σ12 => some (x8, σ12)))))))))))
def f_M_push (τ : hm_S) (x1 : Int32) (x2 : Int32) : Option (Int32 × hm_S) := hx_b1 (f_M_isIn x1.toInt64 (0 : Int64) (1 : Int64)) (fun r3 => (if r3 = 0 then some ((-2 : Int32), τ) else (if x1 < 0 ∨ 2 ≤ x1.toNatClampNeg then none else hx_b1 (f_M_isPattern τ (hm_rF τ x1.toNatClampNeg) x2) (fun r6 => (if r6 = 0 then some ((-2 : Int32), τ) else (if x1 < 0 ∨ 2 ≤ x1.toNatClampNeg then none else (if (hm_rM τ x1.toNatClampNeg) = (32 : Int32) then some ((-3 : Int32), τ) else (if x1 < 0 ∨ 2 ≤ x1.toNatClampNeg then none else (if x1 < 0 ∨ 2 ≤ x1.toNatClampNeg then none else hx_b1 (f_M_pattern τ (hm_rF τ x1.toNatClampNeg) x2) (fun r12 => (if (((32 : Int32) * x1) + (hm_rM τ x1.toNatClampNeg)) < 0 ∨ 64 ≤ (((32 : Int32) * x1) + (hm_rM τ x1.toNatClampNeg)).toNatClampNeg then none else hx_n (hm_row_s τ (((32 : Int32) * x1) + (hm_rM τ x1.toNatClampNeg)).toNatClampNeg r12) (fun σ14 => (if x1 < 0 ∨ 2 ≤ x1.toNatClampNeg then none else hx_n ((hm_rM σ14 x1.toNatClampNeg) + (1 : Int32)) (fun x16 => (if x1 < 0 ∨ 2 ≤ x1.toNatClampNeg then none else hx_n (hm_rM_s σ14 x1.toNatClampNeg x16) (fun σ18 => (if x1 < 0 ∨ 2 ≤ x1.toNatClampNeg then none else some ((hm_rM σ18 x1.toNatClampNeg), σ18))))))))))))))))))
def f_M_at (τ : hm_S) (x1 : Int32) (x2 : Int32) : Option Int64 := hx_b1 (f_M_isIn x1.toInt64 (0 : Int64) (1 : Int64)) (fun r3 => (if r3 = 0 then some (-2 : Int64) else (if x1 < 0 ∨ 2 ≤ x1.toNatClampNeg then none else hx_b1 (f_M_isIn x2.toInt64 (0 : Int64) (((hm_rM τ x1.toNatClampNeg) - (1 : Int32)).toInt64)) (fun r6 => (if r6 = 0 then some (-2 : Int64) else (if (((32 : Int32) * x1) + x2) < 0 ∨ 64 ≤ (((32 : Int32) * x1) + x2).toNatClampNeg then none else some (hm_row τ (((32 : Int32) * x1) + x2).toNatClampNeg)))))))
def f_M_count_44 (τ : hm_S) (x3 : Int32) : Option Int32 := (if x3 < 0 ∨ 2 ≤ x3.toNatClampNeg then none else some (hm_rM τ x3.toNatClampNeg))
def f_M_count_51 (τ : hm_S) (x7 : Int32) : Option Int32 := (if (x7 - (2 : Int32)) < 0 ∨ 2 ≤ (x7 - (2 : Int32)).toNatClampNeg then none else some (hm_rF τ (x7 - (2 : Int32)).toNatClampNeg))
def f_M_count (τ : hm_S) (x1 : Int32) : Option Int32 := (if x1 = 0 then (f_M_count_44 τ x1) else (if x1 = 1 then (f_M_count_44 τ x1) else (if x1 = 2 then (f_M_count_51 τ x1) else (if x1 = 3 then (f_M_count_51 τ x1) else (if x1 = 4 then some (hm_scaleS τ) else (if x1 = 5 then some (hm_streak τ) else (if x1 = 6 then some (hm_growth τ) else some (1000000 : Int32))))))))
def f_M_sum_339 (K246 : hm_S → Int32 → Int32 → Int32 → Option (Int64 × hm_S)) (K258 : hm_S → Int32 → Int32 → Int32 → Int32 → Int32 → Option (Int64 × hm_S)) (σ : hm_S) (x43 : Int32) (x44 : Int32) (x45 : Int32) (x46 : Int32) (x47 : Int32) : Option (Int64 × hm_S) := hx_n (x46 + 1) (fun x48 => hx_n (x47 + 2) (fun x49 => (K258 σ x43 x44 x45 x48 x49)))
def f_M_sum_258 (K246 : hm_S → Int32 → Int32 → Int32 → Option (Int64 × hm_S)) : Nat → hm_S → Int32 → Int32 → Int32 → Int32 → Int32 → Option (Int64 × hm_S)
  | 0, _, _, _, _, _, _ => none
  | n + 1, σ, x32, x33, x34, x35, x36 => (if x34 ≤ x36 then (K246 σ x32 x33 x35) else (if x34 ≤ (x36 + (1 : Int32)) then (if x36 < 0 ∨ 32 ≤ x36.toNatClampNeg then none else hx_n (hm_tree σ x36.toNatClampNeg) (fun x40 => (if x35 < 0 ∨ 32 ≤ x35.toNatClampNeg then none else hx_n (hm_tree_s σ x35.toNatClampNeg x40) (fun σ42 => (f_M_sum_339 K246 (f_M_sum_258 K246 n) σ42 x32 x33 x34 x35 x36))))) else hx_b1 (f_M_begin σ) (fun q50 => (if x36 < 0 ∨ 32 ≤ x36.toNatClampNeg then none else hx_b1 (f_M_value q50 x32 (hm_tree q50 x36.toNatClampNeg) (0 : Int32) (0 : Int32)) (fun q52 => (if (x36 + (1 : Int32)) < 0 ∨ 32 ≤ (x36 + (1 : Int32)).toNatClampNeg then none else hx_b1 (f_M_value q52 x32 (hm_tree q52 (x36 + (1 : Int32)).toNatClampNeg) (0 : Int32) (0 : Int32)) (fun q54 => hx_b2 (f_M_end q54 x32 x33) (fun r56 q55 => (if x35 < 0 ∨ 32 ≤ x35.toNatClampNeg then none else hx_n (hm_tree_s q55 x35.toNatClampNeg r56) (fun σ58 => (f_M_sum_339 K246 (f_M_sum_258 K246 n) σ58 x32 x33 x34 x35 x36)))))))))))
def f_M_sum_246 : Nat → hm_S → Int32 → Int32 → Int32 → Option (Int64 × hm_S)
  | 0, _, _, _, _ => none
  | n + 1, σ, x27, x28, x29 => (if x29 ≤ (1 : Int32) then (if (0 : Int32) < 0 ∨ 32 ≤ (0 : Int32).toNatClampNeg then none else some ((hm_tree σ (0 : Int32).toNatClampNeg), σ)) else (f_M_sum_258 (f_M_sum_246 n) hx_fuel σ x27 x28 x29 (0 : Int32) (0 : Int32)))
def f_M_sum_205 : Nat → hm_S → Int32 → Int32 → Int32 → Int32 → Int32 → Int32 → Option (Int64 × hm_S)
  | 0, _, _, _, _, _, _, _ => none
  | n + 1, σ, x20, x21, x22, x23, x24, x25 => (if x24 ≤ x25 then (f_M_sum_246 hx_fuel σ x21 x22 x24) else (if (((32 : Int32) * x20) + x25) < 0 ∨ 64 ≤ (((32 : Int32) * x20) + x25).toNatClampNeg then none else hx_b2 (f_M_turned σ x23 (hm_row σ (((32 : Int32) * x20) + x25).toNatClampNeg) x21 x22) (fun r61 q60 => (if x25 < 0 ∨ 32 ≤ x25.toNatClampNeg then none else hx_n (hm_tree_s q60 x25.toNatClampNeg r61) (fun σ63 => hx_n (x25 + 1) (fun x64 => ((f_M_sum_205 n) σ63 x20 x21 x22 x23 x24 x64)))))))
def f_M_sum_144 : Nat → hm_S → Int32 → Int32 → Int32 → Int32 → Int32 → Int64 → Int32 → Option (Int64 × hm_S)
  | 0, _, _, _, _, _, _, _, _ => none
  | n + 1, σ, x68, x69, x70, x71, x72, x73, x74 => (if x72 ≤ x74 then some (x73, σ) else hx_b1 (f_M_begin σ) (fun q76 => hx_b1 (f_M_value q76 x69 x73 (0 : Int32) (0 : Int32)) (fun q77 => (if (((32 : Int32) * x68) + x74) < 0 ∨ 64 ≤ (((32 : Int32) * x68) + x74).toNatClampNeg then none else hx_b1 (f_M_value q77 x71 (hm_row q77 (((32 : Int32) * x68) + x74).toNatClampNeg) (0 : Int32) (0 : Int32)) (fun q79 => hx_b2 (f_M_end q79 x69 x70) (fun r81 q80 => hx_n (x74 + 1) (fun x82 => ((f_M_sum_144 n) q80 x68 x69 x70 x71 x72 r81 x82))))))))
def f_M_sum_69 : Nat → hm_S → Int32 → Int32 → Int32 → Int32 → Int32 → Int32 → Option (Int64 × hm_S)
  | 0, _, _, _, _, _, _, _ => none
  | n + 1, σ, x84, x85, x86, x87, x88, x89 => (if x88 ≤ x89 then hx_b2 (f_M_end σ x85 x86) (fun r92 q91 => some (r92, q91)) else (if (((32 : Int32) * x84) + x89) < 0 ∨ 64 ≤ (((32 : Int32) * x84) + x89).toNatClampNeg then none else hx_b1 (f_M_value σ x87 (hm_row σ (((32 : Int32) * x84) + x89).toNatClampNeg) (0 : Int32) (0 : Int32)) (fun q94 => hx_n (x89 + 1) (fun x95 => ((f_M_sum_69 n) q94 x84 x85 x86 x87 x88 x95)))))
def f_M_sum (τ : hm_S) (x1 : Int32) (x2 : Int32) (x3 : Int32) (x4 : Int32) : Option (Int64 × hm_S) := hx_b1 (f_M_isIn x1.toInt64 (0 : Int64) (1 : Int64)) (fun r5 => (if r5 = 0 then some ((-2 : Int64), τ) else hx_b1 (f_M_isIn x2.toInt64 (0 : Int64) (2 : Int64)) (fun r7 => (if r7 = 0 then some ((-2 : Int64), τ) else hx_b1 (f_M_isFormat x3) (fun r9 => (if r9 = 0 then some ((-2 : Int64), τ) else hx_b1 (f_M_isWay x4) (fun r11 => (if r11 = 0 then some ((-2 : Int64), τ) else (if x1 < 0 ∨ 2 ≤ x1.toNatClampNeg then none else hx_n (hm_rF τ x1.toNatClampNeg) (fun x14 => (if x1 < 0 ∨ 2 ≤ x1.toNatClampNeg then none else hx_n (hm_rM τ x1.toNatClampNeg) (fun x16 => (if x2 = (2 : Int32) then hx_b1 (f_M_begin τ) (fun q83 => (f_M_sum_69 hx_fuel q83 x1 x3 x4 x14 x16 (0 : Int32))) else (if x16 = 0 then some ((0 : Int64), τ) else (if x2 = 0 then (if ((32 : Int32) * x1) < 0 ∨ 64 ≤ ((32 : Int32) * x1).toNatClampNeg then none else hx_b2 (f_M_turned τ x14 (hm_row τ ((32 : Int32) * x1).toNatClampNeg) x3 x4) (fun r67 q66 => (f_M_sum_144 hx_fuel q66 x1 x3 x4 x14 x16 r67 (1 : Int32)))) else (f_M_sum_205 hx_fuel τ x1 x3 x4 x14 x16 (0 : Int32)))))))))))))))))
def f_M_shorter (τ : hm_S) : Option Int32 := (if (0 : Int32) < 0 ∨ 2 ≤ (0 : Int32).toNatClampNeg then none else (if (1 : Int32) < 0 ∨ 2 ≤ (1 : Int32).toNatClampNeg then none else (if (hm_rM τ (1 : Int32).toNatClampNeg) ≤ (hm_rM τ (0 : Int32).toNatClampNeg) then (if (1 : Int32) < 0 ∨ 2 ≤ (1 : Int32).toNatClampNeg then none else some (hm_rM τ (1 : Int32).toNatClampNeg)) else (if (0 : Int32) < 0 ∨ 2 ≤ (0 : Int32).toNatClampNeg then none else some (hm_rM τ (0 : Int32).toNatClampNeg)))))
def f_M_dot_208 (K116 : hm_S → Int32 → Int32 → Int32 → Int32 → Int32 → Int64 → Int32 → Option (Int64 × hm_S)) (σ : hm_S) (x33 : Int32) (x34 : Int32) (x35 : Int32) (x36 : Int32) (x37 : Int32) (x38 : Int64) (x39 : Int32) (x40 : Int64) : Option (Int64 × hm_S) := hx_b1 (f_M_begin σ) (fun q41 => hx_b1 (f_M_value q41 x35 x38 (0 : Int32) (0 : Int32)) (fun q42 => hx_b1 (f_M_value q42 x34 x40 (0 : Int32) (0 : Int32)) (fun q43 => hx_b2 (f_M_end q43 x35 x36) (fun r45 q44 => hx_n (x39 + x33) (fun x46 => (K116 q44 x33 x34 x35 x36 x37 r45 x46))))))
def f_M_dot_130 (K116 : hm_S → Int32 → Int32 → Int32 → Int32 → Int32 → Int64 → Int32 → Option (Int64 × hm_S)) : Nat → hm_S → Int32 → Int32 → Int32 → Int32 → Int32 → Int64 → Int32 → Int64 → Int32 → Option (Int64 × hm_S)
  | 0, _, _, _, _, _, _, _, _, _, _ => none
  | n + 1, σ, x23, x24, x25, x26, x27, x28, x29, x30, x31 => (if x27 ≤ x31 then (f_M_dot_208 K116 σ x23 x24 x25 x26 x27 x28 x29 x30) else (if (x29 + x23) ≤ x31 then (f_M_dot_208 K116 σ x23 x24 x25 x26 x27 x28 x29 x30) else hx_b1 (f_M_begin σ) (fun q48 => hx_b1 (f_M_value q48 x24 x30 (0 : Int32) (0 : Int32)) (fun q49 => (if (0 : Int32) < 0 ∨ 2 ≤ (0 : Int32).toNatClampNeg then none else (if x31 < 0 ∨ 64 ≤ x31.toNatClampNeg then none else (if (1 : Int32) < 0 ∨ 2 ≤ (1 : Int32).toNatClampNeg then none else (if ((32 : Int32) + x31) < 0 ∨ 64 ≤ ((32 : Int32) + x31).toNatClampNeg then none else hx_b1 (f_M_product q49 (hm_rF q49 (0 : Int32).toNatClampNeg) (hm_row q49 x31.toNatClampNeg) (hm_rF q49 (1 : Int32).toNatClampNeg) (hm_row q49 ((32 : Int32) + x31).toNatClampNeg) (0 : Int32)) (fun q54 => hx_b2 (f_M_end q54 x24 x26) (fun r56 q55 => hx_n (x31 + 1) (fun x57 => ((f_M_dot_130 K116 n) q55 x23 x24 x25 x26 x27 x28 x29 r56 x57))))))))))))
def f_M_dot_116 : Nat → hm_S → Int32 → Int32 → Int32 → Int32 → Int32 → Int64 → Int32 → Option (Int64 × hm_S)
  | 0, _, _, _, _, _, _, _, _ => none
  | n + 1, σ, x15, x16, x17, x18, x19, x20, x21 => (if x19 ≤ x21 then some (x20, σ) else (f_M_dot_130 (f_M_dot_116 n) hx_fuel σ x15 x16 x17 x18 x19 x20 x21 (0 : Int64) x21))
def f_M_dot_55 : Nat → hm_S → Int32 → Int32 → Int32 → Int32 → Option (Int64 × hm_S)
  | 0, _, _, _, _, _ => none
  | n + 1, σ, x59, x60, x61, x62 => (if x61 ≤ x62 then hx_b2 (f_M_end σ x59 x60) (fun r65 q64 => some (r65, q64)) else (if (0 : Int32) < 0 ∨ 2 ≤ (0 : Int32).toNatClampNeg then none else (if x62 < 0 ∨ 64 ≤ x62.toNatClampNeg then none else (if (1 : Int32) < 0 ∨ 2 ≤ (1 : Int32).toNatClampNeg then none else (if ((32 : Int32) + x62) < 0 ∨ 64 ≤ ((32 : Int32) + x62).toNatClampNeg then none else hx_b1 (f_M_product σ (hm_rF σ (0 : Int32).toNatClampNeg) (hm_row σ x62.toNatClampNeg) (hm_rF σ (1 : Int32).toNatClampNeg) (hm_row σ ((32 : Int32) + x62).toNatClampNeg) (0 : Int32)) (fun q70 => hx_n (x62 + 1) (fun x71 => ((f_M_dot_55 n) q70 x59 x60 x61 x71))))))))
def f_M_dot (τ : hm_S) (x1 : Int32) (x2 : Int32) (x3 : Int32) (x4 : Int32) : Option (Int64 × hm_S) := hx_b1 (f_M_isIn x1.toInt64 (0 : Int64) (32 : Int64)) (fun r5 => (if r5 = 0 then some ((-2 : Int64), τ) else hx_b1 (f_M_isFormat x2) (fun r7 => (if r7 = 0 then some ((-2 : Int64), τ) else hx_b1 (f_M_isFormat x3) (fun r9 => (if r9 = 0 then some ((-2 : Int64), τ) else hx_b1 (f_M_isWay x4) (fun r11 => (if r11 = 0 then some ((-2 : Int64), τ) else hx_b1 (f_M_shorter τ) (fun r13 => (if x1 = 0 then hx_b1 (f_M_begin τ) (fun q58 => (f_M_dot_55 hx_fuel q58 x3 x4 r13 (0 : Int32))) else (f_M_dot_116 hx_fuel τ x1 x2 x3 x4 r13 (0 : Int64) (0 : Int32))))))))))))
def f_M_powerBelow_16 : Nat → hm_S → Int64 → Int32 → Option Int32
  | 0, _, _, _ => none
  | n + 1, τ, x5, x6 => (if (lg_cmp x5 (1 : Int64)) ≤ 0 then some x6 else hx_n (x5 >>> ((1 : Int32).toInt64 &&& 63)) (fun x8 => hx_n (x6 + 1) (fun x9 => ((f_M_powerBelow_16 n) τ x8 x9))))
def f_M_powerBelow (τ : hm_S) (x1 : Int32) (x2 : Int64) : Option Int32 := hx_b1 (f_M_wholeOf τ x1 x2) (fun r3 => hx_b1 (f_M_powerOf τ x1 x2) (fun r4 => (f_M_powerBelow_16 hx_fuel τ r3 r4)))
def f_M_scaleOf_87 (K7 : hm_S → Int32 → Int32 → Int32 → Int32 → Option Int32) (τ : hm_S) (x29 : Int32) (x30 : Int32) (x31 : Int32) (x32 : Int32) : Option Int32 := hx_n (x32 + 1) (fun x33 => (K7 τ x29 x30 x31 x33))
def f_M_scaleOf_84 (K7 : hm_S → Int32 → Int32 → Int32 → Int32 → Option Int32) (τ : hm_S) (x26 : Int32) (x27 : Int32) (x28 : Int32) : Option Int32 := (f_M_scaleOf_87 K7 τ x26 (1 : Int32) x28 x27)
def f_M_scaleOf_78 (K7 : hm_S → Int32 → Int32 → Int32 → Int32 → Option Int32) (τ : hm_S) (x23 : Int32) (x24 : Int32) (x25 : Int32) : Option Int32 := (f_M_scaleOf_84 K7 τ x23 x24 x25)
def f_M_scaleOf_49 (K7 : hm_S → Int32 → Int32 → Int32 → Int32 → Option Int32) (τ : hm_S) (x15 : Int32) (x16 : Int32) (x17 : Int32) (x18 : Int32) : Option Int32 := (if (0 : Int32) < 0 ∨ 2 ≤ (0 : Int32).toNatClampNeg then none else (if x18 < 0 ∨ 64 ≤ x18.toNatClampNeg then none else hx_b1 (f_M_powerBelow τ (hm_rF τ (0 : Int32).toNatClampNeg) (hm_row τ x18.toNatClampNeg)) (fun r21 => (if x16 = 0 then (f_M_scaleOf_78 K7 τ x15 x18 r21) else (if r21 ≤ x17 then (f_M_scaleOf_84 K7 τ x15 x18 x17) else (f_M_scaleOf_78 K7 τ x15 x18 r21))))))
def f_M_scaleOf_7 : Nat → hm_S → Int32 → Int32 → Int32 → Int32 → Option Int32
  | 0, _, _, _, _, _ => none
  | n + 1, τ, x2, x3, x4, x5 => (if (0 : Int32) < 0 ∨ 2 ≤ (0 : Int32).toNatClampNeg then none else (if (hm_rM τ (0 : Int32).toNatClampNeg) ≤ x5 then (if x3 = 0 then some (0 : Int32) else hx_b1 (f_M_limit τ x2) (fun r9 => hx_b1 (f_M_powerBelow τ x2 (r9 - (1 : Int64))) (fun r10 => some (x4 - r10)))) else (if (0 : Int32) < 0 ∨ 2 ≤ (0 : Int32).toNatClampNeg then none else (if x5 < 0 ∨ 64 ≤ x5.toNatClampNeg then none else hx_b1 (f_M_sortOf τ (hm_rF τ (0 : Int32).toNatClampNeg) (hm_row τ x5.toNatClampNeg)) (fun r13 => (if r13 = (1 : Int32) then (f_M_scaleOf_49 (f_M_scaleOf_7 n) τ x2 x3 x4 x5) else (if r13 = (2 : Int32) then (f_M_scaleOf_49 (f_M_scaleOf_7 n) τ x2 x3 x4 x5) else (f_M_scaleOf_87 (f_M_scaleOf_7 n) τ x2 x3 x4 x5))))))))
def f_M_scaleOf (τ : hm_S) (x1 : Int32) : Option Int32 := (f_M_scaleOf_7 hx_fuel τ x1 (0 : Int32) (0 : Int32) (0 : Int32))
def f_M_scale (τ : hm_S) (x1 : Int32) : Option Int32 := hx_b1 (f_M_isFormat x1) (fun r2 => (if r2 = 0 then some (1000000 : Int32) else hx_b1 (f_M_scaleOf τ x1) (fun r4 => some r4)))
def f_M_element (τ : hm_S) (x1 : Int32) (x2 : Int32) : Option (Int64 × hm_S) := hx_b1 (f_M_isFormat x1) (fun r3 => (if r3 = 0 then some ((-2 : Int64), τ) else (if (0 : Int32) < 0 ∨ 2 ≤ (0 : Int32).toNatClampNeg then none else hx_b1 (f_M_isIn x2.toInt64 (0 : Int64) (((hm_rM τ (0 : Int32).toNatClampNeg) - (1 : Int32)).toInt64)) (fun r6 => (if r6 = 0 then some ((-2 : Int64), τ) else hx_b1 (f_M_scaleOf τ x1) (fun r8 => hx_n (-r8) (fun x9 => hx_b1 (f_M_begin τ) (fun q10 => (if (0 : Int32) < 0 ∨ 2 ≤ (0 : Int32).toNatClampNeg then none else (if x2 < 0 ∨ 64 ≤ x2.toNatClampNeg then none else hx_b1 (f_M_value q10 (hm_rF q10 (0 : Int32).toNatClampNeg) (hm_row q10 x2.toNatClampNeg) (0 : Int32) x9) (fun q13 => hx_b2 (f_M_end q13 x1 (0 : Int32)) (fun r15 q14 => some (r15, q14)))))))))))))
def f_M_scaler (τ : hm_S) (x1 : Int32) (x2 : Int32) : Option (Int32 × hm_S) := hx_b1 (f_M_isIn x1.toInt64 (-60 : Int64) (60 : Int64)) (fun r3 => (if r3 = 0 then some ((-2 : Int32), τ) else hx_b1 (f_M_isIn x2.toInt64 (1 : Int64) (100 : Int64)) (fun r5 => (if r5 = 0 then some ((-2 : Int32), τ) else hx_n (hm_scaleS_s τ x1) (fun σ7 => hx_n (hm_growth_s σ7 x2) (fun σ8 => hx_n (hm_streak_s σ8 (0 : Int32)) (fun σ9 => some ((1 : Int32), σ9))))))))
def f_M_step_248 (σ : hm_S) (x20 : Int32) (x21 : Int32) : Option (Int32 × hm_S) := hx_n (x20 + x21) (fun x22 => hx_n (hm_scaleS_s σ x22) (fun σ23 => hx_n (hm_streak_s σ23 (0 : Int32)) (fun σ24 => some ((1 : Int32), σ24))))
def f_M_step_89 : Nat → hm_S → Int32 → Int32 → Int32 → Option (Int32 × hm_S)
  | 0, _, _, _, _ => none
  | n + 1, σ, x11, x12, x13 => hx_b1 (f_M_shorter σ) (fun r14 => (if r14 ≤ x13 then hx_n ((hm_streak σ) + (1 : Int32)) (fun x16 => hx_n (hm_streak_s σ x16) (fun σ17 => (if (hm_streak σ17) = (hm_growth σ17) then (if (60 : Int32) ≤ (hm_scaleS σ17) then (f_M_step_248 σ17 (hm_scaleS σ17) (0 : Int32)) else (f_M_step_248 σ17 (hm_scaleS σ17) (1 : Int32))) else some ((1 : Int32), σ17)))) else hx_b1 (f_M_begin σ) (fun q25 => (if (0 : Int32) < 0 ∨ 2 ≤ (0 : Int32).toNatClampNeg then none else (if x13 < 0 ∨ 64 ≤ x13.toNatClampNeg then none else hx_b1 (f_M_value q25 (hm_rF q25 (0 : Int32).toNatClampNeg) (hm_row q25 x13.toNatClampNeg) (0 : Int32) (-(hm_scaleS q25))) (fun q28 => hx_b2 (f_M_end q28 x12 (0 : Int32)) (fun r30 q29 => hx_b1 (f_M_begin q29) (fun q31 => hx_b1 (f_M_pattern q31 x12 x11) (fun r32 => hx_b1 (f_M_product q31 x12 r32 x12 r30 (1 : Int32)) (fun q33 => hx_b2 (f_M_end q33 x12 (0 : Int32)) (fun r35 q34 => hx_b1 (f_M_begin q34) (fun q36 => (if ((32 : Int32) + x13) < 0 ∨ 64 ≤ ((32 : Int32) + x13).toNatClampNeg then none else hx_b1 (f_M_value q36 x12 (hm_row q36 ((32 : Int32) + x13).toNatClampNeg) (0 : Int32) (0 : Int32)) (fun q38 => hx_b1 (f_M_value q38 x12 r35 (0 : Int32) (0 : Int32)) (fun q39 => hx_b2 (f_M_end q39 x12 (0 : Int32)) (fun r41 q40 => (if ((32 : Int32) + x13) < 0 ∨ 64 ≤ ((32 : Int32) + x13).toNatClampNeg then none else hx_n (hm_row_s q40 ((32 : Int32) + x13).toNatClampNeg r41) (fun σ43 => hx_n (x13 + 1) (fun x44 => ((f_M_step_89 n) σ43 x11 x12 x44))))))))))))))))))))
def f_M_step_70 (σ : hm_S) (x51 : Int32) (x52 : Int32) : Option (Int32 × hm_S) := hx_n (x51 - x52) (fun x53 => hx_n (hm_scaleS_s σ x53) (fun σ54 => hx_n (hm_streak_s σ54 (0 : Int32)) (fun σ55 => some ((0 : Int32), σ55))))
def f_M_step_21 : Nat → hm_S → Int32 → Int32 → Int32 → Option (Int32 × hm_S)
  | 0, _, _, _, _ => none
  | n + 1, σ, x6, x7, x8 => (if (0 : Int32) < 0 ∨ 2 ≤ (0 : Int32).toNatClampNeg then none else (if (hm_rM σ (0 : Int32).toNatClampNeg) ≤ x8 then (f_M_step_89 hx_fuel σ x6 x7 (0 : Int32)) else (if (0 : Int32) < 0 ∨ 2 ≤ (0 : Int32).toNatClampNeg then none else (if x8 < 0 ∨ 64 ≤ x8.toNatClampNeg then none else hx_b1 (f_M_sortOf σ (hm_rF σ (0 : Int32).toNatClampNeg) (hm_row σ x8.toNatClampNeg)) (fun r47 => (if r47 ≤ (2 : Int32) then hx_n (x8 + 1) (fun x49 => ((f_M_step_21 n) σ x6 x7 x49)) else (if (hm_scaleS σ) ≤ (-60 : Int32) then (f_M_step_70 σ (hm_scaleS σ) (0 : Int32)) else (f_M_step_70 σ (hm_scaleS σ) (1 : Int32)))))))))
def f_M_step (τ : hm_S) (x1 : Int32) : Option (Int32 × hm_S) := (if (1 : Int32) < 0 ∨ 2 ≤ (1 : Int32).toNatClampNeg then none else hx_n (hm_rF τ (1 : Int32).toNatClampNeg) (fun x3 => hx_b1 (f_M_isPattern τ x3 x1) (fun r4 => (if r4 = 0 then some ((-2 : Int32), τ) else (f_M_step_21 hx_fuel τ x1 x3 (0 : Int32))))))
def f_M_kept_117 (K59 : hm_S → Int32 → Int32 → Int32 → Int32 → Int32 → Int64 → Option (Int32 × hm_S)) (σ : hm_S) (x25 : Int32) (x26 : Int32) (x27 : Int32) (x28 : Int32) (x29 : Int32) (x30 : Int64) : Option (Int32 × hm_S) := hx_n (x30 + (1 : Int64)) (fun x31 => (K59 σ x25 x26 x27 x28 x29 x31))
def f_M_kept_114 (K59 : hm_S → Int32 → Int32 → Int32 → Int32 → Int32 → Int64 → Option (Int32 × hm_S)) (σ : hm_S) (x37 : Int32) (x38 : Int32) (x39 : Int32) (x40 : Int32) (x41 : Int64) (x42 : Int32) (x43 : Int32) : Option (Int32 × hm_S) := hx_n (x42 + x43) (fun x44 => (f_M_kept_117 K59 σ x37 x38 x39 x40 x44 x41))
def f_M_kept_59 : Nat → hm_S → Int32 → Int32 → Int32 → Int32 → Int32 → Int64 → Option (Int32 × hm_S)
  | 0, _, _, _, _, _, _, _ => none
  | n + 1, σ, x14, x15, x16, x17, x18, x19 => hx_b1 (f_M_signBit σ x14) (fun r20 => (if 0 ≤ (lg_cmp x19 ((2 : Int64) * r20)) then hx_n (hm_flags_s σ x17) (fun σ22 => some (x18, σ22)) else hx_b1 (f_M_sortOf σ x14 x19) (fun r23 => (if r23 = (4 : Int32) then (f_M_kept_117 (f_M_kept_59 n) σ x14 x15 x16 x17 x18 x19) else hx_b2 (f_M_turned σ x14 x19 x15 x16) (fun r33 q32 => hx_b2 (f_M_turned q32 x15 r33 x14 x16) (fun r35 q34 => (if (lg_cmp r35 x19) = 0 then (f_M_kept_114 (f_M_kept_59 n) q34 x14 x15 x16 x17 x19 x18 (1 : Int32)) else (f_M_kept_114 (f_M_kept_59 n) q34 x14 x15 x16 x17 x19 x18 (0 : Int32)))))))))
def f_M_kept (τ : hm_S) (x1 : Int32) (x2 : Int32) (x3 : Int32) : Option (Int32 × hm_S) := hx_b1 (f_M_isFormat x1) (fun r4 => (if r4 = 0 then some ((-2 : Int32), τ) else hx_b1 (f_M_isFormat x2) (fun r6 => (if r6 = 0 then some ((-2 : Int32), τ) else hx_b1 (f_M_isIn x3.toInt64 (0 : Int64) (4 : Int64)) (fun r8 => (if r8 = 0 then some ((-2 : Int32), τ) else (if x1 < 0 ∨ 4 ≤ x1.toNatClampNeg then none else (if x1 < 0 ∨ 4 ≤ x1.toNatClampNeg then none else (if ((hm_fE τ x1.toNatClampNeg) + (hm_fF τ x1.toNatClampNeg)) ≤ (11 : Int32) then hx_n (hm_flags τ) (fun x13 => (f_M_kept_59 hx_fuel τ x1 x2 x3 x13 (0 : Int32) (0 : Int64))) else some ((-2 : Int32), τ))))))))))
abbrev m_M_turned : Room := { frames := 5, cells := 0, slots := 0, locals := 133 }
set_option maxHeartbeats 4000000 in
set_option maxRecDepth 100000 in
theorem c_M_turned (l : Launch) (D : va_G) (T3 : hx_T3) (bd : Nat → Nat) (sz : Nat) (τ : hm_S) (x1 : Int32) (x2 : Int64) (x3 : Int32) (x4 : Int32) (r0 : Int64) (σ0 : hm_S) (h : f_M_turned τ x1 x2 x3 x4 = some (r0, σ0)) : hx_Wj l D (hx_ty T3) y_M_turned w_M_turned m_M_turned [.ref (bd 0), .int x1, .long x2, .int x3, .int x4] sz (hm_W T3 bd τ) r0 (hm_W T3 bd σ0) := by
  refine Met.ofW (cc := b_M_turned) (maxL := 6) (ret := (some .long)) (by decide) rfl ?_
  intro p e s m args below meth c s₁ B hml hv
  obtain ⟨hargs, hsz, hP, hK, hD0⟩ := hv
  have hx := B.exec
  have hb := B.bytes
  have hr := B.returns
  have hts := atoms_spec (ws := w_M_turned) B.pre
  have hown : s.vm.findClass "HalfFloatsModel" = some m.cls := findClass_of_methodNamed B.named
  have hlocks := B.notSynchronized
  subst hsz
  have hD := hD0.self (sz := s.heap.size)
  generalize hAe : va_A (hm_W T3 bd τ) s.heap.size = A at hD ⊢
  have hA : ∀ q : Nat, s.heap.size ≤ q → A q := fun q h => by rw [← hAe]; exact Or.inr h
  have hS : va_S A s.heap s.heap [] := va_S.rf
  refine W.eq (g2 := F0 m 0 ((lg_sl [.ref (bd 0), .int x1, .long x2, .int x3, .int x4] ++ List.replicate (6 - (lg_sl [.ref (bd 0), .int x1, .long x2, .int x3, .int x4]).length) Slot.unset).toArray) []) (by rw [hargs, lg_entry_eq]) ?_
  have hl := lv_entry ([.ref (bd 0), .int x1, .long x2, .int x3, .int x4]) (n := 6) (Nat.le_of_ble_eq_true rfl)
  generalize (lg_sl ([.ref (bd 0), .int x1, .long x2, .int x3, .int x4]) ++ List.replicate (6 - (lg_sl ([.ref (bd 0), .int x1, .long x2, .int x3, .int x4])).length) Slot.unset).toArray = ls at hl ⊢
  have hl : lv_has ls 6 [(0, .ref (bd 0)), (1, .int x1), (2, .long x2), (4, .int x3), (5, .int x4)] := hl
  rw [f_M_turned] at h
  refine lv_aload_n hx hb d_M_turned_0 rfl (lv_at hl 0 rfl) ?_
  obtain ⟨q5, eq5, h⟩ := hx_b1s h
  refine hx_wv (va_runV (As := []) (rest := []) ⟨hx, hb, hml, hown, hts⟩ (c_M_begin l D T3 bd _ τ _ eq5) (cwV 0 hts (hx_gV hx_cons k_699 k_701 k_34 k_55 k_702) rfl rfl rfl (by decide +kernel) ⟨Nat.le_of_ble_eq_true rfl, Nat.le_of_ble_eq_true rfl⟩) (hx_preVw (va_recv hK hP (ci := 5) (q0 := 0) rfl hm_at_M) hP hK hD) rfl rfl hl.1 rfl (lv_room (Nat.le_of_ble_eq_true rfl)) d_M_turned_1 ⟨Nat.zero_le _, Nat.zero_le _⟩) hD hS hA (fun H locs hP hD hS => ?_)
  refine lv_aload_n hx hb d_M_turned_4 rfl (lv_at hl 0 rfl) ?_
  refine lv_iload_n hx hb d_M_turned_5 rfl (lv_at hl 1 rfl) ?_
  refine lv_lload_n hx hb d_M_turned_6 rfl (lv_at hl 2 rfl) ?_
  refine lv_iconst (v := 0) hx hb d_M_turned_7 (by decide) ?_
  refine lv_iconst (v := 0) hx hb d_M_turned_8 (by decide) ?_
  obtain ⟨q6, eq6, h⟩ := hx_b1s h
  refine hx_wv (va_runV (As := [.int x1, .long x2, .int (0 : Int32), .int (0 : Int32)]) (rest := []) ⟨hx, hb, hml, hown, hts⟩ (c_M_value l D T3 bd _ q5 x1 x2 (0 : Int32) (0 : Int32) _ eq6) (cwV 4 hts (hx_gV hx_cons k_703 k_705 k_35 k_55 k_706) rfl rfl rfl (by decide +kernel) ⟨Nat.le_of_ble_eq_true rfl, Nat.le_of_ble_eq_true rfl⟩) (hx_preVw (va_recv hK hP (ci := 5) (q0 := 0) rfl hm_at_M) hP hK hD) rfl rfl hl.1 rfl (lv_room (Nat.le_of_ble_eq_true rfl)) d_M_turned_9 ⟨Nat.zero_le _, Nat.zero_le _⟩) hD hS hA (fun H locs hP hD hS => ?_)
  refine lv_aload_n hx hb d_M_turned_12 rfl (lv_at hl 0 rfl) ?_
  refine lv_iload hx hb d_M_turned_13 (lv_at hl 3 rfl) ?_
  refine lv_iload hx hb d_M_turned_15 (lv_at hl 4 rfl) ?_
  obtain ⟨r8, q7, eq7, h⟩ := hx_b2s h
  refine hx_wj (va_runV (As := [.int x3, .int x4]) (rest := []) ⟨hx, hb, hml, hown, hts⟩ (c_M_end l D T3 bd _ q6 x3 x4 _ _ eq7) (cwV 2 hts (hx_gV hx_cons k_716 k_718 k_38 k_55 k_719) rfl rfl rfl (by decide +kernel) ⟨Nat.le_of_ble_eq_true rfl, Nat.le_of_ble_eq_true rfl⟩) (hx_preVw (va_recv hK hP (ci := 5) (q0 := 0) rfl hm_at_M) hP hK hD) rfl rfl hl.1 rfl (lv_room (Nat.le_of_ble_eq_true rfl)) d_M_turned_17 ⟨Nat.zero_le _, Nat.zero_le _⟩) hD hS hA (fun H locs hP hD hS => ?_)
  exact W.lret hx hb hr (fun t ht hW => hx_endj h ht hW hP hK hD hS) hS.2.2 d_M_turned_20
abbrev m_M_turn : Room := { frames := 6, cells := 0, slots := 0, locals := 158 }
set_option maxHeartbeats 4000000 in
set_option maxRecDepth 100000 in
theorem c_M_turn (l : Launch) (D : va_G) (T3 : hx_T3) (bd : Nat → Nat) (sz : Nat) (τ : hm_S) (x1 : Int32) (x2 : Int32) (x3 : Int32) (x4 : Int32) (r0 : Int64) (σ0 : hm_S) (h : f_M_turn τ x1 x2 x3 x4 = some (r0, σ0)) : hx_Wj l D (hx_ty T3) y_M_turn w_M_turn m_M_turn [.ref (bd 0), .int x1, .int x2, .int x3, .int x4] sz (hm_W T3 bd τ) r0 (hm_W T3 bd σ0) := by
  refine Met.ofW (cc := b_M_turn) (maxL := 5) (ret := (some .long)) (by decide) rfl ?_
  intro p e s m args below meth c s₁ B hml hv
  obtain ⟨hargs, hsz, hP, hK, hD0⟩ := hv
  have hx := B.exec
  have hb := B.bytes
  have hr := B.returns
  have hts := atoms_spec (ws := w_M_turn) B.pre
  have hown : s.vm.findClass "HalfFloatsModel" = some m.cls := findClass_of_methodNamed B.named
  have hlocks := B.notSynchronized
  subst hsz
  have hD := hD0.self (sz := s.heap.size)
  generalize hAe : va_A (hm_W T3 bd τ) s.heap.size = A at hD ⊢
  have hA : ∀ q : Nat, s.heap.size ≤ q → A q := fun q h => by rw [← hAe]; exact Or.inr h
  have hS : va_S A s.heap s.heap [] := va_S.rf
  refine W.eq (g2 := F0 m 0 ((lg_sl [.ref (bd 0), .int x1, .int x2, .int x3, .int x4] ++ List.replicate (5 - (lg_sl [.ref (bd 0), .int x1, .int x2, .int x3, .int x4]).length) Slot.unset).toArray) []) (by rw [hargs, lg_entry_eq]) ?_
  have hl := lv_entry ([.ref (bd 0), .int x1, .int x2, .int x3, .int x4]) (n := 5) (Nat.le_of_ble_eq_true rfl)
  generalize (lg_sl ([.ref (bd 0), .int x1, .int x2, .int x3, .int x4]) ++ List.replicate (5 - (lg_sl ([.ref (bd 0), .int x1, .int x2, .int x3, .int x4])).length) Slot.unset).toArray = ls at hl ⊢
  have hl : lv_has ls 5 [(0, .ref (bd 0)), (1, .int x1), (2, .int x2), (3, .int x3), (4, .int x4)] := hl
  rw [f_M_turn] at h
  refine lv_iload_n hx hb d_M_turn_0 rfl (lv_at hl 1 rfl) ?_
  obtain ⟨r5, er5, h⟩ := hx_b1s h
  refine hx_rd (va_runS (As := [.int x1]) (rest := []) ⟨hx, hb, hml, hown, hts⟩ (c_M_isFormat l D T3 x1 _ er5) (va_cwS 1 hts (hx_gS hx_cons k_624 k_625 k_55 k_626) rfl rfl rfl (by decide +kernel) ⟨Nat.le_of_ble_eq_true rfl, Nat.le_of_ble_eq_true rfl⟩) (hx_preS hx_nil hK) rfl rfl hl.1 rfl (lv_room (Nat.le_of_ble_eq_true rfl)) d_M_turn_1 ⟨Nat.zero_le _, Nat.zero_le _⟩) ?_
  refine lv_if_eq (tgt := 31) hx hb d_M_turn_4 (by decide) (fun c6 => ?_) (fun c6 => ?_)
  · replace h := hx_ip c6 h
    refine lv_ldc2 (v := -2) hx hb hown (hts _ (hx_cons _ k_694)) d_M_turn_31 ?_
    exact W.lret hx hb hr (fun t ht hW => hx_endj h ht hW hP hK hD hS) hS.2.2 d_M_turn_34
  · replace h := hx_in c6 h
    refine lv_iload_n hx hb d_M_turn_7 rfl (lv_at hl 3 rfl) ?_
    obtain ⟨r7, er7, h⟩ := hx_b1s h
    refine hx_rd (va_runS (As := [.int x3]) (rest := []) ⟨hx, hb, hml, hown, hts⟩ (c_M_isFormat l D T3 x3 _ er7) (va_cwS 1 hts (hx_gS hx_cons k_624 k_625 k_55 k_626) rfl rfl rfl (by decide +kernel) ⟨Nat.le_of_ble_eq_true rfl, Nat.le_of_ble_eq_true rfl⟩) (hx_preS hx_nil hK) rfl rfl hl.1 rfl (lv_room (Nat.le_of_ble_eq_true rfl)) d_M_turn_8 ⟨Nat.zero_le _, Nat.zero_le _⟩) ?_
    refine lv_if_eq (tgt := 31) hx hb d_M_turn_11 (by decide) (fun c8 => ?_) (fun c8 => ?_)
    · replace h := hx_ip c8 h
      refine lv_ldc2 (v := -2) hx hb hown (hts _ (hx_cons _ k_694)) d_M_turn_31 ?_
      exact W.lret hx hb hr (fun t ht hW => hx_endj h ht hW hP hK hD hS) hS.2.2 d_M_turn_34
    · replace h := hx_in c8 h
      refine lv_iload hx hb d_M_turn_14 (lv_at hl 4 rfl) ?_
      obtain ⟨r9, er9, h⟩ := hx_b1s h
      refine hx_rd (va_runS (As := [.int x4]) (rest := []) ⟨hx, hb, hml, hown, hts⟩ (c_M_isWay l D T3 x4 _ er9) (va_cwS 1 hts (hx_gS hx_cons k_690 k_691 k_55 k_692) rfl rfl rfl (by decide +kernel) ⟨Nat.le_of_ble_eq_true rfl, Nat.le_of_ble_eq_true rfl⟩) (hx_preS hx_nil hK) rfl rfl hl.1 rfl (lv_room (Nat.le_of_ble_eq_true rfl)) d_M_turn_16 ⟨Nat.zero_le _, Nat.zero_le _⟩) ?_
      refine lv_if_eq (tgt := 31) hx hb d_M_turn_19 (by decide) (fun c10 => ?_) (fun c10 => ?_)
      · replace h := hx_ip c10 h
        refine lv_ldc2 (v := -2) hx hb hown (hts _ (hx_cons _ k_694)) d_M_turn_31 ?_
        exact W.lret hx hb hr (fun t ht hW => hx_endj h ht hW hP hK hD hS) hS.2.2 d_M_turn_34
      · replace h := hx_in c10 h
        refine lv_aload_n hx hb d_M_turn_22 rfl (lv_at hl 0 rfl) ?_
        refine lv_iload_n hx hb d_M_turn_23 rfl (lv_at hl 1 rfl) ?_
        refine lv_iload_n hx hb d_M_turn_24 rfl (lv_at hl 2 rfl) ?_
        obtain ⟨r11, er11, h⟩ := hx_b1s h
        refine hx_rd (va_runV (As := [.int x1, .int x2]) (rest := []) ⟨hx, hb, hml, hown, hts⟩ (c_M_isPattern l D T3 bd τ x1 x2 _ er11) (cwV 2 hts (hx_gV hx_cons k_655 k_657 k_26 k_55 k_658) rfl rfl rfl (by decide +kernel) ⟨Nat.le_of_ble_eq_true rfl, Nat.le_of_ble_eq_true rfl⟩) (hx_preV (va_recv hK hP (ci := 5) (q0 := 0) rfl hm_at_M) hP hK) rfl rfl hl.1 rfl (lv_room (Nat.le_of_ble_eq_true rfl)) d_M_turn_25 ⟨Nat.zero_le _, Nat.zero_le _⟩) ?_
        refine lv_if_ne (tgt := 35) hx hb d_M_turn_28 (by decide) (fun c12 => ?_) (fun c12 => ?_)
        · replace h := hx_in c12 h
          refine lv_aload_n hx hb d_M_turn_35 rfl (lv_at hl 0 rfl) ?_
          refine lv_iload_n hx hb d_M_turn_36 rfl (lv_at hl 1 rfl) ?_
          refine lv_aload_n hx hb d_M_turn_37 rfl (lv_at hl 0 rfl) ?_
          refine lv_iload_n hx hb d_M_turn_38 rfl (lv_at hl 1 rfl) ?_
          refine lv_iload_n hx hb d_M_turn_39 rfl (lv_at hl 2 rfl) ?_
          obtain ⟨r13, er13, h⟩ := hx_b1s h
          refine hx_rd (va_runV (As := [.int x1, .int x2]) (rest := [.int x1, .ref (bd 0)]) ⟨hx, hb, hml, hown, hts⟩ (c_M_pattern l D T3 bd τ x1 x2 _ er13) (cwV 2 hts (hx_gV hx_cons k_659 k_661 k_27 k_55 k_662) rfl rfl rfl (by decide +kernel) ⟨Nat.le_of_ble_eq_true rfl, Nat.le_of_ble_eq_true rfl⟩) (hx_preV (va_recv hK hP (ci := 5) (q0 := 0) rfl hm_at_M) hP hK) rfl rfl hl.1 rfl (lv_room (Nat.le_of_ble_eq_true rfl)) d_M_turn_40 ⟨Nat.zero_le _, Nat.zero_le _⟩) ?_
          refine lv_iload_n hx hb d_M_turn_43 rfl (lv_at hl 3 rfl) ?_
          refine lv_iload hx hb d_M_turn_44 (lv_at hl 4 rfl) ?_
          obtain ⟨r15, q14, eq14, h⟩ := hx_b2s h
          refine hx_wj (va_runV (As := [.int x1, .long r13, .int x3, .int x4]) (rest := []) ⟨hx, hb, hml, hown, hts⟩ (c_M_turned l D T3 bd _ τ x1 r13 x3 x4 _ _ eq14) (cwV 4 hts (hx_gV hx_cons k_695 k_697 k_33 k_55 k_698) rfl rfl rfl (by decide +kernel) ⟨Nat.le_of_ble_eq_true rfl, Nat.le_of_ble_eq_true rfl⟩) (hx_preVw (va_recv hK hP (ci := 5) (q0 := 0) rfl hm_at_M) hP hK hD) rfl rfl hl.1 rfl (lv_room (Nat.le_of_ble_eq_true rfl)) d_M_turn_46 ⟨Nat.zero_le _, Nat.zero_le _⟩) hD hS hA (fun H locs hP hD hS => ?_)
          exact W.lret hx hb hr (fun t ht hW => hx_endj h ht hW hP hK hD hS) hS.2.2 d_M_turn_49
        · replace h := hx_ip c12 h
          refine lv_ldc2 (v := -2) hx hb hown (hts _ (hx_cons _ k_694)) d_M_turn_31 ?_
          exact W.lret hx hb hr (fun t ht hW => hx_endj h ht hW hP hK hD hS) hS.2.2 d_M_turn_34
abbrev m_M_reckon : Room := { frames := 5, cells := 0, slots := 0, locals := 133 }
set_option maxHeartbeats 4000000 in
set_option maxRecDepth 100000 in
theorem c_M_reckon (l : Launch) (D : va_G) (T3 : hx_T3) (bd : Nat → Nat) (sz : Nat) (τ : hm_S) (x1 : Int32) (x2 : Int32) (x3 : Int32) (x4 : Int32) (x5 : Int32) (x6 : Int32) (x7 : Int32) (r0 : Int64) (σ0 : hm_S) (h : f_M_reckon τ x1 x2 x3 x4 x5 x6 x7 = some (r0, σ0)) : hx_Wj l D (hx_ty T3) y_M_reckon w_M_reckon m_M_reckon [.ref (bd 0), .int x1, .int x2, .int x3, .int x4, .int x5, .int x6, .int x7] sz (hm_W T3 bd τ) r0 (hm_W T3 bd σ0) := by
  refine Met.ofW (cc := b_M_reckon) (maxL := 8) (ret := (some .long)) (by decide) rfl ?_
  intro p e s m args below meth c s₁ B hml hv
  obtain ⟨hargs, hsz, hP, hK, hD0⟩ := hv
  have hx := B.exec
  have hb := B.bytes
  have hr := B.returns
  have hts := atoms_spec (ws := w_M_reckon) B.pre
  have hown : s.vm.findClass "HalfFloatsModel" = some m.cls := findClass_of_methodNamed B.named
  have hlocks := B.notSynchronized
  subst hsz
  have hD := hD0.self (sz := s.heap.size)
  generalize hAe : va_A (hm_W T3 bd τ) s.heap.size = A at hD ⊢
  have hA : ∀ q : Nat, s.heap.size ≤ q → A q := fun q h => by rw [← hAe]; exact Or.inr h
  have hS : va_S A s.heap s.heap [] := va_S.rf
  have B_139 : ∀ (σ : hm_S) (x34 : Int32) (x35 : Int32) (H : Heap) (locs : List Loc) (ls : Array Slot), va_P D vwCl (hm_W T3 bd σ) H → va_D A (hm_W T3 bd σ) → va_S A s.heap H locs → lv_has ls 8 [(0, .ref (bd 0)), (6, .int x34), (7, .int x35)] → f_M_reckon_139 σ x34 x35 = some (r0, σ0) → W p l e (headSpec w_M_reckon m_M_reckon).room s m args below meth c H locs 0 0 (MQ below (hx_Qj D (hx_ty T3) A r0 (hm_W T3 bd σ0)) args s 0 0 A) (F0 m 139 ls []) := by
      intro σ x34 x35 H locs ls hP hD hS hl h
      rw [f_M_reckon_139] at h
      refine lv_aload_n hx hb d_M_reckon_139 rfl (lv_at hl 0 rfl) ?_
      refine lv_iload hx hb d_M_reckon_140 (lv_at hl 1 rfl) ?_
      refine lv_iload hx hb d_M_reckon_142 (lv_at hl 2 rfl) ?_
      obtain ⟨r37, q36, eq36, h⟩ := hx_b2s h
      refine hx_wj (va_runV (As := [.int x34, .int x35]) (rest := []) ⟨hx, hb, hml, hown, hts⟩ (c_M_end l D T3 bd _ σ x34 x35 _ _ eq36) (cwV 2 hts (hx_gV hx_cons k_716 k_718 k_38 k_55 k_719) rfl rfl rfl (by decide +kernel) ⟨Nat.le_of_ble_eq_true rfl, Nat.le_of_ble_eq_true rfl⟩) (hx_preVw (va_recv hK hP (ci := 5) (q0 := 0) rfl hm_at_M) hP hK hD) rfl rfl hl.1 rfl (lv_room (Nat.le_of_ble_eq_true rfl)) d_M_reckon_144 ⟨Nat.zero_le _, Nat.zero_le _⟩) hD hS hA (fun H locs hP hD hS => ?_)
      exact W.lret hx hb hr (fun t ht hW => hx_endj h ht hW hP hK hD hS) hS.2.2 d_M_reckon_147
  have B_135 : ∀ (σ : hm_S) (x28 : Int32) (x29 : Int32) (x30 : Int32) (x31 : Int64) (x32 : Int32) (H : Heap) (locs : List Loc) (ls : Array Slot), va_P D vwCl (hm_W T3 bd σ) H → va_D A (hm_W T3 bd σ) → va_S A s.heap H locs → lv_has ls 8 [(0, .ref (bd 0)), (6, .int x28), (7, .int x29)] → f_M_reckon_135 σ x28 x29 x30 x31 x32 = some (r0, σ0) → W p l e (headSpec w_M_reckon m_M_reckon).room s m args below meth c H locs 0 0 (MQ below (hx_Qj D (hx_ty T3) A r0 (hm_W T3 bd σ0)) args s 0 0 A) (F0 m 135 ls [.int x32, .long x31, .int x30, .ref (bd 0)]) := by
      intro σ x28 x29 x30 x31 x32 H locs ls hP hD hS hl h
      rw [f_M_reckon_135] at h
      refine lv_iconst (v := 0) hx hb d_M_reckon_135 (by decide) ?_
      obtain ⟨q33, eq33, h⟩ := hx_b1s h
      refine hx_wv (va_runV (As := [.int x30, .long x31, .int x32, .int (0 : Int32)]) (rest := []) ⟨hx, hb, hml, hown, hts⟩ (c_M_value l D T3 bd _ σ x30 x31 x32 (0 : Int32) _ eq33) (cwV 4 hts (hx_gV hx_cons k_703 k_705 k_35 k_55 k_706) rfl rfl rfl (by decide +kernel) ⟨Nat.le_of_ble_eq_true rfl, Nat.le_of_ble_eq_true rfl⟩) (hx_preVw (va_recv hK hP (ci := 5) (q0 := 0) rfl hm_at_M) hP hK hD) rfl rfl hl.1 rfl (lv_room (Nat.le_of_ble_eq_true rfl)) d_M_reckon_136 ⟨Nat.zero_le _, Nat.zero_le _⟩) hD hS hA (fun H locs hP hD hS => ?_)
      exact B_139 q33 x28 x29 _ _ ls hP hD hS (lv_sub hl [0, 1, 2] rfl) h
  refine W.eq (g2 := F0 m 0 ((lg_sl [.ref (bd 0), .int x1, .int x2, .int x3, .int x4, .int x5, .int x6, .int x7] ++ List.replicate (8 - (lg_sl [.ref (bd 0), .int x1, .int x2, .int x3, .int x4, .int x5, .int x6, .int x7]).length) Slot.unset).toArray) []) (by rw [hargs, lg_entry_eq]) ?_
  have hl := lv_entry ([.ref (bd 0), .int x1, .int x2, .int x3, .int x4, .int x5, .int x6, .int x7]) (n := 8) (Nat.le_of_ble_eq_true rfl)
  generalize (lg_sl ([.ref (bd 0), .int x1, .int x2, .int x3, .int x4, .int x5, .int x6, .int x7]) ++ List.replicate (8 - (lg_sl ([.ref (bd 0), .int x1, .int x2, .int x3, .int x4, .int x5, .int x6, .int x7])).length) Slot.unset).toArray = ls at hl ⊢
  have hl : lv_has ls 8 [(0, .ref (bd 0)), (1, .int x1), (2, .int x2), (3, .int x3), (4, .int x4), (5, .int x5), (6, .int x6), (7, .int x7)] := hl
  rw [f_M_reckon] at h
  refine lv_iload_n hx hb d_M_reckon_0 rfl (lv_at hl 1 rfl) ?_
  refine lv_i2l hx hb d_M_reckon_1 rfl ?_
  refine lv_lconst (v := 0) hx hb d_M_reckon_2 rfl ?_
  refine lv_ldc2 (v := 2) hx hb hown (hts _ (hx_cons _ k_631)) d_M_reckon_3 ?_
  obtain ⟨r8, er8, h⟩ := hx_b1s h
  refine hx_rd (va_runS (As := [.long x1.toInt64, .long (0 : Int64), .long (2 : Int64)]) (rest := []) ⟨hx, hb, hml, hown, hts⟩ (c_M_isIn l D T3 x1.toInt64 (0 : Int64) (2 : Int64) _ er8) (va_cwS 3 hts (hx_gS hx_cons k_628 k_629 k_55 k_630) rfl rfl rfl (by decide +kernel) ⟨Nat.le_of_ble_eq_true rfl, Nat.le_of_ble_eq_true rfl⟩) (hx_preS hx_nil hK) rfl rfl hl.1 rfl (lv_room (Nat.le_of_ble_eq_true rfl)) d_M_reckon_6 ⟨Nat.zero_le _, Nat.zero_le _⟩) ?_
  refine lv_if_eq (tgt := 63) hx hb d_M_reckon_9 (by decide) (fun c9 => ?_) (fun c9 => ?_)
  · replace h := hx_ip c9 h
    refine lv_ldc2 (v := -2) hx hb hown (hts _ (hx_cons _ k_694)) d_M_reckon_63 ?_
    exact W.lret hx hb hr (fun t ht hW => hx_endj h ht hW hP hK hD hS) hS.2.2 d_M_reckon_66
  · replace h := hx_in c9 h
    refine lv_iload_n hx hb d_M_reckon_12 rfl (lv_at hl 2 rfl) ?_
    obtain ⟨r10, er10, h⟩ := hx_b1s h
    refine hx_rd (va_runS (As := [.int x2]) (rest := []) ⟨hx, hb, hml, hown, hts⟩ (c_M_isFormat l D T3 x2 _ er10) (va_cwS 1 hts (hx_gS hx_cons k_624 k_625 k_55 k_626) rfl rfl rfl (by decide +kernel) ⟨Nat.le_of_ble_eq_true rfl, Nat.le_of_ble_eq_true rfl⟩) (hx_preS hx_nil hK) rfl rfl hl.1 rfl (lv_room (Nat.le_of_ble_eq_true rfl)) d_M_reckon_13 ⟨Nat.zero_le _, Nat.zero_le _⟩) ?_
    refine lv_if_eq (tgt := 63) hx hb d_M_reckon_16 (by decide) (fun c11 => ?_) (fun c11 => ?_)
    · replace h := hx_ip c11 h
      refine lv_ldc2 (v := -2) hx hb hown (hts _ (hx_cons _ k_694)) d_M_reckon_63 ?_
      exact W.lret hx hb hr (fun t ht hW => hx_endj h ht hW hP hK hD hS) hS.2.2 d_M_reckon_66
    · replace h := hx_in c11 h
      refine lv_iload hx hb d_M_reckon_19 (lv_at hl 4 rfl) ?_
      obtain ⟨r12, er12, h⟩ := hx_b1s h
      refine hx_rd (va_runS (As := [.int x4]) (rest := []) ⟨hx, hb, hml, hown, hts⟩ (c_M_isFormat l D T3 x4 _ er12) (va_cwS 1 hts (hx_gS hx_cons k_624 k_625 k_55 k_626) rfl rfl rfl (by decide +kernel) ⟨Nat.le_of_ble_eq_true rfl, Nat.le_of_ble_eq_true rfl⟩) (hx_preS hx_nil hK) rfl rfl hl.1 rfl (lv_room (Nat.le_of_ble_eq_true rfl)) d_M_reckon_21 ⟨Nat.zero_le _, Nat.zero_le _⟩) ?_
      refine lv_if_eq (tgt := 63) hx hb d_M_reckon_24 (by decide) (fun c13 => ?_) (fun c13 => ?_)
      · replace h := hx_ip c13 h
        refine lv_ldc2 (v := -2) hx hb hown (hts _ (hx_cons _ k_694)) d_M_reckon_63 ?_
        exact W.lret hx hb hr (fun t ht hW => hx_endj h ht hW hP hK hD hS) hS.2.2 d_M_reckon_66
      · replace h := hx_in c13 h
        refine lv_iload hx hb d_M_reckon_27 (lv_at hl 6 rfl) ?_
        obtain ⟨r14, er14, h⟩ := hx_b1s h
        refine hx_rd (va_runS (As := [.int x6]) (rest := []) ⟨hx, hb, hml, hown, hts⟩ (c_M_isFormat l D T3 x6 _ er14) (va_cwS 1 hts (hx_gS hx_cons k_624 k_625 k_55 k_626) rfl rfl rfl (by decide +kernel) ⟨Nat.le_of_ble_eq_true rfl, Nat.le_of_ble_eq_true rfl⟩) (hx_preS hx_nil hK) rfl rfl hl.1 rfl (lv_room (Nat.le_of_ble_eq_true rfl)) d_M_reckon_29 ⟨Nat.zero_le _, Nat.zero_le _⟩) ?_
        refine lv_if_eq (tgt := 63) hx hb d_M_reckon_32 (by decide) (fun c15 => ?_) (fun c15 => ?_)
        · replace h := hx_ip c15 h
          refine lv_ldc2 (v := -2) hx hb hown (hts _ (hx_cons _ k_694)) d_M_reckon_63 ?_
          exact W.lret hx hb hr (fun t ht hW => hx_endj h ht hW hP hK hD hS) hS.2.2 d_M_reckon_66
        · replace h := hx_in c15 h
          refine lv_iload hx hb d_M_reckon_35 (lv_at hl 7 rfl) ?_
          obtain ⟨r16, er16, h⟩ := hx_b1s h
          refine hx_rd (va_runS (As := [.int x7]) (rest := []) ⟨hx, hb, hml, hown, hts⟩ (c_M_isWay l D T3 x7 _ er16) (va_cwS 1 hts (hx_gS hx_cons k_690 k_691 k_55 k_692) rfl rfl rfl (by decide +kernel) ⟨Nat.le_of_ble_eq_true rfl, Nat.le_of_ble_eq_true rfl⟩) (hx_preS hx_nil hK) rfl rfl hl.1 rfl (lv_room (Nat.le_of_ble_eq_true rfl)) d_M_reckon_37 ⟨Nat.zero_le _, Nat.zero_le _⟩) ?_
          refine lv_if_eq (tgt := 63) hx hb d_M_reckon_40 (by decide) (fun c17 => ?_) (fun c17 => ?_)
          · replace h := hx_ip c17 h
            refine lv_ldc2 (v := -2) hx hb hown (hts _ (hx_cons _ k_694)) d_M_reckon_63 ?_
            exact W.lret hx hb hr (fun t ht hW => hx_endj h ht hW hP hK hD hS) hS.2.2 d_M_reckon_66
          · replace h := hx_in c17 h
            refine lv_aload_n hx hb d_M_reckon_43 rfl (lv_at hl 0 rfl) ?_
            refine lv_iload_n hx hb d_M_reckon_44 rfl (lv_at hl 2 rfl) ?_
            refine lv_iload_n hx hb d_M_reckon_45 rfl (lv_at hl 3 rfl) ?_
            obtain ⟨r18, er18, h⟩ := hx_b1s h
            refine hx_rd (va_runV (As := [.int x2, .int x3]) (rest := []) ⟨hx, hb, hml, hown, hts⟩ (c_M_isPattern l D T3 bd τ x2 x3 _ er18) (cwV 2 hts (hx_gV hx_cons k_655 k_657 k_26 k_55 k_658) rfl rfl rfl (by decide +kernel) ⟨Nat.le_of_ble_eq_true rfl, Nat.le_of_ble_eq_true rfl⟩) (hx_preV (va_recv hK hP (ci := 5) (q0 := 0) rfl hm_at_M) hP hK) rfl rfl hl.1 rfl (lv_room (Nat.le_of_ble_eq_true rfl)) d_M_reckon_46 ⟨Nat.zero_le _, Nat.zero_le _⟩) ?_
            refine lv_if_eq (tgt := 63) hx hb d_M_reckon_49 (by decide) (fun c19 => ?_) (fun c19 => ?_)
            · replace h := hx_ip c19 h
              refine lv_ldc2 (v := -2) hx hb hown (hts _ (hx_cons _ k_694)) d_M_reckon_63 ?_
              exact W.lret hx hb hr (fun t ht hW => hx_endj h ht hW hP hK hD hS) hS.2.2 d_M_reckon_66
            · replace h := hx_in c19 h
              refine lv_aload_n hx hb d_M_reckon_52 rfl (lv_at hl 0 rfl) ?_
              refine lv_iload hx hb d_M_reckon_53 (lv_at hl 4 rfl) ?_
              refine lv_iload hx hb d_M_reckon_55 (lv_at hl 5 rfl) ?_
              obtain ⟨r20, er20, h⟩ := hx_b1s h
              refine hx_rd (va_runV (As := [.int x4, .int x5]) (rest := []) ⟨hx, hb, hml, hown, hts⟩ (c_M_isPattern l D T3 bd τ x4 x5 _ er20) (cwV 2 hts (hx_gV hx_cons k_655 k_657 k_26 k_55 k_658) rfl rfl rfl (by decide +kernel) ⟨Nat.le_of_ble_eq_true rfl, Nat.le_of_ble_eq_true rfl⟩) (hx_preV (va_recv hK hP (ci := 5) (q0 := 0) rfl hm_at_M) hP hK) rfl rfl hl.1 rfl (lv_room (Nat.le_of_ble_eq_true rfl)) d_M_reckon_57 ⟨Nat.zero_le _, Nat.zero_le _⟩) ?_
              refine lv_if_ne (tgt := 67) hx hb d_M_reckon_60 (by decide) (fun c21 => ?_) (fun c21 => ?_)
              · replace h := hx_in c21 h
                refine lv_aload_n hx hb d_M_reckon_67 rfl (lv_at hl 0 rfl) ?_
                obtain ⟨q22, eq22, h⟩ := hx_b1s h
                refine hx_wv (va_runV (As := []) (rest := []) ⟨hx, hb, hml, hown, hts⟩ (c_M_begin l D T3 bd _ τ _ eq22) (cwV 0 hts (hx_gV hx_cons k_699 k_701 k_34 k_55 k_702) rfl rfl rfl (by decide +kernel) ⟨Nat.le_of_ble_eq_true rfl, Nat.le_of_ble_eq_true rfl⟩) (hx_preVw (va_recv hK hP (ci := 5) (q0 := 0) rfl hm_at_M) hP hK hD) rfl rfl hl.1 rfl (lv_room (Nat.le_of_ble_eq_true rfl)) d_M_reckon_68 ⟨Nat.zero_le _, Nat.zero_le _⟩) hD hS hA (fun H locs hP hD hS => ?_)
                refine lv_iload_n hx hb d_M_reckon_71 rfl (lv_at hl 1 rfl) ?_
                refine lv_iconst (v := 2) hx hb d_M_reckon_72 (by decide) ?_
                refine lv_icmp_ne (tgt := 101) hx hb d_M_reckon_73 (by decide) (fun c23 => ?_) (fun c23 => ?_)
                · replace h := hx_in c23 h
                  refine lv_aload_n hx hb d_M_reckon_101 rfl (lv_at hl 0 rfl) ?_
                  refine lv_iload_n hx hb d_M_reckon_102 rfl (lv_at hl 2 rfl) ?_
                  refine lv_aload_n hx hb d_M_reckon_103 rfl (lv_at hl 0 rfl) ?_
                  refine lv_iload_n hx hb d_M_reckon_104 rfl (lv_at hl 2 rfl) ?_
                  refine lv_iload_n hx hb d_M_reckon_105 rfl (lv_at hl 3 rfl) ?_
                  obtain ⟨r24, er24, h⟩ := hx_b1s h
                  refine hx_rd (va_runV (As := [.int x2, .int x3]) (rest := [.int x2, .ref (bd 0)]) ⟨hx, hb, hml, hown, hts⟩ (c_M_pattern l D T3 bd q22 x2 x3 _ er24) (cwV 2 hts (hx_gV hx_cons k_659 k_661 k_27 k_55 k_662) rfl rfl rfl (by decide +kernel) ⟨Nat.le_of_ble_eq_true rfl, Nat.le_of_ble_eq_true rfl⟩) (hx_preV (va_recv hK hP (ci := 5) (q0 := 0) rfl hm_at_M) hP hK) rfl rfl hl.1 rfl (lv_room (Nat.le_of_ble_eq_true rfl)) d_M_reckon_106 ⟨Nat.zero_le _, Nat.zero_le _⟩) ?_
                  refine lv_iconst (v := 0) hx hb d_M_reckon_109 (by decide) ?_
                  refine lv_iconst (v := 0) hx hb d_M_reckon_110 (by decide) ?_
                  obtain ⟨q25, eq25, h⟩ := hx_b1s h
                  refine hx_wv (va_runV (As := [.int x2, .long r24, .int (0 : Int32), .int (0 : Int32)]) (rest := []) ⟨hx, hb, hml, hown, hts⟩ (c_M_value l D T3 bd _ q22 x2 r24 (0 : Int32) (0 : Int32) _ eq25) (cwV 4 hts (hx_gV hx_cons k_703 k_705 k_35 k_55 k_706) rfl rfl rfl (by decide +kernel) ⟨Nat.le_of_ble_eq_true rfl, Nat.le_of_ble_eq_true rfl⟩) (hx_preVw (va_recv hK hP (ci := 5) (q0 := 0) rfl hm_at_M) hP hK hD) rfl rfl hl.1 rfl (lv_room (Nat.le_of_ble_eq_true rfl)) d_M_reckon_111 ⟨Nat.zero_le _, Nat.zero_le _⟩) hD hS hA (fun H locs hP hD hS => ?_)
                  refine lv_aload_n hx hb d_M_reckon_114 rfl (lv_at hl 0 rfl) ?_
                  refine lv_iload hx hb d_M_reckon_115 (lv_at hl 4 rfl) ?_
                  refine lv_aload_n hx hb d_M_reckon_117 rfl (lv_at hl 0 rfl) ?_
                  refine lv_iload hx hb d_M_reckon_118 (lv_at hl 4 rfl) ?_
                  refine lv_iload hx hb d_M_reckon_120 (lv_at hl 5 rfl) ?_
                  obtain ⟨r26, er26, h⟩ := hx_b1s h
                  refine hx_rd (va_runV (As := [.int x4, .int x5]) (rest := [.int x4, .ref (bd 0)]) ⟨hx, hb, hml, hown, hts⟩ (c_M_pattern l D T3 bd q25 x4 x5 _ er26) (cwV 2 hts (hx_gV hx_cons k_659 k_661 k_27 k_55 k_662) rfl rfl rfl (by decide +kernel) ⟨Nat.le_of_ble_eq_true rfl, Nat.le_of_ble_eq_true rfl⟩) (hx_preV (va_recv hK hP (ci := 5) (q0 := 0) rfl hm_at_M) hP hK) rfl rfl hl.1 rfl (lv_room (Nat.le_of_ble_eq_true rfl)) d_M_reckon_122 ⟨Nat.zero_le _, Nat.zero_le _⟩) ?_
                  refine lv_iload_n hx hb d_M_reckon_125 rfl (lv_at hl 1 rfl) ?_
                  refine lv_iconst (v := 1) hx hb d_M_reckon_126 (by decide) ?_
                  refine lv_icmp_ne (tgt := 134) hx hb d_M_reckon_127 (by decide) (fun c27 => ?_) (fun c27 => ?_)
                  · replace h := hx_in c27 h
                    refine lv_iconst (v := 0) hx hb d_M_reckon_134 (by decide) ?_
                    exact B_135 q25 x6 x7 x4 r26 (0 : Int32) _ _ ls hP hD hS (lv_sub hl [0, 6, 7] rfl) h
                  · replace h := hx_ip c27 h
                    refine lv_iconst (v := 1) hx hb d_M_reckon_130 (by decide) ?_
                    refine lv_goto (tgt := 135) hx hb d_M_reckon_131 (by decide) ?_
                    exact B_135 q25 x6 x7 x4 r26 (1 : Int32) _ _ ls hP hD hS (lv_sub hl [0, 6, 7] rfl) h
                · replace h := hx_ip c23 h
                  refine lv_aload_n hx hb d_M_reckon_76 rfl (lv_at hl 0 rfl) ?_
                  refine lv_iload_n hx hb d_M_reckon_77 rfl (lv_at hl 2 rfl) ?_
                  refine lv_aload_n hx hb d_M_reckon_78 rfl (lv_at hl 0 rfl) ?_
                  refine lv_iload_n hx hb d_M_reckon_79 rfl (lv_at hl 2 rfl) ?_
                  refine lv_iload_n hx hb d_M_reckon_80 rfl (lv_at hl 3 rfl) ?_
                  obtain ⟨r38, er38, h⟩ := hx_b1s h
                  refine hx_rd (va_runV (As := [.int x2, .int x3]) (rest := [.int x2, .ref (bd 0)]) ⟨hx, hb, hml, hown, hts⟩ (c_M_pattern l D T3 bd q22 x2 x3 _ er38) (cwV 2 hts (hx_gV hx_cons k_659 k_661 k_27 k_55 k_662) rfl rfl rfl (by decide +kernel) ⟨Nat.le_of_ble_eq_true rfl, Nat.le_of_ble_eq_true rfl⟩) (hx_preV (va_recv hK hP (ci := 5) (q0 := 0) rfl hm_at_M) hP hK) rfl rfl hl.1 rfl (lv_room (Nat.le_of_ble_eq_true rfl)) d_M_reckon_81 ⟨Nat.zero_le _, Nat.zero_le _⟩) ?_
                  refine lv_iload hx hb d_M_reckon_84 (lv_at hl 4 rfl) ?_
                  refine lv_aload_n hx hb d_M_reckon_86 rfl (lv_at hl 0 rfl) ?_
                  refine lv_iload hx hb d_M_reckon_87 (lv_at hl 4 rfl) ?_
                  refine lv_iload hx hb d_M_reckon_89 (lv_at hl 5 rfl) ?_
                  obtain ⟨r39, er39, h⟩ := hx_b1s h
                  refine hx_rd (va_runV (As := [.int x4, .int x5]) (rest := [.int x4, .long r38, .int x2, .ref (bd 0)]) ⟨hx, hb, hml, hown, hts⟩ (c_M_pattern l D T3 bd q22 x4 x5 _ er39) (cwV 2 hts (hx_gV hx_cons k_659 k_661 k_27 k_55 k_662) rfl rfl rfl (by decide +kernel) ⟨Nat.le_of_ble_eq_true rfl, Nat.le_of_ble_eq_true rfl⟩) (hx_preV (va_recv hK hP (ci := 5) (q0 := 0) rfl hm_at_M) hP hK) rfl rfl hl.1 rfl (lv_room (Nat.le_of_ble_eq_true rfl)) d_M_reckon_91 ⟨Nat.zero_le _, Nat.zero_le _⟩) ?_
                  refine lv_iconst (v := 0) hx hb d_M_reckon_94 (by decide) ?_
                  obtain ⟨q40, eq40, h⟩ := hx_b1s h
                  refine hx_wv (va_runV (As := [.int x2, .long r38, .int x4, .long r39, .int (0 : Int32)]) (rest := []) ⟨hx, hb, hml, hown, hts⟩ (c_M_product l D T3 bd _ q22 x2 r38 x4 r39 (0 : Int32) _ eq40) (cwV 5 hts (hx_gV hx_cons k_752 k_754 k_45 k_55 k_755) rfl rfl rfl (by decide +kernel) ⟨Nat.le_of_ble_eq_true rfl, Nat.le_of_ble_eq_true rfl⟩) (hx_preVw (va_recv hK hP (ci := 5) (q0 := 0) rfl hm_at_M) hP hK hD) rfl rfl hl.1 rfl (lv_room (Nat.le_of_ble_eq_true rfl)) d_M_reckon_95 ⟨Nat.zero_le _, Nat.zero_le _⟩) hD hS hA (fun H locs hP hD hS => ?_)
                  refine lv_goto (tgt := 139) hx hb d_M_reckon_98 (by decide) ?_
                  exact B_139 q40 x6 x7 _ _ ls hP hD hS (lv_sub hl [0, 6, 7] rfl) h
              · replace h := hx_ip c21 h
                refine lv_ldc2 (v := -2) hx hb hown (hts _ (hx_cons _ k_694)) d_M_reckon_63 ?_
                exact W.lret hx hb hr (fun t ht hW => hx_endj h ht hW hP hK hD hS) hS.2.2 d_M_reckon_66
abbrev m_M_fused : Room := { frames := 5, cells := 0, slots := 0, locals := 133 }
set_option maxHeartbeats 4000000 in
set_option maxRecDepth 100000 in
theorem c_M_fused (l : Launch) (D : va_G) (T3 : hx_T3) (bd : Nat → Nat) (sz : Nat) (τ : hm_S) (x1 : Int32) (x2 : Int32) (x3 : Int32) (x4 : Int32) (x5 : Int32) (x6 : Int32) (r0 : Int64) (σ0 : hm_S) (h : f_M_fused τ x1 x2 x3 x4 x5 x6 = some (r0, σ0)) : hx_Wj l D (hx_ty T3) y_M_fused w_M_fused m_M_fused [.ref (bd 0), .int x1, .int x2, .int x3, .int x4, .int x5, .int x6] sz (hm_W T3 bd τ) r0 (hm_W T3 bd σ0) := by
  refine Met.ofW (cc := b_M_fused) (maxL := 7) (ret := (some .long)) (by decide) rfl ?_
  intro p e s m args below meth c s₁ B hml hv
  obtain ⟨hargs, hsz, hP, hK, hD0⟩ := hv
  have hx := B.exec
  have hb := B.bytes
  have hr := B.returns
  have hts := atoms_spec (ws := w_M_fused) B.pre
  have hown : s.vm.findClass "HalfFloatsModel" = some m.cls := findClass_of_methodNamed B.named
  have hlocks := B.notSynchronized
  subst hsz
  have hD := hD0.self (sz := s.heap.size)
  generalize hAe : va_A (hm_W T3 bd τ) s.heap.size = A at hD ⊢
  have hA : ∀ q : Nat, s.heap.size ≤ q → A q := fun q h => by rw [← hAe]; exact Or.inr h
  have hS : va_S A s.heap s.heap [] := va_S.rf
  refine W.eq (g2 := F0 m 0 ((lg_sl [.ref (bd 0), .int x1, .int x2, .int x3, .int x4, .int x5, .int x6] ++ List.replicate (7 - (lg_sl [.ref (bd 0), .int x1, .int x2, .int x3, .int x4, .int x5, .int x6]).length) Slot.unset).toArray) []) (by rw [hargs, lg_entry_eq]) ?_
  have hl := lv_entry ([.ref (bd 0), .int x1, .int x2, .int x3, .int x4, .int x5, .int x6]) (n := 7) (Nat.le_of_ble_eq_true rfl)
  generalize (lg_sl ([.ref (bd 0), .int x1, .int x2, .int x3, .int x4, .int x5, .int x6]) ++ List.replicate (7 - (lg_sl ([.ref (bd 0), .int x1, .int x2, .int x3, .int x4, .int x5, .int x6])).length) Slot.unset).toArray = ls at hl ⊢
  have hl : lv_has ls 7 [(0, .ref (bd 0)), (1, .int x1), (2, .int x2), (3, .int x3), (4, .int x4), (5, .int x5), (6, .int x6)] := hl
  rw [f_M_fused] at h
  refine lv_iload_n hx hb d_M_fused_0 rfl (lv_at hl 1 rfl) ?_
  obtain ⟨r7, er7, h⟩ := hx_b1s h
  refine hx_rd (va_runS (As := [.int x1]) (rest := []) ⟨hx, hb, hml, hown, hts⟩ (c_M_isFormat l D T3 x1 _ er7) (va_cwS 1 hts (hx_gS hx_cons k_624 k_625 k_55 k_626) rfl rfl rfl (by decide +kernel) ⟨Nat.le_of_ble_eq_true rfl, Nat.le_of_ble_eq_true rfl⟩) (hx_preS hx_nil hK) rfl rfl hl.1 rfl (lv_room (Nat.le_of_ble_eq_true rfl)) d_M_fused_1 ⟨Nat.zero_le _, Nat.zero_le _⟩) ?_
  refine lv_if_eq (tgt := 52) hx hb d_M_fused_4 (by decide) (fun c8 => ?_) (fun c8 => ?_)
  · replace h := hx_ip c8 h
    refine lv_ldc2 (v := -2) hx hb hown (hts _ (hx_cons _ k_694)) d_M_fused_52 ?_
    exact W.lret hx hb hr (fun t ht hW => hx_endj h ht hW hP hK hD hS) hS.2.2 d_M_fused_55
  · replace h := hx_in c8 h
    refine lv_iload hx hb d_M_fused_7 (lv_at hl 4 rfl) ?_
    obtain ⟨r9, er9, h⟩ := hx_b1s h
    refine hx_rd (va_runS (As := [.int x4]) (rest := []) ⟨hx, hb, hml, hown, hts⟩ (c_M_isFormat l D T3 x4 _ er9) (va_cwS 1 hts (hx_gS hx_cons k_624 k_625 k_55 k_626) rfl rfl rfl (by decide +kernel) ⟨Nat.le_of_ble_eq_true rfl, Nat.le_of_ble_eq_true rfl⟩) (hx_preS hx_nil hK) rfl rfl hl.1 rfl (lv_room (Nat.le_of_ble_eq_true rfl)) d_M_fused_9 ⟨Nat.zero_le _, Nat.zero_le _⟩) ?_
    refine lv_if_eq (tgt := 52) hx hb d_M_fused_12 (by decide) (fun c10 => ?_) (fun c10 => ?_)
    · replace h := hx_ip c10 h
      refine lv_ldc2 (v := -2) hx hb hown (hts _ (hx_cons _ k_694)) d_M_fused_52 ?_
      exact W.lret hx hb hr (fun t ht hW => hx_endj h ht hW hP hK hD hS) hS.2.2 d_M_fused_55
    · replace h := hx_in c10 h
      refine lv_iload hx hb d_M_fused_15 (lv_at hl 6 rfl) ?_
      obtain ⟨r11, er11, h⟩ := hx_b1s h
      refine hx_rd (va_runS (As := [.int x6]) (rest := []) ⟨hx, hb, hml, hown, hts⟩ (c_M_isWay l D T3 x6 _ er11) (va_cwS 1 hts (hx_gS hx_cons k_690 k_691 k_55 k_692) rfl rfl rfl (by decide +kernel) ⟨Nat.le_of_ble_eq_true rfl, Nat.le_of_ble_eq_true rfl⟩) (hx_preS hx_nil hK) rfl rfl hl.1 rfl (lv_room (Nat.le_of_ble_eq_true rfl)) d_M_fused_17 ⟨Nat.zero_le _, Nat.zero_le _⟩) ?_
      refine lv_if_eq (tgt := 52) hx hb d_M_fused_20 (by decide) (fun c12 => ?_) (fun c12 => ?_)
      · replace h := hx_ip c12 h
        refine lv_ldc2 (v := -2) hx hb hown (hts _ (hx_cons _ k_694)) d_M_fused_52 ?_
        exact W.lret hx hb hr (fun t ht hW => hx_endj h ht hW hP hK hD hS) hS.2.2 d_M_fused_55
      · replace h := hx_in c12 h
        refine lv_aload_n hx hb d_M_fused_23 rfl (lv_at hl 0 rfl) ?_
        refine lv_iload_n hx hb d_M_fused_24 rfl (lv_at hl 1 rfl) ?_
        refine lv_iload_n hx hb d_M_fused_25 rfl (lv_at hl 2 rfl) ?_
        obtain ⟨r13, er13, h⟩ := hx_b1s h
        refine hx_rd (va_runV (As := [.int x1, .int x2]) (rest := []) ⟨hx, hb, hml, hown, hts⟩ (c_M_isPattern l D T3 bd τ x1 x2 _ er13) (cwV 2 hts (hx_gV hx_cons k_655 k_657 k_26 k_55 k_658) rfl rfl rfl (by decide +kernel) ⟨Nat.le_of_ble_eq_true rfl, Nat.le_of_ble_eq_true rfl⟩) (hx_preV (va_recv hK hP (ci := 5) (q0 := 0) rfl hm_at_M) hP hK) rfl rfl hl.1 rfl (lv_room (Nat.le_of_ble_eq_true rfl)) d_M_fused_26 ⟨Nat.zero_le _, Nat.zero_le _⟩) ?_
        refine lv_if_eq (tgt := 52) hx hb d_M_fused_29 (by decide) (fun c14 => ?_) (fun c14 => ?_)
        · replace h := hx_ip c14 h
          refine lv_ldc2 (v := -2) hx hb hown (hts _ (hx_cons _ k_694)) d_M_fused_52 ?_
          exact W.lret hx hb hr (fun t ht hW => hx_endj h ht hW hP hK hD hS) hS.2.2 d_M_fused_55
        · replace h := hx_in c14 h
          refine lv_aload_n hx hb d_M_fused_32 rfl (lv_at hl 0 rfl) ?_
          refine lv_iload_n hx hb d_M_fused_33 rfl (lv_at hl 1 rfl) ?_
          refine lv_iload_n hx hb d_M_fused_34 rfl (lv_at hl 3 rfl) ?_
          obtain ⟨r15, er15, h⟩ := hx_b1s h
          refine hx_rd (va_runV (As := [.int x1, .int x3]) (rest := []) ⟨hx, hb, hml, hown, hts⟩ (c_M_isPattern l D T3 bd τ x1 x3 _ er15) (cwV 2 hts (hx_gV hx_cons k_655 k_657 k_26 k_55 k_658) rfl rfl rfl (by decide +kernel) ⟨Nat.le_of_ble_eq_true rfl, Nat.le_of_ble_eq_true rfl⟩) (hx_preV (va_recv hK hP (ci := 5) (q0 := 0) rfl hm_at_M) hP hK) rfl rfl hl.1 rfl (lv_room (Nat.le_of_ble_eq_true rfl)) d_M_fused_35 ⟨Nat.zero_le _, Nat.zero_le _⟩) ?_
          refine lv_if_eq (tgt := 52) hx hb d_M_fused_38 (by decide) (fun c16 => ?_) (fun c16 => ?_)
          · replace h := hx_ip c16 h
            refine lv_ldc2 (v := -2) hx hb hown (hts _ (hx_cons _ k_694)) d_M_fused_52 ?_
            exact W.lret hx hb hr (fun t ht hW => hx_endj h ht hW hP hK hD hS) hS.2.2 d_M_fused_55
          · replace h := hx_in c16 h
            refine lv_aload_n hx hb d_M_fused_41 rfl (lv_at hl 0 rfl) ?_
            refine lv_iload hx hb d_M_fused_42 (lv_at hl 4 rfl) ?_
            refine lv_iload hx hb d_M_fused_44 (lv_at hl 5 rfl) ?_
            obtain ⟨r17, er17, h⟩ := hx_b1s h
            refine hx_rd (va_runV (As := [.int x4, .int x5]) (rest := []) ⟨hx, hb, hml, hown, hts⟩ (c_M_isPattern l D T3 bd τ x4 x5 _ er17) (cwV 2 hts (hx_gV hx_cons k_655 k_657 k_26 k_55 k_658) rfl rfl rfl (by decide +kernel) ⟨Nat.le_of_ble_eq_true rfl, Nat.le_of_ble_eq_true rfl⟩) (hx_preV (va_recv hK hP (ci := 5) (q0 := 0) rfl hm_at_M) hP hK) rfl rfl hl.1 rfl (lv_room (Nat.le_of_ble_eq_true rfl)) d_M_fused_46 ⟨Nat.zero_le _, Nat.zero_le _⟩) ?_
            refine lv_if_ne (tgt := 56) hx hb d_M_fused_49 (by decide) (fun c18 => ?_) (fun c18 => ?_)
            · replace h := hx_in c18 h
              refine lv_aload_n hx hb d_M_fused_56 rfl (lv_at hl 0 rfl) ?_
              obtain ⟨q19, eq19, h⟩ := hx_b1s h
              refine hx_wv (va_runV (As := []) (rest := []) ⟨hx, hb, hml, hown, hts⟩ (c_M_begin l D T3 bd _ τ _ eq19) (cwV 0 hts (hx_gV hx_cons k_699 k_701 k_34 k_55 k_702) rfl rfl rfl (by decide +kernel) ⟨Nat.le_of_ble_eq_true rfl, Nat.le_of_ble_eq_true rfl⟩) (hx_preVw (va_recv hK hP (ci := 5) (q0 := 0) rfl hm_at_M) hP hK hD) rfl rfl hl.1 rfl (lv_room (Nat.le_of_ble_eq_true rfl)) d_M_fused_57 ⟨Nat.zero_le _, Nat.zero_le _⟩) hD hS hA (fun H locs hP hD hS => ?_)
              refine lv_aload_n hx hb d_M_fused_60 rfl (lv_at hl 0 rfl) ?_
              refine lv_iload_n hx hb d_M_fused_61 rfl (lv_at hl 1 rfl) ?_
              refine lv_aload_n hx hb d_M_fused_62 rfl (lv_at hl 0 rfl) ?_
              refine lv_iload_n hx hb d_M_fused_63 rfl (lv_at hl 1 rfl) ?_
              refine lv_iload_n hx hb d_M_fused_64 rfl (lv_at hl 2 rfl) ?_
              obtain ⟨r20, er20, h⟩ := hx_b1s h
              refine hx_rd (va_runV (As := [.int x1, .int x2]) (rest := [.int x1, .ref (bd 0)]) ⟨hx, hb, hml, hown, hts⟩ (c_M_pattern l D T3 bd q19 x1 x2 _ er20) (cwV 2 hts (hx_gV hx_cons k_659 k_661 k_27 k_55 k_662) rfl rfl rfl (by decide +kernel) ⟨Nat.le_of_ble_eq_true rfl, Nat.le_of_ble_eq_true rfl⟩) (hx_preV (va_recv hK hP (ci := 5) (q0 := 0) rfl hm_at_M) hP hK) rfl rfl hl.1 rfl (lv_room (Nat.le_of_ble_eq_true rfl)) d_M_fused_65 ⟨Nat.zero_le _, Nat.zero_le _⟩) ?_
              refine lv_iload_n hx hb d_M_fused_68 rfl (lv_at hl 1 rfl) ?_
              refine lv_aload_n hx hb d_M_fused_69 rfl (lv_at hl 0 rfl) ?_
              refine lv_iload_n hx hb d_M_fused_70 rfl (lv_at hl 1 rfl) ?_
              refine lv_iload_n hx hb d_M_fused_71 rfl (lv_at hl 3 rfl) ?_
              obtain ⟨r21, er21, h⟩ := hx_b1s h
              refine hx_rd (va_runV (As := [.int x1, .int x3]) (rest := [.int x1, .long r20, .int x1, .ref (bd 0)]) ⟨hx, hb, hml, hown, hts⟩ (c_M_pattern l D T3 bd q19 x1 x3 _ er21) (cwV 2 hts (hx_gV hx_cons k_659 k_661 k_27 k_55 k_662) rfl rfl rfl (by decide +kernel) ⟨Nat.le_of_ble_eq_true rfl, Nat.le_of_ble_eq_true rfl⟩) (hx_preV (va_recv hK hP (ci := 5) (q0 := 0) rfl hm_at_M) hP hK) rfl rfl hl.1 rfl (lv_room (Nat.le_of_ble_eq_true rfl)) d_M_fused_72 ⟨Nat.zero_le _, Nat.zero_le _⟩) ?_
              refine lv_iconst (v := 0) hx hb d_M_fused_75 (by decide) ?_
              obtain ⟨q22, eq22, h⟩ := hx_b1s h
              refine hx_wv (va_runV (As := [.int x1, .long r20, .int x1, .long r21, .int (0 : Int32)]) (rest := []) ⟨hx, hb, hml, hown, hts⟩ (c_M_product l D T3 bd _ q19 x1 r20 x1 r21 (0 : Int32) _ eq22) (cwV 5 hts (hx_gV hx_cons k_752 k_754 k_45 k_55 k_755) rfl rfl rfl (by decide +kernel) ⟨Nat.le_of_ble_eq_true rfl, Nat.le_of_ble_eq_true rfl⟩) (hx_preVw (va_recv hK hP (ci := 5) (q0 := 0) rfl hm_at_M) hP hK hD) rfl rfl hl.1 rfl (lv_room (Nat.le_of_ble_eq_true rfl)) d_M_fused_76 ⟨Nat.zero_le _, Nat.zero_le _⟩) hD hS hA (fun H locs hP hD hS => ?_)
              refine lv_aload_n hx hb d_M_fused_79 rfl (lv_at hl 0 rfl) ?_
              refine lv_iload hx hb d_M_fused_80 (lv_at hl 4 rfl) ?_
              refine lv_aload_n hx hb d_M_fused_82 rfl (lv_at hl 0 rfl) ?_
              refine lv_iload hx hb d_M_fused_83 (lv_at hl 4 rfl) ?_
              refine lv_iload hx hb d_M_fused_85 (lv_at hl 5 rfl) ?_
              obtain ⟨r23, er23, h⟩ := hx_b1s h
              refine hx_rd (va_runV (As := [.int x4, .int x5]) (rest := [.int x4, .ref (bd 0)]) ⟨hx, hb, hml, hown, hts⟩ (c_M_pattern l D T3 bd q22 x4 x5 _ er23) (cwV 2 hts (hx_gV hx_cons k_659 k_661 k_27 k_55 k_662) rfl rfl rfl (by decide +kernel) ⟨Nat.le_of_ble_eq_true rfl, Nat.le_of_ble_eq_true rfl⟩) (hx_preV (va_recv hK hP (ci := 5) (q0 := 0) rfl hm_at_M) hP hK) rfl rfl hl.1 rfl (lv_room (Nat.le_of_ble_eq_true rfl)) d_M_fused_87 ⟨Nat.zero_le _, Nat.zero_le _⟩) ?_
              refine lv_iconst (v := 0) hx hb d_M_fused_90 (by decide) ?_
              refine lv_iconst (v := 0) hx hb d_M_fused_91 (by decide) ?_
              obtain ⟨q24, eq24, h⟩ := hx_b1s h
              refine hx_wv (va_runV (As := [.int x4, .long r23, .int (0 : Int32), .int (0 : Int32)]) (rest := []) ⟨hx, hb, hml, hown, hts⟩ (c_M_value l D T3 bd _ q22 x4 r23 (0 : Int32) (0 : Int32) _ eq24) (cwV 4 hts (hx_gV hx_cons k_703 k_705 k_35 k_55 k_706) rfl rfl rfl (by decide +kernel) ⟨Nat.le_of_ble_eq_true rfl, Nat.le_of_ble_eq_true rfl⟩) (hx_preVw (va_recv hK hP (ci := 5) (q0 := 0) rfl hm_at_M) hP hK hD) rfl rfl hl.1 rfl (lv_room (Nat.le_of_ble_eq_true rfl)) d_M_fused_92 ⟨Nat.zero_le _, Nat.zero_le _⟩) hD hS hA (fun H locs hP hD hS => ?_)
              refine lv_aload_n hx hb d_M_fused_95 rfl (lv_at hl 0 rfl) ?_
              refine lv_iload hx hb d_M_fused_96 (lv_at hl 4 rfl) ?_
              refine lv_iload hx hb d_M_fused_98 (lv_at hl 6 rfl) ?_
              obtain ⟨r26, q25, eq25, h⟩ := hx_b2s h
              refine hx_wj (va_runV (As := [.int x4, .int x6]) (rest := []) ⟨hx, hb, hml, hown, hts⟩ (c_M_end l D T3 bd _ q24 x4 x6 _ _ eq25) (cwV 2 hts (hx_gV hx_cons k_716 k_718 k_38 k_55 k_719) rfl rfl rfl (by decide +kernel) ⟨Nat.le_of_ble_eq_true rfl, Nat.le_of_ble_eq_true rfl⟩) (hx_preVw (va_recv hK hP (ci := 5) (q0 := 0) rfl hm_at_M) hP hK hD) rfl rfl hl.1 rfl (lv_room (Nat.le_of_ble_eq_true rfl)) d_M_fused_100 ⟨Nat.zero_le _, Nat.zero_le _⟩) hD hS hA (fun H locs hP hD hS => ?_)
              exact W.lret hx hb hr (fun t ht hW => hx_endj h ht hW hP hK hD hS) hS.2.2 d_M_fused_103
            · replace h := hx_ip c18 h
              refine lv_ldc2 (v := -2) hx hb hown (hts _ (hx_cons _ k_694)) d_M_fused_52 ?_
              exact W.lret hx hb hr (fun t ht hW => hx_endj h ht hW hP hK hD hS) hS.2.2 d_M_fused_55
abbrev m_M_compare : Room := { frames := 5, cells := 0, slots := 0, locals := 119 }
set_option maxHeartbeats 4000000 in
set_option maxRecDepth 100000 in
theorem c_M_compare (l : Launch) (D : va_G) (T3 : hx_T3) (bd : Nat → Nat) (sz : Nat) (τ : hm_S) (x1 : Int32) (x2 : Int32) (x3 : Int32) (x4 : Int32) (r0 : Int32) (σ0 : hm_S) (h : f_M_compare τ x1 x2 x3 x4 = some (r0, σ0)) : hx_Wi l D (hx_ty T3) y_M_compare w_M_compare m_M_compare [.ref (bd 0), .int x1, .int x2, .int x3, .int x4] sz (hm_W T3 bd τ) r0 (hm_W T3 bd σ0) := by
  refine Met.ofW (cc := b_M_compare) (maxL := 11) (ret := (some .int)) (by decide) rfl ?_
  intro p e s m args below meth c s₁ B hml hv
  obtain ⟨hargs, hsz, hP, hK, hD0⟩ := hv
  have hx := B.exec
  have hb := B.bytes
  have hr := B.returns
  have hts := atoms_spec (ws := w_M_compare) B.pre
  have hown : s.vm.findClass "HalfFloatsModel" = some m.cls := findClass_of_methodNamed B.named
  have hlocks := B.notSynchronized
  subst hsz
  have hD := hD0.self (sz := s.heap.size)
  generalize hAe : va_A (hm_W T3 bd τ) s.heap.size = A at hD ⊢
  have hA : ∀ q : Nat, s.heap.size ≤ q → A q := fun q h => by rw [← hAe]; exact Or.inr h
  have hS : va_S A s.heap s.heap [] := va_S.rf
  have B_139 : ∀ (σ : hm_S) (x28 : Int32) (x29 : Int32) (x30 : Int64) (x31 : Int64) (x32 : Int32) (x33 : Int32) (H : Heap) (locs : List Loc) (ls : Array Slot), va_P D vwCl (hm_W T3 bd σ) H → va_D A (hm_W T3 bd σ) → va_S A s.heap H locs → lv_has ls 11 [(0, .ref (bd 0)), (1, .int x28), (3, .int x29), (5, .long x30), (7, .long x31), (9, .int x32)] → f_M_compare_139 σ x28 x29 x30 x31 x32 x33 = some (r0, σ0) → W p l e (headSpec w_M_compare m_M_compare).room s m args below meth c H locs 0 0 (MQ below (hx_Qi D (hx_ty T3) A r0 (hm_W T3 bd σ0)) args s 0 0 A) (F0 m 139 ls [.int x33]) := by
      intro σ x28 x29 x30 x31 x32 x33 H locs ls hP hD hS hl h
      rw [f_M_compare_139] at h
      refine lv_istore (lv' := [(10, .int x33), (0, .ref (bd 0)), (1, .int x28), (3, .int x29), (5, .long x30), (7, .long x31), (9, .int x32)]) hx hb d_M_compare_139 hl (by decide) rfl (fun ls hl => ?_)
      refine lv_iload hx hb d_M_compare_141 (lv_at hl 6 rfl) ?_
      refine lv_iload hx hb d_M_compare_143 (lv_at hl 0 rfl) ?_
      refine lv_icmp_eq (tgt := 161) hx hb d_M_compare_145 (by decide) (fun c34 => ?_) (fun c34 => ?_)
      · replace h := hx_ip c34 h
        refine lv_aload_n hx hb d_M_compare_161 rfl (lv_at hl 1 rfl) ?_
        obtain ⟨q35, eq35, h⟩ := hx_b1s h
        refine hx_wv (va_runV (As := []) (rest := []) ⟨hx, hb, hml, hown, hts⟩ (c_M_begin l D T3 bd _ σ _ eq35) (cwV 0 hts (hx_gV hx_cons k_699 k_701 k_34 k_55 k_702) rfl rfl rfl (by decide +kernel) ⟨Nat.le_of_ble_eq_true rfl, Nat.le_of_ble_eq_true rfl⟩) (hx_preVw (va_recv hK hP (ci := 5) (q0 := 0) rfl hm_at_M) hP hK hD) rfl rfl hl.1 rfl (lv_room (Nat.le_of_ble_eq_true rfl)) d_M_compare_162 ⟨Nat.zero_le _, Nat.zero_le _⟩) hD hS hA (fun H locs hP hD hS => ?_)
        refine lv_aload_n hx hb d_M_compare_165 rfl (lv_at hl 1 rfl) ?_
        refine lv_iload_n hx hb d_M_compare_166 rfl (lv_at hl 2 rfl) ?_
        refine lv_lload hx hb d_M_compare_167 (lv_at hl 4 rfl) ?_
        refine lv_iconst (v := 0) hx hb d_M_compare_169 (by decide) ?_
        refine lv_iconst (v := 0) hx hb d_M_compare_170 (by decide) ?_
        obtain ⟨q36, eq36, h⟩ := hx_b1s h
        refine hx_wv (va_runV (As := [.int x28, .long x30, .int (0 : Int32), .int (0 : Int32)]) (rest := []) ⟨hx, hb, hml, hown, hts⟩ (c_M_value l D T3 bd _ q35 x28 x30 (0 : Int32) (0 : Int32) _ eq36) (cwV 4 hts (hx_gV hx_cons k_703 k_705 k_35 k_55 k_706) rfl rfl rfl (by decide +kernel) ⟨Nat.le_of_ble_eq_true rfl, Nat.le_of_ble_eq_true rfl⟩) (hx_preVw (va_recv hK hP (ci := 5) (q0 := 0) rfl hm_at_M) hP hK hD) rfl rfl hl.1 rfl (lv_room (Nat.le_of_ble_eq_true rfl)) d_M_compare_171 ⟨Nat.zero_le _, Nat.zero_le _⟩) hD hS hA (fun H locs hP hD hS => ?_)
        refine lv_aload_n hx hb d_M_compare_174 rfl (lv_at hl 1 rfl) ?_
        refine lv_iload_n hx hb d_M_compare_175 rfl (lv_at hl 3 rfl) ?_
        refine lv_lload hx hb d_M_compare_176 (lv_at hl 5 rfl) ?_
        refine lv_iconst (v := 1) hx hb d_M_compare_178 (by decide) ?_
        refine lv_iconst (v := 0) hx hb d_M_compare_179 (by decide) ?_
        obtain ⟨q37, eq37, h⟩ := hx_b1s h
        refine hx_wv (va_runV (As := [.int x29, .long x31, .int (1 : Int32), .int (0 : Int32)]) (rest := []) ⟨hx, hb, hml, hown, hts⟩ (c_M_value l D T3 bd _ q36 x29 x31 (1 : Int32) (0 : Int32) _ eq37) (cwV 4 hts (hx_gV hx_cons k_703 k_705 k_35 k_55 k_706) rfl rfl rfl (by decide +kernel) ⟨Nat.le_of_ble_eq_true rfl, Nat.le_of_ble_eq_true rfl⟩) (hx_preVw (va_recv hK hP (ci := 5) (q0 := 0) rfl hm_at_M) hP hK hD) rfl rfl hl.1 rfl (lv_room (Nat.le_of_ble_eq_true rfl)) d_M_compare_180 ⟨Nat.zero_le _, Nat.zero_le _⟩) hD hS hA (fun H locs hP hD hS => ?_)
        refine lv_iload hx hb d_M_compare_183 (lv_at hl 6 rfl) ?_
        refine lv_if_eq (tgt := 192) hx hb d_M_compare_185 (by decide) (fun c38 => ?_) (fun c38 => ?_)
        · replace h := hx_ip c38 h
          refine lv_aload_n hx hb d_M_compare_192 rfl (lv_at hl 1 rfl) ?_
          refine lv_sipush (v := 767) hx hb d_M_compare_193 (by decide) ?_
          obtain ⟨r39, er39, h⟩ := hx_b1s h
          refine hx_rd (va_runV (As := [.int (767 : Int32)]) (rest := []) ⟨hx, hb, hml, hown, hts⟩ (c_M_bitAt l D T3 bd q37 (767 : Int32) _ er39) (cwV 1 hts (hx_gV hx_cons k_720 k_722 k_39 k_55 k_723) rfl rfl rfl (by decide +kernel) ⟨Nat.le_of_ble_eq_true rfl, Nat.le_of_ble_eq_true rfl⟩) (hx_preV (va_recv hK hP (ci := 5) (q0 := 0) rfl hm_at_M) hP hK) rfl rfl hl.1 rfl (lv_room (Nat.le_of_ble_eq_true rfl)) d_M_compare_196 ⟨Nat.zero_le _, Nat.zero_le _⟩) ?_
          refine lv_iconst (v := 1) hx hb d_M_compare_199 (by decide) ?_
          refine lv_icmp_ne (tgt := 207) hx hb d_M_compare_200 (by decide) (fun c40 => ?_) (fun c40 => ?_)
          · replace h := hx_in c40 h
            refine lv_aload_n hx hb d_M_compare_207 rfl (lv_at hl 1 rfl) ?_
            refine lv_sipush (v := 768) hx hb d_M_compare_208 (by decide) ?_
            obtain ⟨r41, er41, h⟩ := hx_b1s h
            refine hx_rd (va_runV (As := [.int (768 : Int32)]) (rest := []) ⟨hx, hb, hml, hown, hts⟩ (c_M_hasLower l D T3 bd q37 (768 : Int32) _ er41) (cwV 1 hts (hx_gV hx_cons k_732 k_734 k_42 k_55 k_735) rfl rfl rfl (by decide +kernel) ⟨Nat.le_of_ble_eq_true rfl, Nat.le_of_ble_eq_true rfl⟩) (hx_preV (va_recv hK hP (ci := 5) (q0 := 0) rfl hm_at_M) hP hK) rfl rfl hl.1 rfl (lv_room (Nat.le_of_ble_eq_true rfl)) d_M_compare_211 ⟨Nat.zero_le _, Nat.zero_le _⟩) ?_
            refine lv_if_eq (tgt := 221) hx hb d_M_compare_214 (by decide) (fun c42 => ?_) (fun c42 => ?_)
            · replace h := hx_ip c42 h
              refine lv_iconst (v := 0) hx hb d_M_compare_221 (by decide) ?_
              exact W.iret hx hb hr (fun t ht hW => hx_endi h ht hW hP hK hD hS) hS.2.2 d_M_compare_222
            · replace h := hx_in c42 h
              refine lv_iconst (v := 1) hx hb d_M_compare_217 (by decide) ?_
              refine lv_goto (tgt := 222) hx hb d_M_compare_218 (by decide) ?_
              exact W.iret hx hb hr (fun t ht hW => hx_endi h ht hW hP hK hD hS) hS.2.2 d_M_compare_222
          · replace h := hx_ip c40 h
            refine lv_iconst (v := -1) hx hb d_M_compare_203 (by decide) ?_
            refine lv_goto (tgt := 222) hx hb d_M_compare_204 (by decide) ?_
            exact W.iret hx hb hr (fun t ht hW => hx_endi h ht hW hP hK hD hS) hS.2.2 d_M_compare_222
        · replace h := hx_in c38 h
          refine lv_iconst (v := 0) hx hb d_M_compare_188 (by decide) ?_
          refine lv_goto (tgt := 222) hx hb d_M_compare_189 (by decide) ?_
          exact W.iret hx hb hr (fun t ht hW => hx_endi h ht hW hP hK hD hS) hS.2.2 d_M_compare_222
      · replace h := hx_in c34 h
        refine lv_iload hx hb d_M_compare_148 (lv_at hl 6 rfl) ?_
        refine lv_iload hx hb d_M_compare_150 (lv_at hl 0 rfl) ?_
        refine lv_icmp_ge (tgt := 159) hx hb d_M_compare_152 (by decide) (fun c43 => ?_) (fun c43 => ?_)
        · replace h := hx_ip c43 h
          refine lv_iconst (v := 1) hx hb d_M_compare_159 (by decide) ?_
          exact W.iret hx hb hr (fun t ht hW => hx_endi h ht hW hP hK hD hS) hS.2.2 d_M_compare_160
        · replace h := hx_in c43 h
          refine lv_iconst (v := -1) hx hb d_M_compare_155 (by decide) ?_
          refine lv_goto (tgt := 160) hx hb d_M_compare_156 (by decide) ?_
          exact W.iret hx hb hr (fun t ht hW => hx_endi h ht hW hP hK hD hS) hS.2.2 d_M_compare_160
  have B_107 : ∀ (σ : hm_S) (x21 : Int32) (x22 : Int32) (x23 : Int64) (x24 : Int64) (x25 : Int32) (H : Heap) (locs : List Loc) (ls : Array Slot), va_P D vwCl (hm_W T3 bd σ) H → va_D A (hm_W T3 bd σ) → va_S A s.heap H locs → lv_has ls 11 [(0, .ref (bd 0)), (1, .int x21), (3, .int x22), (5, .long x23), (7, .long x24)] → f_M_compare_107 σ x21 x22 x23 x24 x25 = some (r0, σ0) → W p l e (headSpec w_M_compare m_M_compare).room s m args below meth c H locs 0 0 (MQ below (hx_Qi D (hx_ty T3) A r0 (hm_W T3 bd σ0)) args s 0 0 A) (F0 m 107 ls [.int x25]) := by
      intro σ x21 x22 x23 x24 x25 H locs ls hP hD hS hl h
      rw [f_M_compare_107] at h
      refine lv_istore (lv' := [(9, .int x25), (0, .ref (bd 0)), (1, .int x21), (3, .int x22), (5, .long x23), (7, .long x24)]) hx hb d_M_compare_107 hl (by decide) rfl (fun ls hl => ?_)
      refine lv_aload_n hx hb d_M_compare_109 rfl (lv_at hl 1 rfl) ?_
      refine lv_iload_n hx hb d_M_compare_110 rfl (lv_at hl 3 rfl) ?_
      refine lv_lload hx hb d_M_compare_111 (lv_at hl 5 rfl) ?_
      obtain ⟨r26, er26, h⟩ := hx_b1s h
      refine hx_rd (va_runV (As := [.int x22, .long x24]) (rest := []) ⟨hx, hb, hml, hown, hts⟩ (c_M_sortOf l D T3 bd σ x22 x24 _ er26) (cwV 2 hts (hx_gV hx_cons k_666 k_668 k_28 k_55 k_669) rfl rfl rfl (by decide +kernel) ⟨Nat.le_of_ble_eq_true rfl, Nat.le_of_ble_eq_true rfl⟩) (hx_preV (va_recv hK hP (ci := 5) (q0 := 0) rfl hm_at_M) hP hK) rfl rfl hl.1 rfl (lv_room (Nat.le_of_ble_eq_true rfl)) d_M_compare_113 ⟨Nat.zero_le _, Nat.zero_le _⟩) ?_
      refine lv_iconst (v := 3) hx hb d_M_compare_116 (by decide) ?_
      refine lv_icmp_ne (tgt := 138) hx hb d_M_compare_117 (by decide) (fun c27 => ?_) (fun c27 => ?_)
      · replace h := hx_in c27 h
        refine lv_iconst (v := 0) hx hb d_M_compare_138 (by decide) ?_
        exact B_139 σ x21 x22 x23 x24 x25 (0 : Int32) _ _ ls hP hD hS (lv_sub hl [1, 2, 3, 4, 5, 0] rfl) h
      · replace h := hx_ip c27 h
        refine lv_aload_n hx hb d_M_compare_120 rfl (lv_at hl 1 rfl) ?_
        refine lv_iload_n hx hb d_M_compare_121 rfl (lv_at hl 3 rfl) ?_
        refine lv_lload hx hb d_M_compare_122 (lv_at hl 5 rfl) ?_
        obtain ⟨r44, er44, h⟩ := hx_b1s h
        refine hx_rd (va_runV (As := [.int x22, .long x24]) (rest := []) ⟨hx, hb, hml, hown, hts⟩ (c_M_isBelow l D T3 bd σ x22 x24 _ er44) (cwV 2 hts (hx_gV hx_cons k_670 k_672 k_29 k_55 k_673) rfl rfl rfl (by decide +kernel) ⟨Nat.le_of_ble_eq_true rfl, Nat.le_of_ble_eq_true rfl⟩) (hx_preV (va_recv hK hP (ci := 5) (q0 := 0) rfl hm_at_M) hP hK) rfl rfl hl.1 rfl (lv_room (Nat.le_of_ble_eq_true rfl)) d_M_compare_124 ⟨Nat.zero_le _, Nat.zero_le _⟩) ?_
        refine lv_if_eq (tgt := 134) hx hb d_M_compare_127 (by decide) (fun c45 => ?_) (fun c45 => ?_)
        · replace h := hx_ip c45 h
          refine lv_iconst (v := 1) hx hb d_M_compare_134 (by decide) ?_
          refine lv_goto (tgt := 139) hx hb d_M_compare_135 (by decide) ?_
          exact B_139 σ x21 x22 x23 x24 x25 (1 : Int32) _ _ ls hP hD hS (lv_sub hl [1, 2, 3, 4, 5, 0] rfl) h
        · replace h := hx_in c45 h
          refine lv_iconst (v := -1) hx hb d_M_compare_130 (by decide) ?_
          refine lv_goto (tgt := 139) hx hb d_M_compare_131 (by decide) ?_
          exact B_139 σ x21 x22 x23 x24 x25 (-1 : Int32) _ _ ls hP hD hS (lv_sub hl [1, 2, 3, 4, 5, 0] rfl) h
  refine W.eq (g2 := F0 m 0 ((lg_sl [.ref (bd 0), .int x1, .int x2, .int x3, .int x4] ++ List.replicate (11 - (lg_sl [.ref (bd 0), .int x1, .int x2, .int x3, .int x4]).length) Slot.unset).toArray) []) (by rw [hargs, lg_entry_eq]) ?_
  have hl := lv_entry ([.ref (bd 0), .int x1, .int x2, .int x3, .int x4]) (n := 11) (Nat.le_of_ble_eq_true rfl)
  generalize (lg_sl ([.ref (bd 0), .int x1, .int x2, .int x3, .int x4]) ++ List.replicate (11 - (lg_sl ([.ref (bd 0), .int x1, .int x2, .int x3, .int x4])).length) Slot.unset).toArray = ls at hl ⊢
  have hl : lv_has ls 11 [(0, .ref (bd 0)), (1, .int x1), (2, .int x2), (3, .int x3), (4, .int x4)] := hl
  rw [f_M_compare] at h
  refine lv_iload_n hx hb d_M_compare_0 rfl (lv_at hl 1 rfl) ?_
  obtain ⟨r5, er5, h⟩ := hx_b1s h
  refine hx_rd (va_runS (As := [.int x1]) (rest := []) ⟨hx, hb, hml, hown, hts⟩ (c_M_isFormat l D T3 x1 _ er5) (va_cwS 1 hts (hx_gS hx_cons k_624 k_625 k_55 k_626) rfl rfl rfl (by decide +kernel) ⟨Nat.le_of_ble_eq_true rfl, Nat.le_of_ble_eq_true rfl⟩) (hx_preS hx_nil hK) rfl rfl hl.1 rfl (lv_room (Nat.le_of_ble_eq_true rfl)) d_M_compare_1 ⟨Nat.zero_le _, Nat.zero_le _⟩) ?_
  refine lv_if_eq (tgt := 33) hx hb d_M_compare_4 (by decide) (fun c6 => ?_) (fun c6 => ?_)
  · replace h := hx_ip c6 h
    refine lv_bipush (v := -2) hx hb d_M_compare_33 (by decide) ?_
    exact W.iret hx hb hr (fun t ht hW => hx_endi h ht hW hP hK hD hS) hS.2.2 d_M_compare_35
  · replace h := hx_in c6 h
    refine lv_iload_n hx hb d_M_compare_7 rfl (lv_at hl 3 rfl) ?_
    obtain ⟨r7, er7, h⟩ := hx_b1s h
    refine hx_rd (va_runS (As := [.int x3]) (rest := []) ⟨hx, hb, hml, hown, hts⟩ (c_M_isFormat l D T3 x3 _ er7) (va_cwS 1 hts (hx_gS hx_cons k_624 k_625 k_55 k_626) rfl rfl rfl (by decide +kernel) ⟨Nat.le_of_ble_eq_true rfl, Nat.le_of_ble_eq_true rfl⟩) (hx_preS hx_nil hK) rfl rfl hl.1 rfl (lv_room (Nat.le_of_ble_eq_true rfl)) d_M_compare_8 ⟨Nat.zero_le _, Nat.zero_le _⟩) ?_
    refine lv_if_eq (tgt := 33) hx hb d_M_compare_11 (by decide) (fun c8 => ?_) (fun c8 => ?_)
    · replace h := hx_ip c8 h
      refine lv_bipush (v := -2) hx hb d_M_compare_33 (by decide) ?_
      exact W.iret hx hb hr (fun t ht hW => hx_endi h ht hW hP hK hD hS) hS.2.2 d_M_compare_35
    · replace h := hx_in c8 h
      refine lv_aload_n hx hb d_M_compare_14 rfl (lv_at hl 0 rfl) ?_
      refine lv_iload_n hx hb d_M_compare_15 rfl (lv_at hl 1 rfl) ?_
      refine lv_iload_n hx hb d_M_compare_16 rfl (lv_at hl 2 rfl) ?_
      obtain ⟨r9, er9, h⟩ := hx_b1s h
      refine hx_rd (va_runV (As := [.int x1, .int x2]) (rest := []) ⟨hx, hb, hml, hown, hts⟩ (c_M_isPattern l D T3 bd τ x1 x2 _ er9) (cwV 2 hts (hx_gV hx_cons k_655 k_657 k_26 k_55 k_658) rfl rfl rfl (by decide +kernel) ⟨Nat.le_of_ble_eq_true rfl, Nat.le_of_ble_eq_true rfl⟩) (hx_preV (va_recv hK hP (ci := 5) (q0 := 0) rfl hm_at_M) hP hK) rfl rfl hl.1 rfl (lv_room (Nat.le_of_ble_eq_true rfl)) d_M_compare_17 ⟨Nat.zero_le _, Nat.zero_le _⟩) ?_
      refine lv_if_eq (tgt := 33) hx hb d_M_compare_20 (by decide) (fun c10 => ?_) (fun c10 => ?_)
      · replace h := hx_ip c10 h
        refine lv_bipush (v := -2) hx hb d_M_compare_33 (by decide) ?_
        exact W.iret hx hb hr (fun t ht hW => hx_endi h ht hW hP hK hD hS) hS.2.2 d_M_compare_35
      · replace h := hx_in c10 h
        refine lv_aload_n hx hb d_M_compare_23 rfl (lv_at hl 0 rfl) ?_
        refine lv_iload_n hx hb d_M_compare_24 rfl (lv_at hl 3 rfl) ?_
        refine lv_iload hx hb d_M_compare_25 (lv_at hl 4 rfl) ?_
        obtain ⟨r11, er11, h⟩ := hx_b1s h
        refine hx_rd (va_runV (As := [.int x3, .int x4]) (rest := []) ⟨hx, hb, hml, hown, hts⟩ (c_M_isPattern l D T3 bd τ x3 x4 _ er11) (cwV 2 hts (hx_gV hx_cons k_655 k_657 k_26 k_55 k_658) rfl rfl rfl (by decide +kernel) ⟨Nat.le_of_ble_eq_true rfl, Nat.le_of_ble_eq_true rfl⟩) (hx_preV (va_recv hK hP (ci := 5) (q0 := 0) rfl hm_at_M) hP hK) rfl rfl hl.1 rfl (lv_room (Nat.le_of_ble_eq_true rfl)) d_M_compare_27 ⟨Nat.zero_le _, Nat.zero_le _⟩) ?_
        refine lv_if_ne (tgt := 36) hx hb d_M_compare_30 (by decide) (fun c12 => ?_) (fun c12 => ?_)
        · replace h := hx_in c12 h
          refine lv_aload_n hx hb d_M_compare_36 rfl (lv_at hl 0 rfl) ?_
          refine lv_iload_n hx hb d_M_compare_37 rfl (lv_at hl 1 rfl) ?_
          refine lv_iload_n hx hb d_M_compare_38 rfl (lv_at hl 2 rfl) ?_
          obtain ⟨r13, er13, h⟩ := hx_b1s h
          refine hx_rd (va_runV (As := [.int x1, .int x2]) (rest := []) ⟨hx, hb, hml, hown, hts⟩ (c_M_pattern l D T3 bd τ x1 x2 _ er13) (cwV 2 hts (hx_gV hx_cons k_659 k_661 k_27 k_55 k_662) rfl rfl rfl (by decide +kernel) ⟨Nat.le_of_ble_eq_true rfl, Nat.le_of_ble_eq_true rfl⟩) (hx_preV (va_recv hK hP (ci := 5) (q0 := 0) rfl hm_at_M) hP hK) rfl rfl hl.1 rfl (lv_room (Nat.le_of_ble_eq_true rfl)) d_M_compare_39 ⟨Nat.zero_le _, Nat.zero_le _⟩) ?_
          refine lv_lstore (lv' := [(5, .long r13), (0, .ref (bd 0)), (1, .int x1), (2, .int x2), (3, .int x3), (4, .int x4)]) hx hb d_M_compare_42 hl (by decide) rfl (fun ls hl => ?_)
          refine lv_aload_n hx hb d_M_compare_44 rfl (lv_at hl 1 rfl) ?_
          refine lv_iload_n hx hb d_M_compare_45 rfl (lv_at hl 4 rfl) ?_
          refine lv_iload hx hb d_M_compare_46 (lv_at hl 5 rfl) ?_
          obtain ⟨r14, er14, h⟩ := hx_b1s h
          refine hx_rd (va_runV (As := [.int x3, .int x4]) (rest := []) ⟨hx, hb, hml, hown, hts⟩ (c_M_pattern l D T3 bd τ x3 x4 _ er14) (cwV 2 hts (hx_gV hx_cons k_659 k_661 k_27 k_55 k_662) rfl rfl rfl (by decide +kernel) ⟨Nat.le_of_ble_eq_true rfl, Nat.le_of_ble_eq_true rfl⟩) (hx_preV (va_recv hK hP (ci := 5) (q0 := 0) rfl hm_at_M) hP hK) rfl rfl hl.1 rfl (lv_room (Nat.le_of_ble_eq_true rfl)) d_M_compare_48 ⟨Nat.zero_le _, Nat.zero_le _⟩) ?_
          refine lv_lstore (lv' := [(7, .long r14), (5, .long r13), (0, .ref (bd 0)), (1, .int x1), (2, .int x2), (3, .int x3), (4, .int x4)]) hx hb d_M_compare_51 hl (by decide) rfl (fun ls hl => ?_)
          refine lv_aload_n hx hb d_M_compare_53 rfl (lv_at hl 2 rfl) ?_
          refine lv_iload_n hx hb d_M_compare_54 rfl (lv_at hl 3 rfl) ?_
          refine lv_lload hx hb d_M_compare_55 (lv_at hl 1 rfl) ?_
          obtain ⟨r15, er15, h⟩ := hx_b1s h
          refine hx_rd (va_runV (As := [.int x1, .long r13]) (rest := []) ⟨hx, hb, hml, hown, hts⟩ (c_M_sortOf l D T3 bd τ x1 r13 _ er15) (cwV 2 hts (hx_gV hx_cons k_666 k_668 k_28 k_55 k_669) rfl rfl rfl (by decide +kernel) ⟨Nat.le_of_ble_eq_true rfl, Nat.le_of_ble_eq_true rfl⟩) (hx_preV (va_recv hK hP (ci := 5) (q0 := 0) rfl hm_at_M) hP hK) rfl rfl hl.1 rfl (lv_room (Nat.le_of_ble_eq_true rfl)) d_M_compare_57 ⟨Nat.zero_le _, Nat.zero_le _⟩) ?_
          refine lv_iconst (v := 4) hx hb d_M_compare_60 (by decide) ?_
          refine lv_icmp_eq (tgt := 75) hx hb d_M_compare_61 (by decide) (fun c16 => ?_) (fun c16 => ?_)
          · replace h := hx_ip c16 h
            refine lv_iconst (v := 2) hx hb d_M_compare_75 (by decide) ?_
            exact W.iret hx hb hr (fun t ht hW => hx_endi h ht hW hP hK hD hS) hS.2.2 d_M_compare_76
          · replace h := hx_in c16 h
            refine lv_aload_n hx hb d_M_compare_64 rfl (lv_at hl 2 rfl) ?_
            refine lv_iload_n hx hb d_M_compare_65 rfl (lv_at hl 5 rfl) ?_
            refine lv_lload hx hb d_M_compare_66 (lv_at hl 0 rfl) ?_
            obtain ⟨r17, er17, h⟩ := hx_b1s h
            refine hx_rd (va_runV (As := [.int x3, .long r14]) (rest := []) ⟨hx, hb, hml, hown, hts⟩ (c_M_sortOf l D T3 bd τ x3 r14 _ er17) (cwV 2 hts (hx_gV hx_cons k_666 k_668 k_28 k_55 k_669) rfl rfl rfl (by decide +kernel) ⟨Nat.le_of_ble_eq_true rfl, Nat.le_of_ble_eq_true rfl⟩) (hx_preV (va_recv hK hP (ci := 5) (q0 := 0) rfl hm_at_M) hP hK) rfl rfl hl.1 rfl (lv_room (Nat.le_of_ble_eq_true rfl)) d_M_compare_68 ⟨Nat.zero_le _, Nat.zero_le _⟩) ?_
            refine lv_iconst (v := 4) hx hb d_M_compare_71 (by decide) ?_
            refine lv_icmp_ne (tgt := 77) hx hb d_M_compare_72 (by decide) (fun c18 => ?_) (fun c18 => ?_)
            · replace h := hx_in c18 h
              refine lv_aload_n hx hb d_M_compare_77 rfl (lv_at hl 2 rfl) ?_
              refine lv_iload_n hx hb d_M_compare_78 rfl (lv_at hl 3 rfl) ?_
              refine lv_lload hx hb d_M_compare_79 (lv_at hl 1 rfl) ?_
              obtain ⟨r19, er19, h⟩ := hx_b1s h
              refine hx_rd (va_runV (As := [.int x1, .long r13]) (rest := []) ⟨hx, hb, hml, hown, hts⟩ (c_M_sortOf l D T3 bd τ x1 r13 _ er19) (cwV 2 hts (hx_gV hx_cons k_666 k_668 k_28 k_55 k_669) rfl rfl rfl (by decide +kernel) ⟨Nat.le_of_ble_eq_true rfl, Nat.le_of_ble_eq_true rfl⟩) (hx_preV (va_recv hK hP (ci := 5) (q0 := 0) rfl hm_at_M) hP hK) rfl rfl hl.1 rfl (lv_room (Nat.le_of_ble_eq_true rfl)) d_M_compare_81 ⟨Nat.zero_le _, Nat.zero_le _⟩) ?_
              refine lv_iconst (v := 3) hx hb d_M_compare_84 (by decide) ?_
              refine lv_icmp_ne (tgt := 106) hx hb d_M_compare_85 (by decide) (fun c20 => ?_) (fun c20 => ?_)
              · replace h := hx_in c20 h
                refine lv_iconst (v := 0) hx hb d_M_compare_106 (by decide) ?_
                exact B_107 τ x1 x3 r13 r14 (0 : Int32) _ _ ls hP hD hS (lv_sub hl [2, 3, 5, 1, 0] rfl) h
              · replace h := hx_ip c20 h
                refine lv_aload_n hx hb d_M_compare_88 rfl (lv_at hl 2 rfl) ?_
                refine lv_iload_n hx hb d_M_compare_89 rfl (lv_at hl 3 rfl) ?_
                refine lv_lload hx hb d_M_compare_90 (lv_at hl 1 rfl) ?_
                obtain ⟨r46, er46, h⟩ := hx_b1s h
                refine hx_rd (va_runV (As := [.int x1, .long r13]) (rest := []) ⟨hx, hb, hml, hown, hts⟩ (c_M_isBelow l D T3 bd τ x1 r13 _ er46) (cwV 2 hts (hx_gV hx_cons k_670 k_672 k_29 k_55 k_673) rfl rfl rfl (by decide +kernel) ⟨Nat.le_of_ble_eq_true rfl, Nat.le_of_ble_eq_true rfl⟩) (hx_preV (va_recv hK hP (ci := 5) (q0 := 0) rfl hm_at_M) hP hK) rfl rfl hl.1 rfl (lv_room (Nat.le_of_ble_eq_true rfl)) d_M_compare_92 ⟨Nat.zero_le _, Nat.zero_le _⟩) ?_
                refine lv_if_eq (tgt := 102) hx hb d_M_compare_95 (by decide) (fun c47 => ?_) (fun c47 => ?_)
                · replace h := hx_ip c47 h
                  refine lv_iconst (v := 1) hx hb d_M_compare_102 (by decide) ?_
                  refine lv_goto (tgt := 107) hx hb d_M_compare_103 (by decide) ?_
                  exact B_107 τ x1 x3 r13 r14 (1 : Int32) _ _ ls hP hD hS (lv_sub hl [2, 3, 5, 1, 0] rfl) h
                · replace h := hx_in c47 h
                  refine lv_iconst (v := -1) hx hb d_M_compare_98 (by decide) ?_
                  refine lv_goto (tgt := 107) hx hb d_M_compare_99 (by decide) ?_
                  exact B_107 τ x1 x3 r13 r14 (-1 : Int32) _ _ ls hP hD hS (lv_sub hl [2, 3, 5, 1, 0] rfl) h
            · replace h := hx_ip c18 h
              refine lv_iconst (v := 2) hx hb d_M_compare_75 (by decide) ?_
              exact W.iret hx hb hr (fun t ht hW => hx_endi h ht hW hP hK hD hS) hS.2.2 d_M_compare_76
        · replace h := hx_ip c12 h
          refine lv_bipush (v := -2) hx hb d_M_compare_33 (by decide) ?_
          exact W.iret hx hb hr (fun t ht hW => hx_endi h ht hW hP hK hD hS) hS.2.2 d_M_compare_35
abbrev m_M_flags : Room := { frames := 0, cells := 0, slots := 0, locals := 0 }
set_option maxHeartbeats 4000000 in
set_option maxRecDepth 100000 in
theorem c_M_flags (l : Launch) (D : va_G) (T3 : hx_T3) (bd : Nat → Nat) (sz : Nat) (τ : hm_S) (r0 : Int32) (σ0 : hm_S) (h : f_M_flags τ = some (r0, σ0)) : hx_Wi l D (hx_ty T3) y_M_flags w_M_flags m_M_flags [.ref (bd 0)] sz (hm_W T3 bd τ) r0 (hm_W T3 bd σ0) := by
  refine Met.ofW (cc := b_M_flags) (maxL := 2) (ret := (some .int)) (by decide) rfl ?_
  intro p e s m args below meth c s₁ B hml hv
  obtain ⟨hargs, hsz, hP, hK, hD0⟩ := hv
  have hx := B.exec
  have hb := B.bytes
  have hr := B.returns
  have hts := atoms_spec (ws := w_M_flags) B.pre
  have hown : s.vm.findClass "HalfFloatsModel" = some m.cls := findClass_of_methodNamed B.named
  have hlocks := B.notSynchronized
  subst hsz
  have hD := hD0.self (sz := s.heap.size)
  generalize hAe : va_A (hm_W T3 bd τ) s.heap.size = A at hD ⊢
  have hA : ∀ q : Nat, s.heap.size ≤ q → A q := fun q h => by rw [← hAe]; exact Or.inr h
  have hS : va_S A s.heap s.heap [] := va_S.rf
  refine W.eq (g2 := F0 m 0 ((lg_sl [.ref (bd 0)] ++ List.replicate (2 - (lg_sl [.ref (bd 0)]).length) Slot.unset).toArray) []) (by rw [hargs, lg_entry_eq]) ?_
  have hl := lv_entry ([.ref (bd 0)]) (n := 2) (Nat.le_of_ble_eq_true rfl)
  generalize (lg_sl ([.ref (bd 0)]) ++ List.replicate (2 - (lg_sl ([.ref (bd 0)])).length) Slot.unset).toArray = ls at hl ⊢
  have hl : lv_has ls 2 [(0, .ref (bd 0))] := hl
  rw [f_M_flags] at h
  refine lv_aload_n hx hb d_M_flags_0 rfl (lv_at hl 0 rfl) ?_
  refine va_get (D := D) (ci := 5) (v := .int (hm_flags τ)) (C := "HalfFloatsModel") (T := T_M) (N := 21) hx hb hts (hx_up in_M) hown hK hP (0) hm_at_M rfl 6 (by decide) (hts _ (hx_cons _ k_562)) (fun _ h9 => h9) rfl d_M_flags_1 ?_
  refine lv_topi (fun x1 ex1 => ?_)
  replace h := hx_ns ex1 h
  clear ex1
  refine lv_istore_n (lv' := [(1, .int x1), (0, .ref (bd 0))]) hx hb d_M_flags_4 rfl hl (by decide) rfl (fun ls hl => ?_)
  refine lv_aload_n hx hb d_M_flags_5 rfl (lv_at hl 1 rfl) ?_
  refine lv_iconst (v := 0) hx hb d_M_flags_6 (by decide) ?_
  refine va_put (D := D) (ci := 5) (v := .int (0 : Int32)) (ty := .int) (C := "HalfFloatsModel") (T := T_M) (N := 21) hx hb hts (hx_up in_M) ty_M tyok_M nm_M hown hK hP hD hS (0) hm_at_M rfl 6 (by decide) (hts _ (hx_cons _ k_562)) (fun _ h9 => h9) rfl (by decide +kernel) rfl rfl (Nat.le_of_ble_eq_true rfl) d_M_flags_7 (fun H locs hP hD hS => ?_)
  obtain ⟨σ2, eσ2⟩ : ∃ y : hm_S, y = (hm_flags_s τ (0 : Int32)) := ⟨_, rfl⟩
  replace hP : va_P D vwCl (hm_W T3 bd σ2) H := by rw [eσ2]; exact hP
  replace hD : va_D A (hm_W T3 bd σ2) := by rw [eσ2]; exact hD
  replace h := hx_ns eσ2 h
  clear eσ2
  refine lv_iload_n hx hb d_M_flags_10 rfl (lv_at hl 0 rfl) ?_
  exact W.iret hx hb hr (fun t ht hW => hx_endi h ht hW hP hK hD hS) hS.2.2 d_M_flags_11
abbrev m_M_seed : Room := { frames := 1, cells := 0, slots := 0, locals := 25 }
set_option maxHeartbeats 4000000 in
set_option maxRecDepth 100000 in
theorem c_M_seed (l : Launch) (D : va_G) (T3 : hx_T3) (bd : Nat → Nat) (sz : Nat) (τ : hm_S) (x1 : Int32) (r0 : Int32) (σ0 : hm_S) (h : f_M_seed τ x1 = some (r0, σ0)) : hx_Wi l D (hx_ty T3) y_M_seed w_M_seed m_M_seed [.ref (bd 0), .int x1] sz (hm_W T3 bd τ) r0 (hm_W T3 bd σ0) := by
  refine Met.ofW (cc := b_M_seed) (maxL := 3) (ret := (some .int)) (by decide) rfl ?_
  intro p e s m args below meth c s₁ B hml hv
  obtain ⟨hargs, hsz, hP, hK, hD0⟩ := hv
  have hx := B.exec
  have hb := B.bytes
  have hr := B.returns
  have hts := atoms_spec (ws := w_M_seed) B.pre
  have hown : s.vm.findClass "HalfFloatsModel" = some m.cls := findClass_of_methodNamed B.named
  have hlocks := B.notSynchronized
  subst hsz
  have hD := hD0.self (sz := s.heap.size)
  generalize hAe : va_A (hm_W T3 bd τ) s.heap.size = A at hD ⊢
  have hA : ∀ q : Nat, s.heap.size ≤ q → A q := fun q h => by rw [← hAe]; exact Or.inr h
  have hS : va_S A s.heap s.heap [] := va_S.rf
  refine W.eq (g2 := F0 m 0 ((lg_sl [.ref (bd 0), .int x1] ++ List.replicate (3 - (lg_sl [.ref (bd 0), .int x1]).length) Slot.unset).toArray) []) (by rw [hargs, lg_entry_eq]) ?_
  have hl := lv_entry ([.ref (bd 0), .int x1]) (n := 3) (Nat.le_of_ble_eq_true rfl)
  generalize (lg_sl ([.ref (bd 0), .int x1]) ++ List.replicate (3 - (lg_sl ([.ref (bd 0), .int x1])).length) Slot.unset).toArray = ls at hl ⊢
  have hl : lv_has ls 3 [(0, .ref (bd 0)), (1, .int x1)] := hl
  rw [f_M_seed] at h
  refine lv_iload_n hx hb d_M_seed_0 rfl (lv_at hl 1 rfl) ?_
  refine lv_i2l hx hb d_M_seed_1 rfl ?_
  refine lv_lconst (v := 1) hx hb d_M_seed_2 rfl ?_
  refine lv_ldc2 (v := 2147483646) hx hb hown (hts _ (hx_cons _ k_772)) d_M_seed_3 ?_
  obtain ⟨r2, er2, h⟩ := hx_b1s h
  refine hx_rd (va_runS (As := [.long x1.toInt64, .long (1 : Int64), .long (2147483646 : Int64)]) (rest := []) ⟨hx, hb, hml, hown, hts⟩ (c_M_isIn l D T3 x1.toInt64 (1 : Int64) (2147483646 : Int64) _ er2) (va_cwS 3 hts (hx_gS hx_cons k_628 k_629 k_55 k_630) rfl rfl rfl (by decide +kernel) ⟨Nat.le_of_ble_eq_true rfl, Nat.le_of_ble_eq_true rfl⟩) (hx_preS hx_nil hK) rfl rfl hl.1 rfl (lv_room (Nat.le_of_ble_eq_true rfl)) d_M_seed_6 ⟨Nat.zero_le _, Nat.zero_le _⟩) ?_
  refine lv_if_ne (tgt := 15) hx hb d_M_seed_9 (by decide) (fun c3 => ?_) (fun c3 => ?_)
  · replace h := hx_in c3 h
    refine lv_aload_n hx hb d_M_seed_15 rfl (lv_at hl 0 rfl) ?_
    refine va_get (D := D) (ci := 5) (v := .long (hm_state τ)) (C := "HalfFloatsModel") (T := T_M) (N := 21) hx hb hts (hx_up in_M) hown hK hP (0) hm_at_M rfl 7 (by decide) (hts _ (hx_cons _ k_563)) (fun _ h9 => h9) rfl d_M_seed_16 ?_
    refine lv_l2i hx hb d_M_seed_19 rfl ?_
    refine lv_topi (fun x4 ex4 => ?_)
    replace h := hx_ns ex4 h
    clear ex4
    refine lv_istore_n (lv' := [(2, .int x4), (0, .ref (bd 0)), (1, .int x1)]) hx hb d_M_seed_20 rfl hl (by decide) rfl (fun ls hl => ?_)
    refine lv_aload_n hx hb d_M_seed_21 rfl (lv_at hl 1 rfl) ?_
    refine lv_iload_n hx hb d_M_seed_22 rfl (lv_at hl 2 rfl) ?_
    refine lv_i2l hx hb d_M_seed_23 rfl ?_
    refine va_put (D := D) (ci := 5) (v := .long x1.toInt64) (ty := .long) (C := "HalfFloatsModel") (T := T_M) (N := 21) hx hb hts (hx_up in_M) ty_M tyok_M nm_M hown hK hP hD hS (0) hm_at_M rfl 7 (by decide) (hts _ (hx_cons _ k_563)) (fun _ h9 => h9) rfl (by decide +kernel) rfl rfl (Nat.le_of_ble_eq_true rfl) d_M_seed_24 (fun H locs hP hD hS => ?_)
    obtain ⟨σ5, eσ5⟩ : ∃ y : hm_S, y = (hm_state_s τ x1.toInt64) := ⟨_, rfl⟩
    replace hP : va_P D vwCl (hm_W T3 bd σ5) H := by rw [eσ5]; exact hP
    replace hD : va_D A (hm_W T3 bd σ5) := by rw [eσ5]; exact hD
    replace h := hx_ns eσ5 h
    clear eσ5
    refine lv_iload_n hx hb d_M_seed_27 rfl (lv_at hl 0 rfl) ?_
    exact W.iret hx hb hr (fun t ht hW => hx_endi h ht hW hP hK hD hS) hS.2.2 d_M_seed_28
  · replace h := hx_ip c3 h
    refine lv_bipush (v := -2) hx hb d_M_seed_12 (by decide) ?_
    exact W.iret hx hb hr (fun t ht hW => hx_endi h ht hW hP hK hD hS) hS.2.2 d_M_seed_14
abbrev m_M_clear : Room := { frames := 2, cells := 0, slots := 0, locals := 45 }
set_option maxHeartbeats 4000000 in
set_option maxRecDepth 100000 in
theorem c_M_clear (l : Launch) (D : va_G) (T3 : hx_T3) (bd : Nat → Nat) (sz : Nat) (τ : hm_S) (x1 : Int32) (x2 : Int32) (r0 : Int32) (σ0 : hm_S) (h : f_M_clear τ x1 x2 = some (r0, σ0)) : hx_Wi l D (hx_ty T3) y_M_clear w_M_clear m_M_clear [.ref (bd 0), .int x1, .int x2] sz (hm_W T3 bd τ) r0 (hm_W T3 bd σ0) := by
  refine Met.ofW (cc := b_M_clear) (maxL := 4) (ret := (some .int)) (by decide) rfl ?_
  intro p e s m args below meth c s₁ B hml hv
  obtain ⟨hargs, hsz, hP, hK, hD0⟩ := hv
  have hx := B.exec
  have hb := B.bytes
  have hr := B.returns
  have hts := atoms_spec (ws := w_M_clear) B.pre
  have hown : s.vm.findClass "HalfFloatsModel" = some m.cls := findClass_of_methodNamed B.named
  have hlocks := B.notSynchronized
  subst hsz
  have hD := hD0.self (sz := s.heap.size)
  generalize hAe : va_A (hm_W T3 bd τ) s.heap.size = A at hD ⊢
  have hA : ∀ q : Nat, s.heap.size ≤ q → A q := fun q h => by rw [← hAe]; exact Or.inr h
  have hS : va_S A s.heap s.heap [] := va_S.rf
  refine W.eq (g2 := F0 m 0 ((lg_sl [.ref (bd 0), .int x1, .int x2] ++ List.replicate (4 - (lg_sl [.ref (bd 0), .int x1, .int x2]).length) Slot.unset).toArray) []) (by rw [hargs, lg_entry_eq]) ?_
  have hl := lv_entry ([.ref (bd 0), .int x1, .int x2]) (n := 4) (Nat.le_of_ble_eq_true rfl)
  generalize (lg_sl ([.ref (bd 0), .int x1, .int x2]) ++ List.replicate (4 - (lg_sl ([.ref (bd 0), .int x1, .int x2])).length) Slot.unset).toArray = ls at hl ⊢
  have hl : lv_has ls 4 [(0, .ref (bd 0)), (1, .int x1), (2, .int x2)] := hl
  rw [f_M_clear] at h
  refine lv_iload_n hx hb d_M_clear_0 rfl (lv_at hl 1 rfl) ?_
  refine lv_i2l hx hb d_M_clear_1 rfl ?_
  refine lv_lconst (v := 0) hx hb d_M_clear_2 rfl ?_
  refine lv_lconst (v := 1) hx hb d_M_clear_3 rfl ?_
  obtain ⟨r3, er3, h⟩ := hx_b1s h
  refine hx_rd (va_runS (As := [.long x1.toInt64, .long (0 : Int64), .long (1 : Int64)]) (rest := []) ⟨hx, hb, hml, hown, hts⟩ (c_M_isIn l D T3 x1.toInt64 (0 : Int64) (1 : Int64) _ er3) (va_cwS 3 hts (hx_gS hx_cons k_628 k_629 k_55 k_630) rfl rfl rfl (by decide +kernel) ⟨Nat.le_of_ble_eq_true rfl, Nat.le_of_ble_eq_true rfl⟩) (hx_preS hx_nil hK) rfl rfl hl.1 rfl (lv_room (Nat.le_of_ble_eq_true rfl)) d_M_clear_4 ⟨Nat.zero_le _, Nat.zero_le _⟩) ?_
  refine lv_if_eq (tgt := 17) hx hb d_M_clear_7 (by decide) (fun c4 => ?_) (fun c4 => ?_)
  · replace h := hx_ip c4 h
    refine lv_bipush (v := -2) hx hb d_M_clear_17 (by decide) ?_
    exact W.iret hx hb hr (fun t ht hW => hx_endi h ht hW hP hK hD hS) hS.2.2 d_M_clear_19
  · replace h := hx_in c4 h
    refine lv_iload_n hx hb d_M_clear_10 rfl (lv_at hl 2 rfl) ?_
    obtain ⟨r5, er5, h⟩ := hx_b1s h
    refine hx_rd (va_runS (As := [.int x2]) (rest := []) ⟨hx, hb, hml, hown, hts⟩ (c_M_isFormat l D T3 x2 _ er5) (va_cwS 1 hts (hx_gS hx_cons k_624 k_625 k_55 k_626) rfl rfl rfl (by decide +kernel) ⟨Nat.le_of_ble_eq_true rfl, Nat.le_of_ble_eq_true rfl⟩) (hx_preS hx_nil hK) rfl rfl hl.1 rfl (lv_room (Nat.le_of_ble_eq_true rfl)) d_M_clear_11 ⟨Nat.zero_le _, Nat.zero_le _⟩) ?_
    refine lv_if_ne (tgt := 20) hx hb d_M_clear_14 (by decide) (fun c6 => ?_) (fun c6 => ?_)
    · replace h := hx_in c6 h
      refine lv_aload_n hx hb d_M_clear_20 rfl (lv_at hl 0 rfl) ?_
      refine va_get (D := D) (ci := 5) (v := .ref (bd 5)) (C := "HalfFloatsModel") (T := T_M) (N := 21) hx hb hts (hx_up in_M) hown hK hP (0) hm_at_M rfl 4 (by decide) (hts _ (hx_cons _ k_560)) (fun _ h9 => h9) rfl d_M_clear_21 ?_
      refine lv_iload_n hx hb d_M_clear_24 rfl (lv_at hl 1 rfl) ?_
      obtain ⟨g7, h⟩ := hx_gs h
      refine va_iald hx hb hK hP (5) 1 hm_at_rM rfl g7 d_M_clear_25 ?_
      refine lv_topi (fun x8 ex8 => ?_)
      replace h := hx_ns ex8 h
      clear ex8
      refine lv_istore_n (lv' := [(3, .int x8), (0, .ref (bd 0)), (1, .int x1), (2, .int x2)]) hx hb d_M_clear_26 rfl hl (by decide) rfl (fun ls hl => ?_)
      refine lv_aload_n hx hb d_M_clear_27 rfl (lv_at hl 1 rfl) ?_
      refine va_get (D := D) (ci := 5) (v := .ref (bd 5)) (C := "HalfFloatsModel") (T := T_M) (N := 21) hx hb hts (hx_up in_M) hown hK hP (0) hm_at_M rfl 4 (by decide) (hts _ (hx_cons _ k_560)) (fun _ h9 => h9) rfl d_M_clear_28 ?_
      refine lv_iload_n hx hb d_M_clear_31 rfl (lv_at hl 2 rfl) ?_
      refine lv_iconst (v := 0) hx hb d_M_clear_32 (by decide) ?_
      obtain ⟨g9, h⟩ := hx_gs h
      refine va_iast hx hb hK hP hD hS (5) 1 hm_at_rM rfl g9 d_M_clear_33 (fun H locs hP hD hS => ?_)
      obtain ⟨σ10, eσ10⟩ : ∃ y : hm_S, y = (hm_rM_s τ x1.toNatClampNeg (0 : Int32)) := ⟨_, rfl⟩
      replace hP : va_P D vwCl (hm_W T3 bd σ10) H := by rw [eσ10]; exact hP
      replace hD : va_D A (hm_W T3 bd σ10) := by rw [eσ10]; exact hD
      replace h := hx_ns eσ10 h
      clear eσ10
      refine lv_aload_n hx hb d_M_clear_34 rfl (lv_at hl 1 rfl) ?_
      refine va_get (D := D) (ci := 5) (v := .ref (bd 4)) (C := "HalfFloatsModel") (T := T_M) (N := 21) hx hb hts (hx_up in_M) hown hK hP (0) hm_at_M rfl 3 (by decide) (hts _ (hx_cons _ k_559)) (fun _ h9 => h9) rfl d_M_clear_35 ?_
      refine lv_iload_n hx hb d_M_clear_38 rfl (lv_at hl 2 rfl) ?_
      refine lv_iload_n hx hb d_M_clear_39 rfl (lv_at hl 3 rfl) ?_
      obtain ⟨g11, h⟩ := hx_gs h
      refine va_iast hx hb hK hP hD hS (4) 1 hm_at_rF rfl g11 d_M_clear_40 (fun H locs hP hD hS => ?_)
      obtain ⟨σ12, eσ12⟩ : ∃ y : hm_S, y = (hm_rF_s σ10 x1.toNatClampNeg x2) := ⟨_, rfl⟩
      replace hP : va_P D vwCl (hm_W T3 bd σ12) H := by rw [eσ12]; exact hP
      replace hD : va_D A (hm_W T3 bd σ12) := by rw [eσ12]; exact hD
      replace h := hx_ns eσ12 h
      clear eσ12
      refine lv_iload_n hx hb d_M_clear_41 rfl (lv_at hl 0 rfl) ?_
      exact W.iret hx hb hr (fun t ht hW => hx_endi h ht hW hP hK hD hS) hS.2.2 d_M_clear_42
    · replace h := hx_ip c6 h
      refine lv_bipush (v := -2) hx hb d_M_clear_17 (by decide) ?_
      exact W.iret hx hb hr (fun t ht hW => hx_endi h ht hW hP hK hD hS) hS.2.2 d_M_clear_19
abbrev m_M_push : Room := { frames := 3, cells := 0, slots := 0, locals := 67 }
set_option maxHeartbeats 4000000 in
set_option maxRecDepth 100000 in
theorem c_M_push (l : Launch) (D : va_G) (T3 : hx_T3) (bd : Nat → Nat) (sz : Nat) (τ : hm_S) (x1 : Int32) (x2 : Int32) (r0 : Int32) (σ0 : hm_S) (h : f_M_push τ x1 x2 = some (r0, σ0)) : hx_Wi l D (hx_ty T3) y_M_push w_M_push m_M_push [.ref (bd 0), .int x1, .int x2] sz (hm_W T3 bd τ) r0 (hm_W T3 bd σ0) := by
  refine Met.ofW (cc := b_M_push) (maxL := 3) (ret := (some .int)) (by decide) rfl ?_
  intro p e s m args below meth c s₁ B hml hv
  obtain ⟨hargs, hsz, hP, hK, hD0⟩ := hv
  have hx := B.exec
  have hb := B.bytes
  have hr := B.returns
  have hts := atoms_spec (ws := w_M_push) B.pre
  have hown : s.vm.findClass "HalfFloatsModel" = some m.cls := findClass_of_methodNamed B.named
  have hlocks := B.notSynchronized
  subst hsz
  have hD := hD0.self (sz := s.heap.size)
  generalize hAe : va_A (hm_W T3 bd τ) s.heap.size = A at hD ⊢
  have hA : ∀ q : Nat, s.heap.size ≤ q → A q := fun q h => by rw [← hAe]; exact Or.inr h
  have hS : va_S A s.heap s.heap [] := va_S.rf
  refine W.eq (g2 := F0 m 0 ((lg_sl [.ref (bd 0), .int x1, .int x2] ++ List.replicate (3 - (lg_sl [.ref (bd 0), .int x1, .int x2]).length) Slot.unset).toArray) []) (by rw [hargs, lg_entry_eq]) ?_
  have hl := lv_entry ([.ref (bd 0), .int x1, .int x2]) (n := 3) (Nat.le_of_ble_eq_true rfl)
  generalize (lg_sl ([.ref (bd 0), .int x1, .int x2]) ++ List.replicate (3 - (lg_sl ([.ref (bd 0), .int x1, .int x2])).length) Slot.unset).toArray = ls at hl ⊢
  have hl : lv_has ls 3 [(0, .ref (bd 0)), (1, .int x1), (2, .int x2)] := hl
  rw [f_M_push] at h
  refine lv_iload_n hx hb d_M_push_0 rfl (lv_at hl 1 rfl) ?_
  refine lv_i2l hx hb d_M_push_1 rfl ?_
  refine lv_lconst (v := 0) hx hb d_M_push_2 rfl ?_
  refine lv_lconst (v := 1) hx hb d_M_push_3 rfl ?_
  obtain ⟨r3, er3, h⟩ := hx_b1s h
  refine hx_rd (va_runS (As := [.long x1.toInt64, .long (0 : Int64), .long (1 : Int64)]) (rest := []) ⟨hx, hb, hml, hown, hts⟩ (c_M_isIn l D T3 x1.toInt64 (0 : Int64) (1 : Int64) _ er3) (va_cwS 3 hts (hx_gS hx_cons k_628 k_629 k_55 k_630) rfl rfl rfl (by decide +kernel) ⟨Nat.le_of_ble_eq_true rfl, Nat.le_of_ble_eq_true rfl⟩) (hx_preS hx_nil hK) rfl rfl hl.1 rfl (lv_room (Nat.le_of_ble_eq_true rfl)) d_M_push_4 ⟨Nat.zero_le _, Nat.zero_le _⟩) ?_
  refine lv_if_eq (tgt := 24) hx hb d_M_push_7 (by decide) (fun c4 => ?_) (fun c4 => ?_)
  · replace h := hx_ip c4 h
    refine lv_bipush (v := -2) hx hb d_M_push_24 (by decide) ?_
    exact W.iret hx hb hr (fun t ht hW => hx_endi h ht hW hP hK hD hS) hS.2.2 d_M_push_26
  · replace h := hx_in c4 h
    refine lv_aload_n hx hb d_M_push_10 rfl (lv_at hl 0 rfl) ?_
    refine lv_aload_n hx hb d_M_push_11 rfl (lv_at hl 0 rfl) ?_
    refine va_get (D := D) (ci := 5) (v := .ref (bd 4)) (C := "HalfFloatsModel") (T := T_M) (N := 21) hx hb hts (hx_up in_M) hown hK hP (0) hm_at_M rfl 3 (by decide) (hts _ (hx_cons _ k_559)) (fun _ h9 => h9) rfl d_M_push_12 ?_
    refine lv_iload_n hx hb d_M_push_15 rfl (lv_at hl 1 rfl) ?_
    obtain ⟨g5, h⟩ := hx_gs h
    refine va_iald hx hb hK hP (4) 1 hm_at_rF rfl g5 d_M_push_16 ?_
    refine lv_iload_n hx hb d_M_push_17 rfl (lv_at hl 2 rfl) ?_
    obtain ⟨r6, er6, h⟩ := hx_b1s h
    refine hx_rd (va_runV (As := [.int (hm_rF τ x1.toNatClampNeg), .int x2]) (rest := []) ⟨hx, hb, hml, hown, hts⟩ (c_M_isPattern l D T3 bd τ (hm_rF τ x1.toNatClampNeg) x2 _ er6) (cwV 2 hts (hx_gV hx_cons k_655 k_657 k_26 k_55 k_658) rfl rfl rfl (by decide +kernel) ⟨Nat.le_of_ble_eq_true rfl, Nat.le_of_ble_eq_true rfl⟩) (hx_preV (va_recv hK hP (ci := 5) (q0 := 0) rfl hm_at_M) hP hK) rfl rfl hl.1 rfl (lv_room (Nat.le_of_ble_eq_true rfl)) d_M_push_18 ⟨Nat.zero_le _, Nat.zero_le _⟩) ?_
    refine lv_if_ne (tgt := 27) hx hb d_M_push_21 (by decide) (fun c7 => ?_) (fun c7 => ?_)
    · replace h := hx_in c7 h
      refine lv_aload_n hx hb d_M_push_27 rfl (lv_at hl 0 rfl) ?_
      refine va_get (D := D) (ci := 5) (v := .ref (bd 5)) (C := "HalfFloatsModel") (T := T_M) (N := 21) hx hb hts (hx_up in_M) hown hK hP (0) hm_at_M rfl 4 (by decide) (hts _ (hx_cons _ k_560)) (fun _ h9 => h9) rfl d_M_push_28 ?_
      refine lv_iload_n hx hb d_M_push_31 rfl (lv_at hl 1 rfl) ?_
      obtain ⟨g8, h⟩ := hx_gs h
      refine va_iald hx hb hK hP (5) 1 hm_at_rM rfl g8 d_M_push_32 ?_
      refine lv_bipush (v := 32) hx hb d_M_push_33 (by decide) ?_
      refine lv_icmp_ne (tgt := 41) hx hb d_M_push_35 (by decide) (fun c9 => ?_) (fun c9 => ?_)
      · replace h := hx_in c9 h
        refine lv_aload_n hx hb d_M_push_41 rfl (lv_at hl 0 rfl) ?_
        refine va_get (D := D) (ci := 5) (v := .ref (bd 6)) (C := "HalfFloatsModel") (T := T_M) (N := 21) hx hb hts (hx_up in_M) hown hK hP (0) hm_at_M rfl 5 (by decide) (hts _ (hx_cons _ k_561)) (fun _ h9 => h9) rfl d_M_push_42 ?_
        refine lv_bipush (v := 32) hx hb d_M_push_45 (by decide) ?_
        refine lv_iload_n hx hb d_M_push_47 rfl (lv_at hl 1 rfl) ?_
        refine lv_imul hx hb d_M_push_48 ?_
        refine lv_aload_n hx hb d_M_push_49 rfl (lv_at hl 0 rfl) ?_
        refine va_get (D := D) (ci := 5) (v := .ref (bd 5)) (C := "HalfFloatsModel") (T := T_M) (N := 21) hx hb hts (hx_up in_M) hown hK hP (0) hm_at_M rfl 4 (by decide) (hts _ (hx_cons _ k_560)) (fun _ h9 => h9) rfl d_M_push_50 ?_
        refine lv_iload_n hx hb d_M_push_53 rfl (lv_at hl 1 rfl) ?_
        obtain ⟨g10, h⟩ := hx_gs h
        refine va_iald hx hb hK hP (5) 1 hm_at_rM rfl g10 d_M_push_54 ?_
        refine lv_iadd hx hb d_M_push_55 ?_
        refine lv_aload_n hx hb d_M_push_56 rfl (lv_at hl 0 rfl) ?_
        refine lv_aload_n hx hb d_M_push_57 rfl (lv_at hl 0 rfl) ?_
        refine va_get (D := D) (ci := 5) (v := .ref (bd 4)) (C := "HalfFloatsModel") (T := T_M) (N := 21) hx hb hts (hx_up in_M) hown hK hP (0) hm_at_M rfl 3 (by decide) (hts _ (hx_cons _ k_559)) (fun _ h9 => h9) rfl d_M_push_58 ?_
        refine lv_iload_n hx hb d_M_push_61 rfl (lv_at hl 1 rfl) ?_
        obtain ⟨g11, h⟩ := hx_gs h
        refine va_iald hx hb hK hP (4) 1 hm_at_rF rfl g11 d_M_push_62 ?_
        refine lv_iload_n hx hb d_M_push_63 rfl (lv_at hl 2 rfl) ?_
        obtain ⟨r12, er12, h⟩ := hx_b1s h
        refine hx_rd (va_runV (As := [.int (hm_rF τ x1.toNatClampNeg), .int x2]) (rest := [.int (((32 : Int32) * x1) + (hm_rM τ x1.toNatClampNeg)), .ref (bd 6)]) ⟨hx, hb, hml, hown, hts⟩ (c_M_pattern l D T3 bd τ (hm_rF τ x1.toNatClampNeg) x2 _ er12) (cwV 2 hts (hx_gV hx_cons k_659 k_661 k_27 k_55 k_662) rfl rfl rfl (by decide +kernel) ⟨Nat.le_of_ble_eq_true rfl, Nat.le_of_ble_eq_true rfl⟩) (hx_preV (va_recv hK hP (ci := 5) (q0 := 0) rfl hm_at_M) hP hK) rfl rfl hl.1 rfl (lv_room (Nat.le_of_ble_eq_true rfl)) d_M_push_64 ⟨Nat.zero_le _, Nat.zero_le _⟩) ?_
        obtain ⟨g13, h⟩ := hx_gs h
        refine va_last hx hb hK hP hD hS (6) 2 hm_at_row rfl g13 d_M_push_67 (fun H locs hP hD hS => ?_)
        obtain ⟨σ14, eσ14⟩ : ∃ y : hm_S, y = (hm_row_s τ (((32 : Int32) * x1) + (hm_rM τ x1.toNatClampNeg)).toNatClampNeg r12) := ⟨_, rfl⟩
        replace hP : va_P D vwCl (hm_W T3 bd σ14) H := by rw [eσ14]; exact hP
        replace hD : va_D A (hm_W T3 bd σ14) := by rw [eσ14]; exact hD
        replace h := hx_ns eσ14 h
        clear eσ14
        refine lv_aload_n hx hb d_M_push_68 rfl (lv_at hl 0 rfl) ?_
        refine va_get (D := D) (ci := 5) (v := .ref (bd 5)) (C := "HalfFloatsModel") (T := T_M) (N := 21) hx hb hts (hx_up in_M) hown hK hP (0) hm_at_M rfl 4 (by decide) (hts _ (hx_cons _ k_560)) (fun _ h9 => h9) rfl d_M_push_69 ?_
        refine lv_iload_n hx hb d_M_push_72 rfl (lv_at hl 1 rfl) ?_
        refine lv_dup2_11 hx hb d_M_push_73 rfl rfl ?_
        obtain ⟨g15, h⟩ := hx_gs h
        refine va_iald hx hb hK hP (5) 1 hm_at_rM rfl g15 d_M_push_74 ?_
        refine lv_iconst (v := 1) hx hb d_M_push_75 (by decide) ?_
        refine lv_iadd hx hb d_M_push_76 ?_
        refine lv_topi (fun x16 ex16 => ?_)
        replace h := hx_ns ex16 h
        clear ex16
        obtain ⟨g17, h⟩ := hx_gs h
        refine va_iast hx hb hK hP hD hS (5) 1 hm_at_rM rfl g17 d_M_push_77 (fun H locs hP hD hS => ?_)
        obtain ⟨σ18, eσ18⟩ : ∃ y : hm_S, y = (hm_rM_s σ14 x1.toNatClampNeg x16) := ⟨_, rfl⟩
        replace hP : va_P D vwCl (hm_W T3 bd σ18) H := by rw [eσ18]; exact hP
        replace hD : va_D A (hm_W T3 bd σ18) := by rw [eσ18]; exact hD
        replace h := hx_ns eσ18 h
        clear eσ18
        refine lv_aload_n hx hb d_M_push_78 rfl (lv_at hl 0 rfl) ?_
        refine va_get (D := D) (ci := 5) (v := .ref (bd 5)) (C := "HalfFloatsModel") (T := T_M) (N := 21) hx hb hts (hx_up in_M) hown hK hP (0) hm_at_M rfl 4 (by decide) (hts _ (hx_cons _ k_560)) (fun _ h9 => h9) rfl d_M_push_79 ?_
        refine lv_iload_n hx hb d_M_push_82 rfl (lv_at hl 1 rfl) ?_
        obtain ⟨g19, h⟩ := hx_gs h
        refine va_iald hx hb hK hP (5) 1 hm_at_rM rfl g19 d_M_push_83 ?_
        exact W.iret hx hb hr (fun t ht hW => hx_endi h ht hW hP hK hD hS) hS.2.2 d_M_push_84
      · replace h := hx_ip c9 h
        refine lv_bipush (v := -3) hx hb d_M_push_38 (by decide) ?_
        exact W.iret hx hb hr (fun t ht hW => hx_endi h ht hW hP hK hD hS) hS.2.2 d_M_push_40
    · replace h := hx_ip c7 h
      refine lv_bipush (v := -2) hx hb d_M_push_24 (by decide) ?_
      exact W.iret hx hb hr (fun t ht hW => hx_endi h ht hW hP hK hD hS) hS.2.2 d_M_push_26
abbrev m_M_at : Room := { frames := 1, cells := 0, slots := 0, locals := 25 }
set_option maxHeartbeats 4000000 in
set_option maxRecDepth 100000 in
theorem c_M_at (l : Launch) (D : va_G) (T3 : hx_T3) (bd : Nat → Nat) (τ : hm_S) (x1 : Int32) (x2 : Int32) (r0 : Int64) (h : f_M_at τ x1 x2 = some r0) : hx_R l D (hx_ty T3) (hm_W T3 bd τ) y_M_at w_M_at m_M_at [.ref (bd 0), .int x1, .int x2] (.long r0) := by
  refine Met.ofW (cc := b_M_at) (maxL := 3) (ret := (some .long)) (by decide) rfl ?_
  intro p e s m args below meth c s₁ B hml hv
  obtain ⟨hargs, hP, hK⟩ := hv
  have hx := B.exec
  have hb := B.bytes
  have hr := B.returns
  have hts := atoms_spec (ws := w_M_at) B.pre
  have hown : s.vm.findClass "HalfFloatsModel" = some m.cls := findClass_of_methodNamed B.named
  have hlocks := B.notSynchronized
  refine W.eq (g2 := F0 m 0 ((lg_sl [.ref (bd 0), .int x1, .int x2] ++ List.replicate (3 - (lg_sl [.ref (bd 0), .int x1, .int x2]).length) Slot.unset).toArray) []) (by rw [hargs, lg_entry_eq]) ?_
  have hl := lv_entry ([.ref (bd 0), .int x1, .int x2]) (n := 3) (Nat.le_of_ble_eq_true rfl)
  generalize (lg_sl ([.ref (bd 0), .int x1, .int x2]) ++ List.replicate (3 - (lg_sl ([.ref (bd 0), .int x1, .int x2])).length) Slot.unset).toArray = ls at hl ⊢
  have hl : lv_has ls 3 [(0, .ref (bd 0)), (1, .int x1), (2, .int x2)] := hl
  rw [f_M_at] at h
  refine lv_iload_n hx hb d_M_at_0 rfl (lv_at hl 1 rfl) ?_
  refine lv_i2l hx hb d_M_at_1 rfl ?_
  refine lv_lconst (v := 0) hx hb d_M_at_2 rfl ?_
  refine lv_lconst (v := 1) hx hb d_M_at_3 rfl ?_
  obtain ⟨r3, er3, h⟩ := hx_b1s h
  refine hx_rd (va_runS (As := [.long x1.toInt64, .long (0 : Int64), .long (1 : Int64)]) (rest := []) ⟨hx, hb, hml, hown, hts⟩ (c_M_isIn l D T3 x1.toInt64 (0 : Int64) (1 : Int64) _ er3) (va_cwS 3 hts (hx_gS hx_cons k_628 k_629 k_55 k_630) rfl rfl rfl (by decide +kernel) ⟨Nat.le_of_ble_eq_true rfl, Nat.le_of_ble_eq_true rfl⟩) (hx_preS hx_nil hK) rfl rfl hl.1 rfl (lv_room (Nat.le_of_ble_eq_true rfl)) d_M_at_4 ⟨Nat.zero_le _, Nat.zero_le _⟩) ?_
  refine lv_if_eq (tgt := 42) hx hb d_M_at_7 (by decide) (fun c4 => ?_) (fun c4 => ?_)
  · replace h := hx_ip c4 h
    refine lv_ldc2 (v := -2) hx hb hown (hts _ (hx_cons _ k_694)) d_M_at_42 ?_
    exact W.lret hx hb hr (fun t ht hW => ⟨by rw [Option.some.inj h], ht⟩) (fun q hq => nomatch hq) d_M_at_45
  · replace h := hx_in c4 h
    refine lv_iload_n hx hb d_M_at_10 rfl (lv_at hl 2 rfl) ?_
    refine lv_i2l hx hb d_M_at_11 rfl ?_
    refine lv_lconst (v := 0) hx hb d_M_at_12 rfl ?_
    refine lv_aload_n hx hb d_M_at_13 rfl (lv_at hl 0 rfl) ?_
    refine va_get (D := D) (ci := 5) (v := .ref (bd 5)) (C := "HalfFloatsModel") (T := T_M) (N := 21) hx hb hts (hx_up in_M) hown hK hP (0) hm_at_M rfl 4 (by decide) (hts _ (hx_cons _ k_560)) (fun _ h9 => h9) rfl d_M_at_14 ?_
    refine lv_iload_n hx hb d_M_at_17 rfl (lv_at hl 1 rfl) ?_
    obtain ⟨g5, h⟩ := hx_gs h
    refine va_iald hx hb hK hP (5) 1 hm_at_rM rfl g5 d_M_at_18 ?_
    refine lv_iconst (v := 1) hx hb d_M_at_19 (by decide) ?_
    refine lv_isub hx hb d_M_at_20 ?_
    refine lv_i2l hx hb d_M_at_21 rfl ?_
    obtain ⟨r6, er6, h⟩ := hx_b1s h
    refine hx_rd (va_runS (As := [.long x2.toInt64, .long (0 : Int64), .long (((hm_rM τ x1.toNatClampNeg) - (1 : Int32)).toInt64)]) (rest := []) ⟨hx, hb, hml, hown, hts⟩ (c_M_isIn l D T3 x2.toInt64 (0 : Int64) (((hm_rM τ x1.toNatClampNeg) - (1 : Int32)).toInt64) _ er6) (va_cwS 3 hts (hx_gS hx_cons k_628 k_629 k_55 k_630) rfl rfl rfl (by decide +kernel) ⟨Nat.le_of_ble_eq_true rfl, Nat.le_of_ble_eq_true rfl⟩) (hx_preS hx_nil hK) rfl rfl hl.1 rfl (lv_room (Nat.le_of_ble_eq_true rfl)) d_M_at_22 ⟨Nat.zero_le _, Nat.zero_le _⟩) ?_
    refine lv_if_eq (tgt := 42) hx hb d_M_at_25 (by decide) (fun c7 => ?_) (fun c7 => ?_)
    · replace h := hx_ip c7 h
      refine lv_ldc2 (v := -2) hx hb hown (hts _ (hx_cons _ k_694)) d_M_at_42 ?_
      exact W.lret hx hb hr (fun t ht hW => ⟨by rw [Option.some.inj h], ht⟩) (fun q hq => nomatch hq) d_M_at_45
    · replace h := hx_in c7 h
      refine lv_aload_n hx hb d_M_at_28 rfl (lv_at hl 0 rfl) ?_
      refine va_get (D := D) (ci := 5) (v := .ref (bd 6)) (C := "HalfFloatsModel") (T := T_M) (N := 21) hx hb hts (hx_up in_M) hown hK hP (0) hm_at_M rfl 5 (by decide) (hts _ (hx_cons _ k_561)) (fun _ h9 => h9) rfl d_M_at_29 ?_
      refine lv_bipush (v := 32) hx hb d_M_at_32 (by decide) ?_
      refine lv_iload_n hx hb d_M_at_34 rfl (lv_at hl 1 rfl) ?_
      refine lv_imul hx hb d_M_at_35 ?_
      refine lv_iload_n hx hb d_M_at_36 rfl (lv_at hl 2 rfl) ?_
      refine lv_iadd hx hb d_M_at_37 ?_
      obtain ⟨g8, h⟩ := hx_gs h
      refine va_lald hx hb hK hP (6) 2 hm_at_row rfl g8 d_M_at_38 ?_
      refine lv_goto (tgt := 45) hx hb d_M_at_39 (by decide) ?_
      exact W.lret hx hb hr (fun t ht hW => ⟨by rw [Option.some.inj h], ht⟩) (fun q hq => nomatch hq) d_M_at_45
abbrev m_M_count : Room := { frames := 0, cells := 0, slots := 0, locals := 0 }
set_option maxHeartbeats 4000000 in
set_option maxRecDepth 100000 in
theorem c_M_count (l : Launch) (D : va_G) (T3 : hx_T3) (bd : Nat → Nat) (τ : hm_S) (x1 : Int32) (r0 : Int32) (h : f_M_count τ x1 = some r0) : hx_R l D (hx_ty T3) (hm_W T3 bd τ) y_M_count w_M_count m_M_count [.ref (bd 0), .int x1] (.int r0) := by
  refine Met.ofW (cc := b_M_count) (maxL := 2) (ret := (some .int)) (by decide) rfl ?_
  intro p e s m args below meth c s₁ B hml hv
  obtain ⟨hargs, hP, hK⟩ := hv
  have hx := B.exec
  have hb := B.bytes
  have hr := B.returns
  have hts := atoms_spec (ws := w_M_count) B.pre
  have hown : s.vm.findClass "HalfFloatsModel" = some m.cls := findClass_of_methodNamed B.named
  have hlocks := B.notSynchronized
  have B_44 : ∀ (x3 : Int32) (ls : Array Slot), lv_has ls 2 [(0, .ref (bd 0)), (1, .int x3)] → f_M_count_44 τ x3 = some r0 → W p l e (headSpec w_M_count m_M_count).room s m args below meth c s.heap [] 0 0 (MQ below (hx_Q (.int r0)) args s 0 0 (fun _ => False)) (F0 m 44 ls []) := by
      intro x3 ls hl h
      rw [f_M_count_44] at h
      refine lv_aload_n hx hb d_M_count_44 rfl (lv_at hl 0 rfl) ?_
      refine va_get (D := D) (ci := 5) (v := .ref (bd 5)) (C := "HalfFloatsModel") (T := T_M) (N := 21) hx hb hts (hx_up in_M) hown hK hP (0) hm_at_M rfl 4 (by decide) (hts _ (hx_cons _ k_560)) (fun _ h9 => h9) rfl d_M_count_45 ?_
      refine lv_iload_n hx hb d_M_count_48 rfl (lv_at hl 1 rfl) ?_
      obtain ⟨g4, h⟩ := hx_gs h
      refine va_iald hx hb hK hP (5) 1 hm_at_rM rfl g4 d_M_count_49 ?_
      exact W.iret hx hb hr (fun t ht hW => ⟨by rw [Option.some.inj h], ht⟩) (fun q hq => nomatch hq) d_M_count_50
  have B_51 : ∀ (x7 : Int32) (ls : Array Slot), lv_has ls 2 [(0, .ref (bd 0)), (1, .int x7)] → f_M_count_51 τ x7 = some r0 → W p l e (headSpec w_M_count m_M_count).room s m args below meth c s.heap [] 0 0 (MQ below (hx_Q (.int r0)) args s 0 0 (fun _ => False)) (F0 m 51 ls []) := by
      intro x7 ls hl h
      rw [f_M_count_51] at h
      refine lv_aload_n hx hb d_M_count_51 rfl (lv_at hl 0 rfl) ?_
      refine va_get (D := D) (ci := 5) (v := .ref (bd 4)) (C := "HalfFloatsModel") (T := T_M) (N := 21) hx hb hts (hx_up in_M) hown hK hP (0) hm_at_M rfl 3 (by decide) (hts _ (hx_cons _ k_559)) (fun _ h9 => h9) rfl d_M_count_52 ?_
      refine lv_iload_n hx hb d_M_count_55 rfl (lv_at hl 1 rfl) ?_
      refine lv_iconst (v := 2) hx hb d_M_count_56 (by decide) ?_
      refine lv_isub hx hb d_M_count_57 ?_
      obtain ⟨g8, h⟩ := hx_gs h
      refine va_iald hx hb hK hP (4) 1 hm_at_rF rfl g8 d_M_count_58 ?_
      exact W.iret hx hb hr (fun t ht hW => ⟨by rw [Option.some.inj h], ht⟩) (fun q hq => nomatch hq) d_M_count_59
  refine W.eq (g2 := F0 m 0 ((lg_sl [.ref (bd 0), .int x1] ++ List.replicate (2 - (lg_sl [.ref (bd 0), .int x1]).length) Slot.unset).toArray) []) (by rw [hargs, lg_entry_eq]) ?_
  have hl := lv_entry ([.ref (bd 0), .int x1]) (n := 2) (Nat.le_of_ble_eq_true rfl)
  generalize (lg_sl ([.ref (bd 0), .int x1]) ++ List.replicate (2 - (lg_sl ([.ref (bd 0), .int x1])).length) Slot.unset).toArray = ls at hl ⊢
  have hl : lv_has ls 2 [(0, .ref (bd 0)), (1, .int x1)] := hl
  rw [f_M_count] at h
  refine lv_iload_n hx hb d_M_count_0 rfl (lv_at hl 1 rfl) ?_
  by_cases c2 : x1 = 0
  · replace h := hx_ip c2 h
    refine lv_tableIn (tgt := 44) hx hb d_M_count_1 (by rw [c2]; decide) (by rw [c2]; decide) (by rw [c2]; rfl) (by decide) ?_
    exact B_44 x1 ls (lv_sub hl [0, 1] rfl) h
  · replace h := hx_in c2 h
    by_cases c5 : x1 = 1
    · replace h := hx_ip c5 h
      refine lv_tableIn (tgt := 44) hx hb d_M_count_1 (by rw [c5]; decide) (by rw [c5]; decide) (by rw [c5]; rfl) (by decide) ?_
      exact B_44 x1 ls (lv_sub hl [0, 1] rfl) h
    · replace h := hx_in c5 h
      by_cases c6 : x1 = 2
      · replace h := hx_ip c6 h
        refine lv_tableIn (tgt := 51) hx hb d_M_count_1 (by rw [c6]; decide) (by rw [c6]; decide) (by rw [c6]; rfl) (by decide) ?_
        exact B_51 x1 ls (lv_sub hl [0, 1] rfl) h
      · replace h := hx_in c6 h
        by_cases c9 : x1 = 3
        · replace h := hx_ip c9 h
          refine lv_tableIn (tgt := 51) hx hb d_M_count_1 (by rw [c9]; decide) (by rw [c9]; decide) (by rw [c9]; rfl) (by decide) ?_
          exact B_51 x1 ls (lv_sub hl [0, 1] rfl) h
        · replace h := hx_in c9 h
          by_cases c10 : x1 = 4
          · replace h := hx_ip c10 h
            refine lv_tableIn (tgt := 60) hx hb d_M_count_1 (by rw [c10]; decide) (by rw [c10]; decide) (by rw [c10]; rfl) (by decide) ?_
            refine lv_aload_n hx hb d_M_count_60 rfl (lv_at hl 0 rfl) ?_
            refine va_get (D := D) (ci := 5) (v := .int (hm_scaleS τ)) (C := "HalfFloatsModel") (T := T_M) (N := 21) hx hb hts (hx_up in_M) hown hK hP (0) hm_at_M rfl 8 (by decide) (hts _ (hx_cons _ k_564)) (fun _ h9 => h9) rfl d_M_count_61 ?_
            exact W.iret hx hb hr (fun t ht hW => ⟨by rw [Option.some.inj h], ht⟩) (fun q hq => nomatch hq) d_M_count_64
          · replace h := hx_in c10 h
            by_cases c11 : x1 = 5
            · replace h := hx_ip c11 h
              refine lv_tableIn (tgt := 65) hx hb d_M_count_1 (by rw [c11]; decide) (by rw [c11]; decide) (by rw [c11]; rfl) (by decide) ?_
              refine lv_aload_n hx hb d_M_count_65 rfl (lv_at hl 0 rfl) ?_
              refine va_get (D := D) (ci := 5) (v := .int (hm_streak τ)) (C := "HalfFloatsModel") (T := T_M) (N := 21) hx hb hts (hx_up in_M) hown hK hP (0) hm_at_M rfl 9 (by decide) (hts _ (hx_cons _ k_565)) (fun _ h9 => h9) rfl d_M_count_66 ?_
              exact W.iret hx hb hr (fun t ht hW => ⟨by rw [Option.some.inj h], ht⟩) (fun q hq => nomatch hq) d_M_count_69
            · replace h := hx_in c11 h
              by_cases c12 : x1 = 6
              · replace h := hx_ip c12 h
                refine lv_tableIn (tgt := 70) hx hb d_M_count_1 (by rw [c12]; decide) (by rw [c12]; decide) (by rw [c12]; rfl) (by decide) ?_
                refine lv_aload_n hx hb d_M_count_70 rfl (lv_at hl 0 rfl) ?_
                refine va_get (D := D) (ci := 5) (v := .int (hm_growth τ)) (C := "HalfFloatsModel") (T := T_M) (N := 21) hx hb hts (hx_up in_M) hown hK hP (0) hm_at_M rfl 10 (by decide) (hts _ (hx_cons _ k_566)) (fun _ h9 => h9) rfl d_M_count_71 ?_
                exact W.iret hx hb hr (fun t ht hW => ⟨by rw [Option.some.inj h], ht⟩) (fun q hq => nomatch hq) d_M_count_74
              · replace h := hx_in c12 h
                have tc2 := lv_neT (a := 0) c2 (by decide)
                have tc5 := lv_neT (a := 1) c5 (by decide)
                have tc6 := lv_neT (a := 2) c6 (by decide)
                have tc9 := lv_neT (a := 3) c9 (by decide)
                have tc10 := lv_neT (a := 4) c10 (by decide)
                have tc11 := lv_neT (a := 5) c11 (by decide)
                have tc12 := lv_neT (a := 6) c12 (by decide)
                refine lv_tableOut (tgt := 75) hx hb d_M_count_1 (by omega) (by decide) ?_
                refine lv_ldc (v := 1000000) hx hb hown (hts _ (hx_cons _ k_665)) d_M_count_75 ?_
                exact W.iret hx hb hr (fun t ht hW => ⟨by rw [Option.some.inj h], ht⟩) (fun q hq => nomatch hq) d_M_count_77
abbrev m_M_sum : Room := { frames := 6, cells := 0, slots := 0, locals := 158 }
set_option maxHeartbeats 4000000 in
set_option maxRecDepth 100000 in
theorem c_M_sum (l : Launch) (D : va_G) (T3 : hx_T3) (bd : Nat → Nat) (sz : Nat) (τ : hm_S) (x1 : Int32) (x2 : Int32) (x3 : Int32) (x4 : Int32) (r0 : Int64) (σ0 : hm_S) (h : f_M_sum τ x1 x2 x3 x4 = some (r0, σ0)) : hx_Wj l D (hx_ty T3) y_M_sum w_M_sum m_M_sum [.ref (bd 0), .int x1, .int x2, .int x3, .int x4] sz (hm_W T3 bd τ) r0 (hm_W T3 bd σ0) := by
  refine Met.ofW (cc := b_M_sum) (maxL := 10) (ret := (some .long)) (by decide) rfl ?_
  intro p e s m args below meth c s₁ B hml hv
  obtain ⟨hargs, hsz, hP, hK, hD0⟩ := hv
  have hx := B.exec
  have hb := B.bytes
  have hr := B.returns
  have hts := atoms_spec (ws := w_M_sum) B.pre
  have hown : s.vm.findClass "HalfFloatsModel" = some m.cls := findClass_of_methodNamed B.named
  have hlocks := B.notSynchronized
  subst hsz
  have hD := hD0.self (sz := s.heap.size)
  generalize hAe : va_A (hm_W T3 bd τ) s.heap.size = A at hD ⊢
  have hA : ∀ q : Nat, s.heap.size ≤ q → A q := fun q h => by rw [← hAe]; exact Or.inr h
  have hS : va_S A s.heap s.heap [] := va_S.rf
  have B_339 : ∀ (K246 : hm_S → Int32 → Int32 → Int32 → Option (Int64 × hm_S)) (hK246 : ∀ (σ : hm_S) (x27 : Int32) (x28 : Int32) (x29 : Int32) (H : Heap) (locs : List Loc) (ls : Array Slot), va_P D vwCl (hm_W T3 bd σ) H → va_D A (hm_W T3 bd σ) → va_S A s.heap H locs → lv_has ls 10 [(0, .ref (bd 0)), (3, .int x27), (4, .int x28), (6, .int x29)] → K246 σ x27 x28 x29 = some (r0, σ0) → W p l e (headSpec w_M_sum m_M_sum).room s m args below meth c H locs 0 0 (MQ below (hx_Qj D (hx_ty T3) A r0 (hm_W T3 bd σ0)) args s 0 0 A) (F0 m 246 ls [])) (K258 : hm_S → Int32 → Int32 → Int32 → Int32 → Int32 → Option (Int64 × hm_S)) (hK258 : ∀ (σ : hm_S) (x32 : Int32) (x33 : Int32) (x34 : Int32) (x35 : Int32) (x36 : Int32) (H : Heap) (locs : List Loc) (ls : Array Slot), va_P D vwCl (hm_W T3 bd σ) H → va_D A (hm_W T3 bd σ) → va_S A s.heap H locs → lv_has ls 10 [(0, .ref (bd 0)), (3, .int x32), (4, .int x33), (6, .int x34), (7, .int x35), (8, .int x36)] → K258 σ x32 x33 x34 x35 x36 = some (r0, σ0) → W p l e (headSpec w_M_sum m_M_sum).room s m args below meth c H locs 0 0 (MQ below (hx_Qj D (hx_ty T3) A r0 (hm_W T3 bd σ0)) args s 0 0 A) (F0 m 258 ls [])), ∀ (σ : hm_S) (x43 : Int32) (x44 : Int32) (x45 : Int32) (x46 : Int32) (x47 : Int32) (H : Heap) (locs : List Loc) (ls : Array Slot), va_P D vwCl (hm_W T3 bd σ) H → va_D A (hm_W T3 bd σ) → va_S A s.heap H locs → lv_has ls 10 [(0, .ref (bd 0)), (3, .int x43), (4, .int x44), (6, .int x45), (7, .int x46), (8, .int x47)] → f_M_sum_339 K246 K258 σ x43 x44 x45 x46 x47 = some (r0, σ0) → W p l e (headSpec w_M_sum m_M_sum).room s m args below meth c H locs 0 0 (MQ below (hx_Qj D (hx_ty T3) A r0 (hm_W T3 bd σ0)) args s 0 0 A) (F0 m 339 ls []) := by
      intro K246 hK246 K258 hK258
      intro σ x43 x44 x45 x46 x47 H locs ls hP hD hS hl h
      rw [f_M_sum_339] at h
      obtain ⟨x48, ex48⟩ : ∃ y : Int32, y = x46 + 1 := ⟨_, rfl⟩
      replace h := hx_ns ex48 h
      refine lv_iinc (v := x48) (lv' := [(7, .int x48), (0, .ref (bd 0)), (3, .int x43), (4, .int x44), (6, .int x45), (8, .int x47)]) hx hb d_M_sum_339 hl (k := 4) rfl (by rw [ex48]; rfl) (by decide) rfl (fun ls hl => ?_)
      clear ex48
      obtain ⟨x49, ex49⟩ : ∃ y : Int32, y = x47 + 2 := ⟨_, rfl⟩
      replace h := hx_ns ex49 h
      refine lv_iinc (v := x49) (lv' := [(8, .int x49), (7, .int x48), (0, .ref (bd 0)), (3, .int x43), (4, .int x44), (6, .int x45)]) hx hb d_M_sum_342 hl (k := 5) rfl (by rw [ex49]; rfl) (by decide) rfl (fun ls hl => ?_)
      clear ex49
      refine lv_goto (tgt := 258) hx hb d_M_sum_345 (by decide) ?_
      exact hK258 σ x43 x44 x45 x48 x49 _ _ ls hP hD hS (lv_sub hl [2, 3, 4, 5, 1, 0] rfl) h
  have B_258 : ∀ (K246 : hm_S → Int32 → Int32 → Int32 → Option (Int64 × hm_S)) (hK246 : ∀ (σ : hm_S) (x27 : Int32) (x28 : Int32) (x29 : Int32) (H : Heap) (locs : List Loc) (ls : Array Slot), va_P D vwCl (hm_W T3 bd σ) H → va_D A (hm_W T3 bd σ) → va_S A s.heap H locs → lv_has ls 10 [(0, .ref (bd 0)), (3, .int x27), (4, .int x28), (6, .int x29)] → K246 σ x27 x28 x29 = some (r0, σ0) → W p l e (headSpec w_M_sum m_M_sum).room s m args below meth c H locs 0 0 (MQ below (hx_Qj D (hx_ty T3) A r0 (hm_W T3 bd σ0)) args s 0 0 A) (F0 m 246 ls [])), ∀ (n : Nat), ∀ (σ : hm_S) (x32 : Int32) (x33 : Int32) (x34 : Int32) (x35 : Int32) (x36 : Int32) (H : Heap) (locs : List Loc) (ls : Array Slot), va_P D vwCl (hm_W T3 bd σ) H → va_D A (hm_W T3 bd σ) → va_S A s.heap H locs → lv_has ls 10 [(0, .ref (bd 0)), (3, .int x32), (4, .int x33), (6, .int x34), (7, .int x35), (8, .int x36)] → f_M_sum_258 K246 n σ x32 x33 x34 x35 x36 = some (r0, σ0) → W p l e (headSpec w_M_sum m_M_sum).room s m args below meth c H locs 0 0 (MQ below (hx_Qj D (hx_ty T3) A r0 (hm_W T3 bd σ0)) args s 0 0 A) (F0 m 258 ls []) := by
    intro K246 hK246
    intro n
    induction n with
    | zero =>
      intro σ x32 x33 x34 x35 x36 H locs ls hP hD hS hl h
      rw [f_M_sum_258] at h
      cases h
    | succ n ih =>
        intro σ x32 x33 x34 x35 x36 H locs ls hP hD hS hl h
        rw [f_M_sum_258] at h
        refine lv_iload hx hb d_M_sum_258 (lv_at hl 5 rfl) ?_
        refine lv_iload hx hb d_M_sum_260 (lv_at hl 3 rfl) ?_
        refine lv_icmp_ge (tgt := 348) hx hb d_M_sum_262 (by decide) (fun c37 => ?_) (fun c37 => ?_)
        · replace h := hx_ip c37 h
          refine lv_iload hx hb d_M_sum_348 (lv_at hl 4 rfl) ?_
          refine lv_istore (lv' := [(6, .int x35), (0, .ref (bd 0)), (3, .int x32), (4, .int x33), (7, .int x35), (8, .int x36)]) hx hb d_M_sum_350 hl (by decide) rfl (fun ls hl => ?_)
          refine lv_goto (tgt := 246) hx hb d_M_sum_352 (by decide) ?_
          exact hK246 σ x32 x33 x35 _ _ ls hP hD hS (lv_sub hl [1, 2, 3, 0] rfl) h
        · replace h := hx_in c37 h
          refine lv_iload hx hb d_M_sum_265 (lv_at hl 5 rfl) ?_
          refine lv_iconst (v := 1) hx hb d_M_sum_267 (by decide) ?_
          refine lv_iadd hx hb d_M_sum_268 ?_
          refine lv_iload hx hb d_M_sum_269 (lv_at hl 3 rfl) ?_
          refine lv_icmp_ge (tgt := 325) hx hb d_M_sum_271 (by decide) (fun c38 => ?_) (fun c38 => ?_)
          · replace h := hx_ip c38 h
            refine lv_aload_n hx hb d_M_sum_325 rfl (lv_at hl 0 rfl) ?_
            refine va_get (D := D) (ci := 5) (v := .ref (bd 8)) (C := "HalfFloatsModel") (T := T_M) (N := 21) hx hb hts (hx_up in_M) hown hK hP (0) hm_at_M rfl 20 (by decide) (hts _ (hx_cons _ k_576)) (fun _ h9 => h9) rfl d_M_sum_326 ?_
            refine lv_iload hx hb d_M_sum_329 (lv_at hl 4 rfl) ?_
            refine lv_aload_n hx hb d_M_sum_331 rfl (lv_at hl 0 rfl) ?_
            refine va_get (D := D) (ci := 5) (v := .ref (bd 8)) (C := "HalfFloatsModel") (T := T_M) (N := 21) hx hb hts (hx_up in_M) hown hK hP (0) hm_at_M rfl 20 (by decide) (hts _ (hx_cons _ k_576)) (fun _ h9 => h9) rfl d_M_sum_332 ?_
            refine lv_iload hx hb d_M_sum_335 (lv_at hl 5 rfl) ?_
            obtain ⟨g39, h⟩ := hx_gs h
            refine va_lald hx hb hK hP (8) 2 hm_at_tree rfl g39 d_M_sum_337 ?_
            refine lv_topl (fun x40 ex40 => ?_)
            replace h := hx_ns ex40 h
            clear ex40
            obtain ⟨g41, h⟩ := hx_gs h
            refine va_last hx hb hK hP hD hS (8) 2 hm_at_tree rfl g41 d_M_sum_338 (fun H locs hP hD hS => ?_)
            obtain ⟨σ42, eσ42⟩ : ∃ y : hm_S, y = (hm_tree_s σ x35.toNatClampNeg x40) := ⟨_, rfl⟩
            replace hP : va_P D vwCl (hm_W T3 bd σ42) H := by rw [eσ42]; exact hP
            replace hD : va_D A (hm_W T3 bd σ42) := by rw [eσ42]; exact hD
            replace h := hx_ns eσ42 h
            clear eσ42
            exact B_339 K246 hK246 (f_M_sum_258 K246 n) ih σ42 x32 x33 x34 x35 x36 _ _ ls hP hD hS (lv_sub hl [0, 1, 2, 3, 4, 5] rfl) h
          · replace h := hx_in c38 h
            refine lv_aload_n hx hb d_M_sum_274 rfl (lv_at hl 0 rfl) ?_
            obtain ⟨q50, eq50, h⟩ := hx_b1s h
            refine hx_wv (va_runV (As := []) (rest := []) ⟨hx, hb, hml, hown, hts⟩ (c_M_begin l D T3 bd _ σ _ eq50) (cwV 0 hts (hx_gV hx_cons k_699 k_701 k_34 k_55 k_702) rfl rfl rfl (by decide +kernel) ⟨Nat.le_of_ble_eq_true rfl, Nat.le_of_ble_eq_true rfl⟩) (hx_preVw (va_recv hK hP (ci := 5) (q0 := 0) rfl hm_at_M) hP hK hD) rfl rfl hl.1 rfl (lv_room (Nat.le_of_ble_eq_true rfl)) d_M_sum_275 ⟨Nat.zero_le _, Nat.zero_le _⟩) hD hS hA (fun H locs hP hD hS => ?_)
            refine lv_aload_n hx hb d_M_sum_278 rfl (lv_at hl 0 rfl) ?_
            refine lv_iload_n hx hb d_M_sum_279 rfl (lv_at hl 1 rfl) ?_
            refine lv_aload_n hx hb d_M_sum_280 rfl (lv_at hl 0 rfl) ?_
            refine va_get (D := D) (ci := 5) (v := .ref (bd 8)) (C := "HalfFloatsModel") (T := T_M) (N := 21) hx hb hts (hx_up in_M) hown hK hP (0) hm_at_M rfl 20 (by decide) (hts _ (hx_cons _ k_576)) (fun _ h9 => h9) rfl d_M_sum_281 ?_
            refine lv_iload hx hb d_M_sum_284 (lv_at hl 5 rfl) ?_
            obtain ⟨g51, h⟩ := hx_gs h
            refine va_lald hx hb hK hP (8) 2 hm_at_tree rfl g51 d_M_sum_286 ?_
            refine lv_iconst (v := 0) hx hb d_M_sum_287 (by decide) ?_
            refine lv_iconst (v := 0) hx hb d_M_sum_288 (by decide) ?_
            obtain ⟨q52, eq52, h⟩ := hx_b1s h
            refine hx_wv (va_runV (As := [.int x32, .long (hm_tree q50 x36.toNatClampNeg), .int (0 : Int32), .int (0 : Int32)]) (rest := []) ⟨hx, hb, hml, hown, hts⟩ (c_M_value l D T3 bd _ q50 x32 (hm_tree q50 x36.toNatClampNeg) (0 : Int32) (0 : Int32) _ eq52) (cwV 4 hts (hx_gV hx_cons k_703 k_705 k_35 k_55 k_706) rfl rfl rfl (by decide +kernel) ⟨Nat.le_of_ble_eq_true rfl, Nat.le_of_ble_eq_true rfl⟩) (hx_preVw (va_recv hK hP (ci := 5) (q0 := 0) rfl hm_at_M) hP hK hD) rfl rfl hl.1 rfl (lv_room (Nat.le_of_ble_eq_true rfl)) d_M_sum_289 ⟨Nat.zero_le _, Nat.zero_le _⟩) hD hS hA (fun H locs hP hD hS => ?_)
            refine lv_aload_n hx hb d_M_sum_292 rfl (lv_at hl 0 rfl) ?_
            refine lv_iload_n hx hb d_M_sum_293 rfl (lv_at hl 1 rfl) ?_
            refine lv_aload_n hx hb d_M_sum_294 rfl (lv_at hl 0 rfl) ?_
            refine va_get (D := D) (ci := 5) (v := .ref (bd 8)) (C := "HalfFloatsModel") (T := T_M) (N := 21) hx hb hts (hx_up in_M) hown hK hP (0) hm_at_M rfl 20 (by decide) (hts _ (hx_cons _ k_576)) (fun _ h9 => h9) rfl d_M_sum_295 ?_
            refine lv_iload hx hb d_M_sum_298 (lv_at hl 5 rfl) ?_
            refine lv_iconst (v := 1) hx hb d_M_sum_300 (by decide) ?_
            refine lv_iadd hx hb d_M_sum_301 ?_
            obtain ⟨g53, h⟩ := hx_gs h
            refine va_lald hx hb hK hP (8) 2 hm_at_tree rfl g53 d_M_sum_302 ?_
            refine lv_iconst (v := 0) hx hb d_M_sum_303 (by decide) ?_
            refine lv_iconst (v := 0) hx hb d_M_sum_304 (by decide) ?_
            obtain ⟨q54, eq54, h⟩ := hx_b1s h
            refine hx_wv (va_runV (As := [.int x32, .long (hm_tree q52 (x36 + (1 : Int32)).toNatClampNeg), .int (0 : Int32), .int (0 : Int32)]) (rest := []) ⟨hx, hb, hml, hown, hts⟩ (c_M_value l D T3 bd _ q52 x32 (hm_tree q52 (x36 + (1 : Int32)).toNatClampNeg) (0 : Int32) (0 : Int32) _ eq54) (cwV 4 hts (hx_gV hx_cons k_703 k_705 k_35 k_55 k_706) rfl rfl rfl (by decide +kernel) ⟨Nat.le_of_ble_eq_true rfl, Nat.le_of_ble_eq_true rfl⟩) (hx_preVw (va_recv hK hP (ci := 5) (q0 := 0) rfl hm_at_M) hP hK hD) rfl rfl hl.1 rfl (lv_room (Nat.le_of_ble_eq_true rfl)) d_M_sum_305 ⟨Nat.zero_le _, Nat.zero_le _⟩) hD hS hA (fun H locs hP hD hS => ?_)
            refine lv_aload_n hx hb d_M_sum_308 rfl (lv_at hl 0 rfl) ?_
            refine va_get (D := D) (ci := 5) (v := .ref (bd 8)) (C := "HalfFloatsModel") (T := T_M) (N := 21) hx hb hts (hx_up in_M) hown hK hP (0) hm_at_M rfl 20 (by decide) (hts _ (hx_cons _ k_576)) (fun _ h9 => h9) rfl d_M_sum_309 ?_
            refine lv_iload hx hb d_M_sum_312 (lv_at hl 4 rfl) ?_
            refine lv_aload_n hx hb d_M_sum_314 rfl (lv_at hl 0 rfl) ?_
            refine lv_iload_n hx hb d_M_sum_315 rfl (lv_at hl 1 rfl) ?_
            refine lv_iload hx hb d_M_sum_316 (lv_at hl 2 rfl) ?_
            obtain ⟨r56, q55, eq55, h⟩ := hx_b2s h
            refine hx_wj (va_runV (As := [.int x32, .int x33]) (rest := [.int x35, .ref (bd 8)]) ⟨hx, hb, hml, hown, hts⟩ (c_M_end l D T3 bd _ q54 x32 x33 _ _ eq55) (cwV 2 hts (hx_gV hx_cons k_716 k_718 k_38 k_55 k_719) rfl rfl rfl (by decide +kernel) ⟨Nat.le_of_ble_eq_true rfl, Nat.le_of_ble_eq_true rfl⟩) (hx_preVw (va_recv hK hP (ci := 5) (q0 := 0) rfl hm_at_M) hP hK hD) rfl rfl hl.1 rfl (lv_room (Nat.le_of_ble_eq_true rfl)) d_M_sum_318 ⟨Nat.zero_le _, Nat.zero_le _⟩) hD hS hA (fun H locs hP hD hS => ?_)
            obtain ⟨g57, h⟩ := hx_gs h
            refine va_last hx hb hK hP hD hS (8) 2 hm_at_tree rfl g57 d_M_sum_321 (fun H locs hP hD hS => ?_)
            obtain ⟨σ58, eσ58⟩ : ∃ y : hm_S, y = (hm_tree_s q55 x35.toNatClampNeg r56) := ⟨_, rfl⟩
            replace hP : va_P D vwCl (hm_W T3 bd σ58) H := by rw [eσ58]; exact hP
            replace hD : va_D A (hm_W T3 bd σ58) := by rw [eσ58]; exact hD
            replace h := hx_ns eσ58 h
            clear eσ58
            refine lv_goto (tgt := 339) hx hb d_M_sum_322 (by decide) ?_
            exact B_339 K246 hK246 (f_M_sum_258 K246 n) ih σ58 x32 x33 x34 x35 x36 _ _ ls hP hD hS (lv_sub hl [0, 1, 2, 3, 4, 5] rfl) h
  have B_246 : ∀ (n : Nat), ∀ (σ : hm_S) (x27 : Int32) (x28 : Int32) (x29 : Int32) (H : Heap) (locs : List Loc) (ls : Array Slot), va_P D vwCl (hm_W T3 bd σ) H → va_D A (hm_W T3 bd σ) → va_S A s.heap H locs → lv_has ls 10 [(0, .ref (bd 0)), (3, .int x27), (4, .int x28), (6, .int x29)] → f_M_sum_246 n σ x27 x28 x29 = some (r0, σ0) → W p l e (headSpec w_M_sum m_M_sum).room s m args below meth c H locs 0 0 (MQ below (hx_Qj D (hx_ty T3) A r0 (hm_W T3 bd σ0)) args s 0 0 A) (F0 m 246 ls []) := by
    intro n
    induction n with
    | zero =>
      intro σ x27 x28 x29 H locs ls hP hD hS hl h
      rw [f_M_sum_246] at h
      cases h
    | succ n ih =>
        intro σ x27 x28 x29 H locs ls hP hD hS hl h
        rw [f_M_sum_246] at h
        refine lv_iload hx hb d_M_sum_246 (lv_at hl 3 rfl) ?_
        refine lv_iconst (v := 1) hx hb d_M_sum_248 (by decide) ?_
        refine lv_icmp_le (tgt := 355) hx hb d_M_sum_249 (by decide) (fun c30 => ?_) (fun c30 => ?_)
        · replace h := hx_ip c30 h
          refine lv_aload_n hx hb d_M_sum_355 rfl (lv_at hl 0 rfl) ?_
          refine va_get (D := D) (ci := 5) (v := .ref (bd 8)) (C := "HalfFloatsModel") (T := T_M) (N := 21) hx hb hts (hx_up in_M) hown hK hP (0) hm_at_M rfl 20 (by decide) (hts _ (hx_cons _ k_576)) (fun _ h9 => h9) rfl d_M_sum_356 ?_
          refine lv_iconst (v := 0) hx hb d_M_sum_359 (by decide) ?_
          obtain ⟨g31, h⟩ := hx_gs h
          refine va_lald hx hb hK hP (8) 2 hm_at_tree rfl g31 d_M_sum_360 ?_
          exact W.lret hx hb hr (fun t ht hW => hx_endj h ht hW hP hK hD hS) hS.2.2 d_M_sum_361
        · replace h := hx_in c30 h
          refine lv_iconst (v := 0) hx hb d_M_sum_252 (by decide) ?_
          refine lv_istore (lv' := [(7, .int (0 : Int32)), (0, .ref (bd 0)), (3, .int x27), (4, .int x28), (6, .int x29)]) hx hb d_M_sum_253 hl (by decide) rfl (fun ls hl => ?_)
          refine lv_iconst (v := 0) hx hb d_M_sum_255 (by decide) ?_
          refine lv_istore (lv' := [(8, .int (0 : Int32)), (7, .int (0 : Int32)), (0, .ref (bd 0)), (3, .int x27), (4, .int x28), (6, .int x29)]) hx hb d_M_sum_256 hl (by decide) rfl (fun ls hl => ?_)
          exact B_258 (f_M_sum_246 n) ih hx_fuel σ x27 x28 x29 (0 : Int32) (0 : Int32) _ _ ls hP hD hS (lv_sub hl [2, 3, 4, 5, 1, 0] rfl) h
  have B_205 : ∀ (n : Nat), ∀ (σ : hm_S) (x20 : Int32) (x21 : Int32) (x22 : Int32) (x23 : Int32) (x24 : Int32) (x25 : Int32) (H : Heap) (locs : List Loc) (ls : Array Slot), va_P D vwCl (hm_W T3 bd σ) H → va_D A (hm_W T3 bd σ) → va_S A s.heap H locs → lv_has ls 10 [(0, .ref (bd 0)), (1, .int x20), (3, .int x21), (4, .int x22), (5, .int x23), (6, .int x24), (7, .int x25)] → f_M_sum_205 n σ x20 x21 x22 x23 x24 x25 = some (r0, σ0) → W p l e (headSpec w_M_sum m_M_sum).room s m args below meth c H locs 0 0 (MQ below (hx_Qj D (hx_ty T3) A r0 (hm_W T3 bd σ0)) args s 0 0 A) (F0 m 205 ls []) := by
    intro n
    induction n with
    | zero =>
      intro σ x20 x21 x22 x23 x24 x25 H locs ls hP hD hS hl h
      rw [f_M_sum_205] at h
      cases h
    | succ n ih =>
        intro σ x20 x21 x22 x23 x24 x25 H locs ls hP hD hS hl h
        rw [f_M_sum_205] at h
        refine lv_iload hx hb d_M_sum_205 (lv_at hl 6 rfl) ?_
        refine lv_iload hx hb d_M_sum_207 (lv_at hl 5 rfl) ?_
        refine lv_icmp_ge (tgt := 246) hx hb d_M_sum_209 (by decide) (fun c26 => ?_) (fun c26 => ?_)
        · replace h := hx_ip c26 h
          exact B_246 hx_fuel σ x21 x22 x24 _ _ ls hP hD hS (lv_sub hl [0, 2, 3, 5] rfl) h
        · replace h := hx_in c26 h
          refine lv_aload_n hx hb d_M_sum_212 rfl (lv_at hl 0 rfl) ?_
          refine va_get (D := D) (ci := 5) (v := .ref (bd 8)) (C := "HalfFloatsModel") (T := T_M) (N := 21) hx hb hts (hx_up in_M) hown hK hP (0) hm_at_M rfl 20 (by decide) (hts _ (hx_cons _ k_576)) (fun _ h9 => h9) rfl d_M_sum_213 ?_
          refine lv_iload hx hb d_M_sum_216 (lv_at hl 6 rfl) ?_
          refine lv_aload_n hx hb d_M_sum_218 rfl (lv_at hl 0 rfl) ?_
          refine lv_iload hx hb d_M_sum_219 (lv_at hl 4 rfl) ?_
          refine lv_aload_n hx hb d_M_sum_221 rfl (lv_at hl 0 rfl) ?_
          refine va_get (D := D) (ci := 5) (v := .ref (bd 6)) (C := "HalfFloatsModel") (T := T_M) (N := 21) hx hb hts (hx_up in_M) hown hK hP (0) hm_at_M rfl 5 (by decide) (hts _ (hx_cons _ k_561)) (fun _ h9 => h9) rfl d_M_sum_222 ?_
          refine lv_bipush (v := 32) hx hb d_M_sum_225 (by decide) ?_
          refine lv_iload_n hx hb d_M_sum_227 rfl (lv_at hl 1 rfl) ?_
          refine lv_imul hx hb d_M_sum_228 ?_
          refine lv_iload hx hb d_M_sum_229 (lv_at hl 6 rfl) ?_
          refine lv_iadd hx hb d_M_sum_231 ?_
          obtain ⟨g59, h⟩ := hx_gs h
          refine va_lald hx hb hK hP (6) 2 hm_at_row rfl g59 d_M_sum_232 ?_
          refine lv_iload_n hx hb d_M_sum_233 rfl (lv_at hl 2 rfl) ?_
          refine lv_iload hx hb d_M_sum_234 (lv_at hl 3 rfl) ?_
          obtain ⟨r61, q60, eq60, h⟩ := hx_b2s h
          refine hx_wj (va_runV (As := [.int x23, .long (hm_row σ (((32 : Int32) * x20) + x25).toNatClampNeg), .int x21, .int x22]) (rest := [.int x25, .ref (bd 8)]) ⟨hx, hb, hml, hown, hts⟩ (c_M_turned l D T3 bd _ σ x23 (hm_row σ (((32 : Int32) * x20) + x25).toNatClampNeg) x21 x22 _ _ eq60) (cwV 4 hts (hx_gV hx_cons k_695 k_697 k_33 k_55 k_698) rfl rfl rfl (by decide +kernel) ⟨Nat.le_of_ble_eq_true rfl, Nat.le_of_ble_eq_true rfl⟩) (hx_preVw (va_recv hK hP (ci := 5) (q0 := 0) rfl hm_at_M) hP hK hD) rfl rfl hl.1 rfl (lv_room (Nat.le_of_ble_eq_true rfl)) d_M_sum_236 ⟨Nat.zero_le _, Nat.zero_le _⟩) hD hS hA (fun H locs hP hD hS => ?_)
          obtain ⟨g62, h⟩ := hx_gs h
          refine va_last hx hb hK hP hD hS (8) 2 hm_at_tree rfl g62 d_M_sum_239 (fun H locs hP hD hS => ?_)
          obtain ⟨σ63, eσ63⟩ : ∃ y : hm_S, y = (hm_tree_s q60 x25.toNatClampNeg r61) := ⟨_, rfl⟩
          replace hP : va_P D vwCl (hm_W T3 bd σ63) H := by rw [eσ63]; exact hP
          replace hD : va_D A (hm_W T3 bd σ63) := by rw [eσ63]; exact hD
          replace h := hx_ns eσ63 h
          clear eσ63
          obtain ⟨x64, ex64⟩ : ∃ y : Int32, y = x25 + 1 := ⟨_, rfl⟩
          replace h := hx_ns ex64 h
          refine lv_iinc (v := x64) (lv' := [(7, .int x64), (0, .ref (bd 0)), (1, .int x20), (3, .int x21), (4, .int x22), (5, .int x23), (6, .int x24)]) hx hb d_M_sum_240 hl (k := 6) rfl (by rw [ex64]; rfl) (by decide) rfl (fun ls hl => ?_)
          clear ex64
          refine lv_goto (tgt := 205) hx hb d_M_sum_243 (by decide) ?_
          exact ih σ63 x20 x21 x22 x23 x24 x64 _ _ ls hP hD hS (lv_sub hl [1, 2, 3, 4, 5, 6, 0] rfl) h
  have B_144 : ∀ (n : Nat), ∀ (σ : hm_S) (x68 : Int32) (x69 : Int32) (x70 : Int32) (x71 : Int32) (x72 : Int32) (x73 : Int64) (x74 : Int32) (H : Heap) (locs : List Loc) (ls : Array Slot), va_P D vwCl (hm_W T3 bd σ) H → va_D A (hm_W T3 bd σ) → va_S A s.heap H locs → lv_has ls 10 [(0, .ref (bd 0)), (1, .int x68), (3, .int x69), (4, .int x70), (5, .int x71), (6, .int x72), (7, .long x73), (9, .int x74)] → f_M_sum_144 n σ x68 x69 x70 x71 x72 x73 x74 = some (r0, σ0) → W p l e (headSpec w_M_sum m_M_sum).room s m args below meth c H locs 0 0 (MQ below (hx_Qj D (hx_ty T3) A r0 (hm_W T3 bd σ0)) args s 0 0 A) (F0 m 144 ls []) := by
    intro n
    induction n with
    | zero =>
      intro σ x68 x69 x70 x71 x72 x73 x74 H locs ls hP hD hS hl h
      rw [f_M_sum_144] at h
      cases h
    | succ n ih =>
        intro σ x68 x69 x70 x71 x72 x73 x74 H locs ls hP hD hS hl h
        rw [f_M_sum_144] at h
        refine lv_iload hx hb d_M_sum_144 (lv_at hl 7 rfl) ?_
        refine lv_iload hx hb d_M_sum_146 (lv_at hl 5 rfl) ?_
        refine lv_icmp_ge (tgt := 199) hx hb d_M_sum_148 (by decide) (fun c75 => ?_) (fun c75 => ?_)
        · replace h := hx_ip c75 h
          refine lv_lload hx hb d_M_sum_199 (lv_at hl 6 rfl) ?_
          exact W.lret hx hb hr (fun t ht hW => hx_endj h ht hW hP hK hD hS) hS.2.2 d_M_sum_201
        · replace h := hx_in c75 h
          refine lv_aload_n hx hb d_M_sum_151 rfl (lv_at hl 0 rfl) ?_
          obtain ⟨q76, eq76, h⟩ := hx_b1s h
          refine hx_wv (va_runV (As := []) (rest := []) ⟨hx, hb, hml, hown, hts⟩ (c_M_begin l D T3 bd _ σ _ eq76) (cwV 0 hts (hx_gV hx_cons k_699 k_701 k_34 k_55 k_702) rfl rfl rfl (by decide +kernel) ⟨Nat.le_of_ble_eq_true rfl, Nat.le_of_ble_eq_true rfl⟩) (hx_preVw (va_recv hK hP (ci := 5) (q0 := 0) rfl hm_at_M) hP hK hD) rfl rfl hl.1 rfl (lv_room (Nat.le_of_ble_eq_true rfl)) d_M_sum_152 ⟨Nat.zero_le _, Nat.zero_le _⟩) hD hS hA (fun H locs hP hD hS => ?_)
          refine lv_aload_n hx hb d_M_sum_155 rfl (lv_at hl 0 rfl) ?_
          refine lv_iload_n hx hb d_M_sum_156 rfl (lv_at hl 2 rfl) ?_
          refine lv_lload hx hb d_M_sum_157 (lv_at hl 6 rfl) ?_
          refine lv_iconst (v := 0) hx hb d_M_sum_159 (by decide) ?_
          refine lv_iconst (v := 0) hx hb d_M_sum_160 (by decide) ?_
          obtain ⟨q77, eq77, h⟩ := hx_b1s h
          refine hx_wv (va_runV (As := [.int x69, .long x73, .int (0 : Int32), .int (0 : Int32)]) (rest := []) ⟨hx, hb, hml, hown, hts⟩ (c_M_value l D T3 bd _ q76 x69 x73 (0 : Int32) (0 : Int32) _ eq77) (cwV 4 hts (hx_gV hx_cons k_703 k_705 k_35 k_55 k_706) rfl rfl rfl (by decide +kernel) ⟨Nat.le_of_ble_eq_true rfl, Nat.le_of_ble_eq_true rfl⟩) (hx_preVw (va_recv hK hP (ci := 5) (q0 := 0) rfl hm_at_M) hP hK hD) rfl rfl hl.1 rfl (lv_room (Nat.le_of_ble_eq_true rfl)) d_M_sum_161 ⟨Nat.zero_le _, Nat.zero_le _⟩) hD hS hA (fun H locs hP hD hS => ?_)
          refine lv_aload_n hx hb d_M_sum_164 rfl (lv_at hl 0 rfl) ?_
          refine lv_iload hx hb d_M_sum_165 (lv_at hl 4 rfl) ?_
          refine lv_aload_n hx hb d_M_sum_167 rfl (lv_at hl 0 rfl) ?_
          refine va_get (D := D) (ci := 5) (v := .ref (bd 6)) (C := "HalfFloatsModel") (T := T_M) (N := 21) hx hb hts (hx_up in_M) hown hK hP (0) hm_at_M rfl 5 (by decide) (hts _ (hx_cons _ k_561)) (fun _ h9 => h9) rfl d_M_sum_168 ?_
          refine lv_bipush (v := 32) hx hb d_M_sum_171 (by decide) ?_
          refine lv_iload_n hx hb d_M_sum_173 rfl (lv_at hl 1 rfl) ?_
          refine lv_imul hx hb d_M_sum_174 ?_
          refine lv_iload hx hb d_M_sum_175 (lv_at hl 7 rfl) ?_
          refine lv_iadd hx hb d_M_sum_177 ?_
          obtain ⟨g78, h⟩ := hx_gs h
          refine va_lald hx hb hK hP (6) 2 hm_at_row rfl g78 d_M_sum_178 ?_
          refine lv_iconst (v := 0) hx hb d_M_sum_179 (by decide) ?_
          refine lv_iconst (v := 0) hx hb d_M_sum_180 (by decide) ?_
          obtain ⟨q79, eq79, h⟩ := hx_b1s h
          refine hx_wv (va_runV (As := [.int x71, .long (hm_row q77 (((32 : Int32) * x68) + x74).toNatClampNeg), .int (0 : Int32), .int (0 : Int32)]) (rest := []) ⟨hx, hb, hml, hown, hts⟩ (c_M_value l D T3 bd _ q77 x71 (hm_row q77 (((32 : Int32) * x68) + x74).toNatClampNeg) (0 : Int32) (0 : Int32) _ eq79) (cwV 4 hts (hx_gV hx_cons k_703 k_705 k_35 k_55 k_706) rfl rfl rfl (by decide +kernel) ⟨Nat.le_of_ble_eq_true rfl, Nat.le_of_ble_eq_true rfl⟩) (hx_preVw (va_recv hK hP (ci := 5) (q0 := 0) rfl hm_at_M) hP hK hD) rfl rfl hl.1 rfl (lv_room (Nat.le_of_ble_eq_true rfl)) d_M_sum_181 ⟨Nat.zero_le _, Nat.zero_le _⟩) hD hS hA (fun H locs hP hD hS => ?_)
          refine lv_aload_n hx hb d_M_sum_184 rfl (lv_at hl 0 rfl) ?_
          refine lv_iload_n hx hb d_M_sum_185 rfl (lv_at hl 2 rfl) ?_
          refine lv_iload hx hb d_M_sum_186 (lv_at hl 3 rfl) ?_
          obtain ⟨r81, q80, eq80, h⟩ := hx_b2s h
          refine hx_wj (va_runV (As := [.int x69, .int x70]) (rest := []) ⟨hx, hb, hml, hown, hts⟩ (c_M_end l D T3 bd _ q79 x69 x70 _ _ eq80) (cwV 2 hts (hx_gV hx_cons k_716 k_718 k_38 k_55 k_719) rfl rfl rfl (by decide +kernel) ⟨Nat.le_of_ble_eq_true rfl, Nat.le_of_ble_eq_true rfl⟩) (hx_preVw (va_recv hK hP (ci := 5) (q0 := 0) rfl hm_at_M) hP hK hD) rfl rfl hl.1 rfl (lv_room (Nat.le_of_ble_eq_true rfl)) d_M_sum_188 ⟨Nat.zero_le _, Nat.zero_le _⟩) hD hS hA (fun H locs hP hD hS => ?_)
          refine lv_lstore (lv' := [(7, .long r81), (0, .ref (bd 0)), (1, .int x68), (3, .int x69), (4, .int x70), (5, .int x71), (6, .int x72), (9, .int x74)]) hx hb d_M_sum_191 hl (by decide) rfl (fun ls hl => ?_)
          obtain ⟨x82, ex82⟩ : ∃ y : Int32, y = x74 + 1 := ⟨_, rfl⟩
          replace h := hx_ns ex82 h
          refine lv_iinc (v := x82) (lv' := [(9, .int x82), (7, .long r81), (0, .ref (bd 0)), (1, .int x68), (3, .int x69), (4, .int x70), (5, .int x71), (6, .int x72)]) hx hb d_M_sum_193 hl (k := 7) rfl (by rw [ex82]; rfl) (by decide) rfl (fun ls hl => ?_)
          clear ex82
          refine lv_goto (tgt := 144) hx hb d_M_sum_196 (by decide) ?_
          exact ih q80 x68 x69 x70 x71 x72 r81 x82 _ _ ls hP hD hS (lv_sub hl [2, 3, 4, 5, 6, 7, 1, 0] rfl) h
  have B_69 : ∀ (n : Nat), ∀ (σ : hm_S) (x84 : Int32) (x85 : Int32) (x86 : Int32) (x87 : Int32) (x88 : Int32) (x89 : Int32) (H : Heap) (locs : List Loc) (ls : Array Slot), va_P D vwCl (hm_W T3 bd σ) H → va_D A (hm_W T3 bd σ) → va_S A s.heap H locs → lv_has ls 10 [(0, .ref (bd 0)), (1, .int x84), (3, .int x85), (4, .int x86), (5, .int x87), (6, .int x88), (7, .int x89)] → f_M_sum_69 n σ x84 x85 x86 x87 x88 x89 = some (r0, σ0) → W p l e (headSpec w_M_sum m_M_sum).room s m args below meth c H locs 0 0 (MQ below (hx_Qj D (hx_ty T3) A r0 (hm_W T3 bd σ0)) args s 0 0 A) (F0 m 69 ls []) := by
    intro n
    induction n with
    | zero =>
      intro σ x84 x85 x86 x87 x88 x89 H locs ls hP hD hS hl h
      rw [f_M_sum_69] at h
      cases h
    | succ n ih =>
        intro σ x84 x85 x86 x87 x88 x89 H locs ls hP hD hS hl h
        rw [f_M_sum_69] at h
        refine lv_iload hx hb d_M_sum_69 (lv_at hl 6 rfl) ?_
        refine lv_iload hx hb d_M_sum_71 (lv_at hl 5 rfl) ?_
        refine lv_icmp_ge (tgt := 102) hx hb d_M_sum_73 (by decide) (fun c90 => ?_) (fun c90 => ?_)
        · replace h := hx_ip c90 h
          refine lv_aload_n hx hb d_M_sum_102 rfl (lv_at hl 0 rfl) ?_
          refine lv_iload_n hx hb d_M_sum_103 rfl (lv_at hl 2 rfl) ?_
          refine lv_iload hx hb d_M_sum_104 (lv_at hl 3 rfl) ?_
          obtain ⟨r92, q91, eq91, h⟩ := hx_b2s h
          refine hx_wj (va_runV (As := [.int x85, .int x86]) (rest := []) ⟨hx, hb, hml, hown, hts⟩ (c_M_end l D T3 bd _ σ x85 x86 _ _ eq91) (cwV 2 hts (hx_gV hx_cons k_716 k_718 k_38 k_55 k_719) rfl rfl rfl (by decide +kernel) ⟨Nat.le_of_ble_eq_true rfl, Nat.le_of_ble_eq_true rfl⟩) (hx_preVw (va_recv hK hP (ci := 5) (q0 := 0) rfl hm_at_M) hP hK hD) rfl rfl hl.1 rfl (lv_room (Nat.le_of_ble_eq_true rfl)) d_M_sum_106 ⟨Nat.zero_le _, Nat.zero_le _⟩) hD hS hA (fun H locs hP hD hS => ?_)
          exact W.lret hx hb hr (fun t ht hW => hx_endj h ht hW hP hK hD hS) hS.2.2 d_M_sum_109
        · replace h := hx_in c90 h
          refine lv_aload_n hx hb d_M_sum_76 rfl (lv_at hl 0 rfl) ?_
          refine lv_iload hx hb d_M_sum_77 (lv_at hl 4 rfl) ?_
          refine lv_aload_n hx hb d_M_sum_79 rfl (lv_at hl 0 rfl) ?_
          refine va_get (D := D) (ci := 5) (v := .ref (bd 6)) (C := "HalfFloatsModel") (T := T_M) (N := 21) hx hb hts (hx_up in_M) hown hK hP (0) hm_at_M rfl 5 (by decide) (hts _ (hx_cons _ k_561)) (fun _ h9 => h9) rfl d_M_sum_80 ?_
          refine lv_bipush (v := 32) hx hb d_M_sum_83 (by decide) ?_
          refine lv_iload_n hx hb d_M_sum_85 rfl (lv_at hl 1 rfl) ?_
          refine lv_imul hx hb d_M_sum_86 ?_
          refine lv_iload hx hb d_M_sum_87 (lv_at hl 6 rfl) ?_
          refine lv_iadd hx hb d_M_sum_89 ?_
          obtain ⟨g93, h⟩ := hx_gs h
          refine va_lald hx hb hK hP (6) 2 hm_at_row rfl g93 d_M_sum_90 ?_
          refine lv_iconst (v := 0) hx hb d_M_sum_91 (by decide) ?_
          refine lv_iconst (v := 0) hx hb d_M_sum_92 (by decide) ?_
          obtain ⟨q94, eq94, h⟩ := hx_b1s h
          refine hx_wv (va_runV (As := [.int x87, .long (hm_row σ (((32 : Int32) * x84) + x89).toNatClampNeg), .int (0 : Int32), .int (0 : Int32)]) (rest := []) ⟨hx, hb, hml, hown, hts⟩ (c_M_value l D T3 bd _ σ x87 (hm_row σ (((32 : Int32) * x84) + x89).toNatClampNeg) (0 : Int32) (0 : Int32) _ eq94) (cwV 4 hts (hx_gV hx_cons k_703 k_705 k_35 k_55 k_706) rfl rfl rfl (by decide +kernel) ⟨Nat.le_of_ble_eq_true rfl, Nat.le_of_ble_eq_true rfl⟩) (hx_preVw (va_recv hK hP (ci := 5) (q0 := 0) rfl hm_at_M) hP hK hD) rfl rfl hl.1 rfl (lv_room (Nat.le_of_ble_eq_true rfl)) d_M_sum_93 ⟨Nat.zero_le _, Nat.zero_le _⟩) hD hS hA (fun H locs hP hD hS => ?_)
          obtain ⟨x95, ex95⟩ : ∃ y : Int32, y = x89 + 1 := ⟨_, rfl⟩
          replace h := hx_ns ex95 h
          refine lv_iinc (v := x95) (lv' := [(7, .int x95), (0, .ref (bd 0)), (1, .int x84), (3, .int x85), (4, .int x86), (5, .int x87), (6, .int x88)]) hx hb d_M_sum_96 hl (k := 6) rfl (by rw [ex95]; rfl) (by decide) rfl (fun ls hl => ?_)
          clear ex95
          refine lv_goto (tgt := 69) hx hb d_M_sum_99 (by decide) ?_
          exact ih q94 x84 x85 x86 x87 x88 x95 _ _ ls hP hD hS (lv_sub hl [1, 2, 3, 4, 5, 6, 0] rfl) h
  refine W.eq (g2 := F0 m 0 ((lg_sl [.ref (bd 0), .int x1, .int x2, .int x3, .int x4] ++ List.replicate (10 - (lg_sl [.ref (bd 0), .int x1, .int x2, .int x3, .int x4]).length) Slot.unset).toArray) []) (by rw [hargs, lg_entry_eq]) ?_
  have hl := lv_entry ([.ref (bd 0), .int x1, .int x2, .int x3, .int x4]) (n := 10) (Nat.le_of_ble_eq_true rfl)
  generalize (lg_sl ([.ref (bd 0), .int x1, .int x2, .int x3, .int x4]) ++ List.replicate (10 - (lg_sl ([.ref (bd 0), .int x1, .int x2, .int x3, .int x4])).length) Slot.unset).toArray = ls at hl ⊢
  have hl : lv_has ls 10 [(0, .ref (bd 0)), (1, .int x1), (2, .int x2), (3, .int x3), (4, .int x4)] := hl
  rw [f_M_sum] at h
  refine lv_iload_n hx hb d_M_sum_0 rfl (lv_at hl 1 rfl) ?_
  refine lv_i2l hx hb d_M_sum_1 rfl ?_
  refine lv_lconst (v := 0) hx hb d_M_sum_2 rfl ?_
  refine lv_lconst (v := 1) hx hb d_M_sum_3 rfl ?_
  obtain ⟨r5, er5, h⟩ := hx_b1s h
  refine hx_rd (va_runS (As := [.long x1.toInt64, .long (0 : Int64), .long (1 : Int64)]) (rest := []) ⟨hx, hb, hml, hown, hts⟩ (c_M_isIn l D T3 x1.toInt64 (0 : Int64) (1 : Int64) _ er5) (va_cwS 3 hts (hx_gS hx_cons k_628 k_629 k_55 k_630) rfl rfl rfl (by decide +kernel) ⟨Nat.le_of_ble_eq_true rfl, Nat.le_of_ble_eq_true rfl⟩) (hx_preS hx_nil hK) rfl rfl hl.1 rfl (lv_room (Nat.le_of_ble_eq_true rfl)) d_M_sum_4 ⟨Nat.zero_le _, Nat.zero_le _⟩) ?_
  refine lv_if_eq (tgt := 37) hx hb d_M_sum_7 (by decide) (fun c6 => ?_) (fun c6 => ?_)
  · replace h := hx_ip c6 h
    refine lv_ldc2 (v := -2) hx hb hown (hts _ (hx_cons _ k_694)) d_M_sum_37 ?_
    exact W.lret hx hb hr (fun t ht hW => hx_endj h ht hW hP hK hD hS) hS.2.2 d_M_sum_40
  · replace h := hx_in c6 h
    refine lv_iload_n hx hb d_M_sum_10 rfl (lv_at hl 2 rfl) ?_
    refine lv_i2l hx hb d_M_sum_11 rfl ?_
    refine lv_lconst (v := 0) hx hb d_M_sum_12 rfl ?_
    refine lv_ldc2 (v := 2) hx hb hown (hts _ (hx_cons _ k_631)) d_M_sum_13 ?_
    obtain ⟨r7, er7, h⟩ := hx_b1s h
    refine hx_rd (va_runS (As := [.long x2.toInt64, .long (0 : Int64), .long (2 : Int64)]) (rest := []) ⟨hx, hb, hml, hown, hts⟩ (c_M_isIn l D T3 x2.toInt64 (0 : Int64) (2 : Int64) _ er7) (va_cwS 3 hts (hx_gS hx_cons k_628 k_629 k_55 k_630) rfl rfl rfl (by decide +kernel) ⟨Nat.le_of_ble_eq_true rfl, Nat.le_of_ble_eq_true rfl⟩) (hx_preS hx_nil hK) rfl rfl hl.1 rfl (lv_room (Nat.le_of_ble_eq_true rfl)) d_M_sum_16 ⟨Nat.zero_le _, Nat.zero_le _⟩) ?_
    refine lv_if_eq (tgt := 37) hx hb d_M_sum_19 (by decide) (fun c8 => ?_) (fun c8 => ?_)
    · replace h := hx_ip c8 h
      refine lv_ldc2 (v := -2) hx hb hown (hts _ (hx_cons _ k_694)) d_M_sum_37 ?_
      exact W.lret hx hb hr (fun t ht hW => hx_endj h ht hW hP hK hD hS) hS.2.2 d_M_sum_40
    · replace h := hx_in c8 h
      refine lv_iload_n hx hb d_M_sum_22 rfl (lv_at hl 3 rfl) ?_
      obtain ⟨r9, er9, h⟩ := hx_b1s h
      refine hx_rd (va_runS (As := [.int x3]) (rest := []) ⟨hx, hb, hml, hown, hts⟩ (c_M_isFormat l D T3 x3 _ er9) (va_cwS 1 hts (hx_gS hx_cons k_624 k_625 k_55 k_626) rfl rfl rfl (by decide +kernel) ⟨Nat.le_of_ble_eq_true rfl, Nat.le_of_ble_eq_true rfl⟩) (hx_preS hx_nil hK) rfl rfl hl.1 rfl (lv_room (Nat.le_of_ble_eq_true rfl)) d_M_sum_23 ⟨Nat.zero_le _, Nat.zero_le _⟩) ?_
      refine lv_if_eq (tgt := 37) hx hb d_M_sum_26 (by decide) (fun c10 => ?_) (fun c10 => ?_)
      · replace h := hx_ip c10 h
        refine lv_ldc2 (v := -2) hx hb hown (hts _ (hx_cons _ k_694)) d_M_sum_37 ?_
        exact W.lret hx hb hr (fun t ht hW => hx_endj h ht hW hP hK hD hS) hS.2.2 d_M_sum_40
      · replace h := hx_in c10 h
        refine lv_iload hx hb d_M_sum_29 (lv_at hl 4 rfl) ?_
        obtain ⟨r11, er11, h⟩ := hx_b1s h
        refine hx_rd (va_runS (As := [.int x4]) (rest := []) ⟨hx, hb, hml, hown, hts⟩ (c_M_isWay l D T3 x4 _ er11) (va_cwS 1 hts (hx_gS hx_cons k_690 k_691 k_55 k_692) rfl rfl rfl (by decide +kernel) ⟨Nat.le_of_ble_eq_true rfl, Nat.le_of_ble_eq_true rfl⟩) (hx_preS hx_nil hK) rfl rfl hl.1 rfl (lv_room (Nat.le_of_ble_eq_true rfl)) d_M_sum_31 ⟨Nat.zero_le _, Nat.zero_le _⟩) ?_
        refine lv_if_ne (tgt := 41) hx hb d_M_sum_34 (by decide) (fun c12 => ?_) (fun c12 => ?_)
        · replace h := hx_in c12 h
          refine lv_aload_n hx hb d_M_sum_41 rfl (lv_at hl 0 rfl) ?_
          refine va_get (D := D) (ci := 5) (v := .ref (bd 4)) (C := "HalfFloatsModel") (T := T_M) (N := 21) hx hb hts (hx_up in_M) hown hK hP (0) hm_at_M rfl 3 (by decide) (hts _ (hx_cons _ k_559)) (fun _ h9 => h9) rfl d_M_sum_42 ?_
          refine lv_iload_n hx hb d_M_sum_45 rfl (lv_at hl 1 rfl) ?_
          obtain ⟨g13, h⟩ := hx_gs h
          refine va_iald hx hb hK hP (4) 1 hm_at_rF rfl g13 d_M_sum_46 ?_
          refine lv_topi (fun x14 ex14 => ?_)
          replace h := hx_ns ex14 h
          clear ex14
          refine lv_istore (lv' := [(5, .int x14), (0, .ref (bd 0)), (1, .int x1), (2, .int x2), (3, .int x3), (4, .int x4)]) hx hb d_M_sum_47 hl (by decide) rfl (fun ls hl => ?_)
          refine lv_aload_n hx hb d_M_sum_49 rfl (lv_at hl 1 rfl) ?_
          refine va_get (D := D) (ci := 5) (v := .ref (bd 5)) (C := "HalfFloatsModel") (T := T_M) (N := 21) hx hb hts (hx_up in_M) hown hK hP (0) hm_at_M rfl 4 (by decide) (hts _ (hx_cons _ k_560)) (fun _ h9 => h9) rfl d_M_sum_50 ?_
          refine lv_iload_n hx hb d_M_sum_53 rfl (lv_at hl 2 rfl) ?_
          obtain ⟨g15, h⟩ := hx_gs h
          refine va_iald hx hb hK hP (5) 1 hm_at_rM rfl g15 d_M_sum_54 ?_
          refine lv_topi (fun x16 ex16 => ?_)
          replace h := hx_ns ex16 h
          clear ex16
          refine lv_istore (lv' := [(6, .int x16), (5, .int x14), (0, .ref (bd 0)), (1, .int x1), (2, .int x2), (3, .int x3), (4, .int x4)]) hx hb d_M_sum_55 hl (by decide) rfl (fun ls hl => ?_)
          refine lv_iload_n hx hb d_M_sum_57 rfl (lv_at hl 4 rfl) ?_
          refine lv_iconst (v := 2) hx hb d_M_sum_58 (by decide) ?_
          refine lv_icmp_ne (tgt := 110) hx hb d_M_sum_59 (by decide) (fun c17 => ?_) (fun c17 => ?_)
          · replace h := hx_in c17 h
            refine lv_iload hx hb d_M_sum_110 (lv_at hl 0 rfl) ?_
            refine lv_if_ne (tgt := 117) hx hb d_M_sum_112 (by decide) (fun c18 => ?_) (fun c18 => ?_)
            · replace h := hx_in c18 h
              refine lv_iload_n hx hb d_M_sum_117 rfl (lv_at hl 4 rfl) ?_
              refine lv_if_ne (tgt := 202) hx hb d_M_sum_118 (by decide) (fun c19 => ?_) (fun c19 => ?_)
              · replace h := hx_in c19 h
                refine lv_iconst (v := 0) hx hb d_M_sum_202 (by decide) ?_
                refine lv_istore (lv' := [(7, .int (0 : Int32)), (6, .int x16), (5, .int x14), (0, .ref (bd 0)), (1, .int x1), (2, .int x2), (3, .int x3), (4, .int x4)]) hx hb d_M_sum_203 hl (by decide) rfl (fun ls hl => ?_)
                exact B_205 hx_fuel τ x1 x3 x4 x14 x16 (0 : Int32) _ _ ls hP hD hS (lv_sub hl [3, 4, 6, 7, 2, 1, 0] rfl) h
              · replace h := hx_ip c19 h
                refine lv_aload_n hx hb d_M_sum_121 rfl (lv_at hl 2 rfl) ?_
                refine lv_iload hx hb d_M_sum_122 (lv_at hl 1 rfl) ?_
                refine lv_aload_n hx hb d_M_sum_124 rfl (lv_at hl 2 rfl) ?_
                refine va_get (D := D) (ci := 5) (v := .ref (bd 6)) (C := "HalfFloatsModel") (T := T_M) (N := 21) hx hb hts (hx_up in_M) hown hK hP (0) hm_at_M rfl 5 (by decide) (hts _ (hx_cons _ k_561)) (fun _ h9 => h9) rfl d_M_sum_125 ?_
                refine lv_bipush (v := 32) hx hb d_M_sum_128 (by decide) ?_
                refine lv_iload_n hx hb d_M_sum_130 rfl (lv_at hl 3 rfl) ?_
                refine lv_imul hx hb d_M_sum_131 ?_
                obtain ⟨g65, h⟩ := hx_gs h
                refine va_lald hx hb hK hP (6) 2 hm_at_row rfl g65 d_M_sum_132 ?_
                refine lv_iload_n hx hb d_M_sum_133 rfl (lv_at hl 5 rfl) ?_
                refine lv_iload hx hb d_M_sum_134 (lv_at hl 6 rfl) ?_
                obtain ⟨r67, q66, eq66, h⟩ := hx_b2s h
                refine hx_wj (va_runV (As := [.int x14, .long (hm_row τ ((32 : Int32) * x1).toNatClampNeg), .int x3, .int x4]) (rest := []) ⟨hx, hb, hml, hown, hts⟩ (c_M_turned l D T3 bd _ τ x14 (hm_row τ ((32 : Int32) * x1).toNatClampNeg) x3 x4 _ _ eq66) (cwV 4 hts (hx_gV hx_cons k_695 k_697 k_33 k_55 k_698) rfl rfl rfl (by decide +kernel) ⟨Nat.le_of_ble_eq_true rfl, Nat.le_of_ble_eq_true rfl⟩) (hx_preVw (va_recv hK hP (ci := 5) (q0 := 0) rfl hm_at_M) hP hK hD) rfl rfl hl.1 rfl (lv_room (Nat.le_of_ble_eq_true rfl)) d_M_sum_136 ⟨Nat.zero_le _, Nat.zero_le _⟩) hD hS hA (fun H locs hP hD hS => ?_)
                refine lv_lstore (lv' := [(7, .long r67), (6, .int x16), (5, .int x14), (0, .ref (bd 0)), (1, .int x1), (2, .int x2), (3, .int x3), (4, .int x4)]) hx hb d_M_sum_139 hl (by decide) rfl (fun ls hl => ?_)
                refine lv_iconst (v := 1) hx hb d_M_sum_141 (by decide) ?_
                refine lv_istore (lv' := [(9, .int (1 : Int32)), (7, .long r67), (6, .int x16), (5, .int x14), (0, .ref (bd 0)), (1, .int x1), (2, .int x2), (3, .int x3), (4, .int x4)]) hx hb d_M_sum_142 hl (by decide) rfl (fun ls hl => ?_)
                exact B_144 hx_fuel q66 x1 x3 x4 x14 x16 r67 (1 : Int32) _ _ ls hP hD hS (lv_sub hl [4, 5, 7, 8, 3, 2, 1, 0] rfl) h
            · replace h := hx_ip c18 h
              refine lv_lconst (v := 0) hx hb d_M_sum_115 rfl ?_
              exact W.lret hx hb hr (fun t ht hW => hx_endj h ht hW hP hK hD hS) hS.2.2 d_M_sum_116
          · replace h := hx_ip c17 h
            refine lv_aload_n hx hb d_M_sum_62 rfl (lv_at hl 2 rfl) ?_
            obtain ⟨q83, eq83, h⟩ := hx_b1s h
            refine hx_wv (va_runV (As := []) (rest := []) ⟨hx, hb, hml, hown, hts⟩ (c_M_begin l D T3 bd _ τ _ eq83) (cwV 0 hts (hx_gV hx_cons k_699 k_701 k_34 k_55 k_702) rfl rfl rfl (by decide +kernel) ⟨Nat.le_of_ble_eq_true rfl, Nat.le_of_ble_eq_true rfl⟩) (hx_preVw (va_recv hK hP (ci := 5) (q0 := 0) rfl hm_at_M) hP hK hD) rfl rfl hl.1 rfl (lv_room (Nat.le_of_ble_eq_true rfl)) d_M_sum_63 ⟨Nat.zero_le _, Nat.zero_le _⟩) hD hS hA (fun H locs hP hD hS => ?_)
            refine lv_iconst (v := 0) hx hb d_M_sum_66 (by decide) ?_
            refine lv_istore (lv' := [(7, .int (0 : Int32)), (6, .int x16), (5, .int x14), (0, .ref (bd 0)), (1, .int x1), (2, .int x2), (3, .int x3), (4, .int x4)]) hx hb d_M_sum_67 hl (by decide) rfl (fun ls hl => ?_)
            exact B_69 hx_fuel q83 x1 x3 x4 x14 x16 (0 : Int32) _ _ ls hP hD hS (lv_sub hl [3, 4, 6, 7, 2, 1, 0] rfl) h
        · replace h := hx_ip c12 h
          refine lv_ldc2 (v := -2) hx hb hown (hts _ (hx_cons _ k_694)) d_M_sum_37 ?_
          exact W.lret hx hb hr (fun t ht hW => hx_endj h ht hW hP hK hD hS) hS.2.2 d_M_sum_40
abbrev m_M_shorter : Room := { frames := 0, cells := 0, slots := 0, locals := 0 }
set_option maxHeartbeats 4000000 in
set_option maxRecDepth 100000 in
theorem c_M_shorter (l : Launch) (D : va_G) (T3 : hx_T3) (bd : Nat → Nat) (τ : hm_S) (r0 : Int32) (h : f_M_shorter τ = some r0) : hx_R l D (hx_ty T3) (hm_W T3 bd τ) y_M_shorter w_M_shorter m_M_shorter [.ref (bd 0)] (.int r0) := by
  refine Met.ofW (cc := b_M_shorter) (maxL := 1) (ret := (some .int)) (by decide) rfl ?_
  intro p e s m args below meth c s₁ B hml hv
  obtain ⟨hargs, hP, hK⟩ := hv
  have hx := B.exec
  have hb := B.bytes
  have hr := B.returns
  have hts := atoms_spec (ws := w_M_shorter) B.pre
  have hown : s.vm.findClass "HalfFloatsModel" = some m.cls := findClass_of_methodNamed B.named
  have hlocks := B.notSynchronized
  refine W.eq (g2 := F0 m 0 ((lg_sl [.ref (bd 0)] ++ List.replicate (1 - (lg_sl [.ref (bd 0)]).length) Slot.unset).toArray) []) (by rw [hargs, lg_entry_eq]) ?_
  have hl := lv_entry ([.ref (bd 0)]) (n := 1) (Nat.le_of_ble_eq_true rfl)
  generalize (lg_sl ([.ref (bd 0)]) ++ List.replicate (1 - (lg_sl ([.ref (bd 0)])).length) Slot.unset).toArray = ls at hl ⊢
  have hl : lv_has ls 1 [(0, .ref (bd 0))] := hl
  rw [f_M_shorter] at h
  refine lv_aload_n hx hb d_M_shorter_0 rfl (lv_at hl 0 rfl) ?_
  refine va_get (D := D) (ci := 5) (v := .ref (bd 5)) (C := "HalfFloatsModel") (T := T_M) (N := 21) hx hb hts (hx_up in_M) hown hK hP (0) hm_at_M rfl 4 (by decide) (hts _ (hx_cons _ k_560)) (fun _ h9 => h9) rfl d_M_shorter_1 ?_
  refine lv_iconst (v := 0) hx hb d_M_shorter_4 (by decide) ?_
  obtain ⟨g1, h⟩ := hx_gs h
  refine va_iald hx hb hK hP (5) 1 hm_at_rM rfl g1 d_M_shorter_5 ?_
  refine lv_aload_n hx hb d_M_shorter_6 rfl (lv_at hl 0 rfl) ?_
  refine va_get (D := D) (ci := 5) (v := .ref (bd 5)) (C := "HalfFloatsModel") (T := T_M) (N := 21) hx hb hts (hx_up in_M) hown hK hP (0) hm_at_M rfl 4 (by decide) (hts _ (hx_cons _ k_560)) (fun _ h9 => h9) rfl d_M_shorter_7 ?_
  refine lv_iconst (v := 1) hx hb d_M_shorter_10 (by decide) ?_
  obtain ⟨g2, h⟩ := hx_gs h
  refine va_iald hx hb hK hP (5) 1 hm_at_rM rfl g2 d_M_shorter_11 ?_
  refine lv_icmp_ge (tgt := 24) hx hb d_M_shorter_12 (by decide) (fun c3 => ?_) (fun c3 => ?_)
  · replace h := hx_ip c3 h
    refine lv_aload_n hx hb d_M_shorter_24 rfl (lv_at hl 0 rfl) ?_
    refine va_get (D := D) (ci := 5) (v := .ref (bd 5)) (C := "HalfFloatsModel") (T := T_M) (N := 21) hx hb hts (hx_up in_M) hown hK hP (0) hm_at_M rfl 4 (by decide) (hts _ (hx_cons _ k_560)) (fun _ h9 => h9) rfl d_M_shorter_25 ?_
    refine lv_iconst (v := 1) hx hb d_M_shorter_28 (by decide) ?_
    obtain ⟨g4, h⟩ := hx_gs h
    refine va_iald hx hb hK hP (5) 1 hm_at_rM rfl g4 d_M_shorter_29 ?_
    exact W.iret hx hb hr (fun t ht hW => ⟨by rw [Option.some.inj h], ht⟩) (fun q hq => nomatch hq) d_M_shorter_30
  · replace h := hx_in c3 h
    refine lv_aload_n hx hb d_M_shorter_15 rfl (lv_at hl 0 rfl) ?_
    refine va_get (D := D) (ci := 5) (v := .ref (bd 5)) (C := "HalfFloatsModel") (T := T_M) (N := 21) hx hb hts (hx_up in_M) hown hK hP (0) hm_at_M rfl 4 (by decide) (hts _ (hx_cons _ k_560)) (fun _ h9 => h9) rfl d_M_shorter_16 ?_
    refine lv_iconst (v := 0) hx hb d_M_shorter_19 (by decide) ?_
    obtain ⟨g5, h⟩ := hx_gs h
    refine va_iald hx hb hK hP (5) 1 hm_at_rM rfl g5 d_M_shorter_20 ?_
    refine lv_goto (tgt := 30) hx hb d_M_shorter_21 (by decide) ?_
    exact W.iret hx hb hr (fun t ht hW => ⟨by rw [Option.some.inj h], ht⟩) (fun q hq => nomatch hq) d_M_shorter_30
abbrev m_M_dot : Room := { frames := 5, cells := 0, slots := 0, locals := 133 }
set_option maxHeartbeats 4000000 in
set_option maxRecDepth 100000 in
theorem c_M_dot (l : Launch) (D : va_G) (T3 : hx_T3) (bd : Nat → Nat) (sz : Nat) (τ : hm_S) (x1 : Int32) (x2 : Int32) (x3 : Int32) (x4 : Int32) (r0 : Int64) (σ0 : hm_S) (h : f_M_dot τ x1 x2 x3 x4 = some (r0, σ0)) : hx_Wj l D (hx_ty T3) y_M_dot w_M_dot m_M_dot [.ref (bd 0), .int x1, .int x2, .int x3, .int x4] sz (hm_W T3 bd τ) r0 (hm_W T3 bd σ0) := by
  refine Met.ofW (cc := b_M_dot) (maxL := 12) (ret := (some .long)) (by decide) rfl ?_
  intro p e s m args below meth c s₁ B hml hv
  obtain ⟨hargs, hsz, hP, hK, hD0⟩ := hv
  have hx := B.exec
  have hb := B.bytes
  have hr := B.returns
  have hts := atoms_spec (ws := w_M_dot) B.pre
  have hown : s.vm.findClass "HalfFloatsModel" = some m.cls := findClass_of_methodNamed B.named
  have hlocks := B.notSynchronized
  subst hsz
  have hD := hD0.self (sz := s.heap.size)
  generalize hAe : va_A (hm_W T3 bd τ) s.heap.size = A at hD ⊢
  have hA : ∀ q : Nat, s.heap.size ≤ q → A q := fun q h => by rw [← hAe]; exact Or.inr h
  have hS : va_S A s.heap s.heap [] := va_S.rf
  have B_208 : ∀ (K116 : hm_S → Int32 → Int32 → Int32 → Int32 → Int32 → Int64 → Int32 → Option (Int64 × hm_S)) (hK116 : ∀ (σ : hm_S) (x15 : Int32) (x16 : Int32) (x17 : Int32) (x18 : Int32) (x19 : Int32) (x20 : Int64) (x21 : Int32) (H : Heap) (locs : List Loc) (ls : Array Slot), va_P D vwCl (hm_W T3 bd σ) H → va_D A (hm_W T3 bd σ) → va_S A s.heap H locs → lv_has ls 12 [(0, .ref (bd 0)), (1, .int x15), (2, .int x16), (3, .int x17), (4, .int x18), (5, .int x19), (6, .long x20), (8, .int x21)] → K116 σ x15 x16 x17 x18 x19 x20 x21 = some (r0, σ0) → W p l e (headSpec w_M_dot m_M_dot).room s m args below meth c H locs 0 0 (MQ below (hx_Qj D (hx_ty T3) A r0 (hm_W T3 bd σ0)) args s 0 0 A) (F0 m 116 ls [])), ∀ (σ : hm_S) (x33 : Int32) (x34 : Int32) (x35 : Int32) (x36 : Int32) (x37 : Int32) (x38 : Int64) (x39 : Int32) (x40 : Int64) (H : Heap) (locs : List Loc) (ls : Array Slot), va_P D vwCl (hm_W T3 bd σ) H → va_D A (hm_W T3 bd σ) → va_S A s.heap H locs → lv_has ls 12 [(0, .ref (bd 0)), (1, .int x33), (2, .int x34), (3, .int x35), (4, .int x36), (5, .int x37), (6, .long x38), (8, .int x39), (9, .long x40)] → f_M_dot_208 K116 σ x33 x34 x35 x36 x37 x38 x39 x40 = some (r0, σ0) → W p l e (headSpec w_M_dot m_M_dot).room s m args below meth c H locs 0 0 (MQ below (hx_Qj D (hx_ty T3) A r0 (hm_W T3 bd σ0)) args s 0 0 A) (F0 m 208 ls []) := by
      intro K116 hK116
      intro σ x33 x34 x35 x36 x37 x38 x39 x40 H locs ls hP hD hS hl h
      rw [f_M_dot_208] at h
      refine lv_aload_n hx hb d_M_dot_208 rfl (lv_at hl 0 rfl) ?_
      obtain ⟨q41, eq41, h⟩ := hx_b1s h
      refine hx_wv (va_runV (As := []) (rest := []) ⟨hx, hb, hml, hown, hts⟩ (c_M_begin l D T3 bd _ σ _ eq41) (cwV 0 hts (hx_gV hx_cons k_699 k_701 k_34 k_55 k_702) rfl rfl rfl (by decide +kernel) ⟨Nat.le_of_ble_eq_true rfl, Nat.le_of_ble_eq_true rfl⟩) (hx_preVw (va_recv hK hP (ci := 5) (q0 := 0) rfl hm_at_M) hP hK hD) rfl rfl hl.1 rfl (lv_room (Nat.le_of_ble_eq_true rfl)) d_M_dot_209 ⟨Nat.zero_le _, Nat.zero_le _⟩) hD hS hA (fun H locs hP hD hS => ?_)
      refine lv_aload_n hx hb d_M_dot_212 rfl (lv_at hl 0 rfl) ?_
      refine lv_iload_n hx hb d_M_dot_213 rfl (lv_at hl 3 rfl) ?_
      refine lv_lload hx hb d_M_dot_214 (lv_at hl 6 rfl) ?_
      refine lv_iconst (v := 0) hx hb d_M_dot_216 (by decide) ?_
      refine lv_iconst (v := 0) hx hb d_M_dot_217 (by decide) ?_
      obtain ⟨q42, eq42, h⟩ := hx_b1s h
      refine hx_wv (va_runV (As := [.int x35, .long x38, .int (0 : Int32), .int (0 : Int32)]) (rest := []) ⟨hx, hb, hml, hown, hts⟩ (c_M_value l D T3 bd _ q41 x35 x38 (0 : Int32) (0 : Int32) _ eq42) (cwV 4 hts (hx_gV hx_cons k_703 k_705 k_35 k_55 k_706) rfl rfl rfl (by decide +kernel) ⟨Nat.le_of_ble_eq_true rfl, Nat.le_of_ble_eq_true rfl⟩) (hx_preVw (va_recv hK hP (ci := 5) (q0 := 0) rfl hm_at_M) hP hK hD) rfl rfl hl.1 rfl (lv_room (Nat.le_of_ble_eq_true rfl)) d_M_dot_218 ⟨Nat.zero_le _, Nat.zero_le _⟩) hD hS hA (fun H locs hP hD hS => ?_)
      refine lv_aload_n hx hb d_M_dot_221 rfl (lv_at hl 0 rfl) ?_
      refine lv_iload_n hx hb d_M_dot_222 rfl (lv_at hl 2 rfl) ?_
      refine lv_lload hx hb d_M_dot_223 (lv_at hl 8 rfl) ?_
      refine lv_iconst (v := 0) hx hb d_M_dot_225 (by decide) ?_
      refine lv_iconst (v := 0) hx hb d_M_dot_226 (by decide) ?_
      obtain ⟨q43, eq43, h⟩ := hx_b1s h
      refine hx_wv (va_runV (As := [.int x34, .long x40, .int (0 : Int32), .int (0 : Int32)]) (rest := []) ⟨hx, hb, hml, hown, hts⟩ (c_M_value l D T3 bd _ q42 x34 x40 (0 : Int32) (0 : Int32) _ eq43) (cwV 4 hts (hx_gV hx_cons k_703 k_705 k_35 k_55 k_706) rfl rfl rfl (by decide +kernel) ⟨Nat.le_of_ble_eq_true rfl, Nat.le_of_ble_eq_true rfl⟩) (hx_preVw (va_recv hK hP (ci := 5) (q0 := 0) rfl hm_at_M) hP hK hD) rfl rfl hl.1 rfl (lv_room (Nat.le_of_ble_eq_true rfl)) d_M_dot_227 ⟨Nat.zero_le _, Nat.zero_le _⟩) hD hS hA (fun H locs hP hD hS => ?_)
      refine lv_aload_n hx hb d_M_dot_230 rfl (lv_at hl 0 rfl) ?_
      refine lv_iload_n hx hb d_M_dot_231 rfl (lv_at hl 3 rfl) ?_
      refine lv_iload hx hb d_M_dot_232 (lv_at hl 4 rfl) ?_
      obtain ⟨r45, q44, eq44, h⟩ := hx_b2s h
      refine hx_wj (va_runV (As := [.int x35, .int x36]) (rest := []) ⟨hx, hb, hml, hown, hts⟩ (c_M_end l D T3 bd _ q43 x35 x36 _ _ eq44) (cwV 2 hts (hx_gV hx_cons k_716 k_718 k_38 k_55 k_719) rfl rfl rfl (by decide +kernel) ⟨Nat.le_of_ble_eq_true rfl, Nat.le_of_ble_eq_true rfl⟩) (hx_preVw (va_recv hK hP (ci := 5) (q0 := 0) rfl hm_at_M) hP hK hD) rfl rfl hl.1 rfl (lv_room (Nat.le_of_ble_eq_true rfl)) d_M_dot_234 ⟨Nat.zero_le _, Nat.zero_le _⟩) hD hS hA (fun H locs hP hD hS => ?_)
      refine lv_lstore (lv' := [(6, .long r45), (0, .ref (bd 0)), (1, .int x33), (2, .int x34), (3, .int x35), (4, .int x36), (5, .int x37), (8, .int x39), (9, .long x40)]) hx hb d_M_dot_237 hl (by decide) rfl (fun ls hl => ?_)
      refine lv_iload hx hb d_M_dot_239 (lv_at hl 7 rfl) ?_
      refine lv_iload_n hx hb d_M_dot_241 rfl (lv_at hl 2 rfl) ?_
      refine lv_iadd hx hb d_M_dot_242 ?_
      refine lv_topi (fun x46 ex46 => ?_)
      replace h := hx_ns ex46 h
      clear ex46
      refine lv_istore (lv' := [(8, .int x46), (6, .long r45), (0, .ref (bd 0)), (1, .int x33), (2, .int x34), (3, .int x35), (4, .int x36), (5, .int x37), (9, .long x40)]) hx hb d_M_dot_243 hl (by decide) rfl (fun ls hl => ?_)
      refine lv_goto (tgt := 116) hx hb d_M_dot_245 (by decide) ?_
      exact hK116 q44 x33 x34 x35 x36 x37 r45 x46 _ _ ls hP hD hS (lv_sub hl [2, 3, 4, 5, 6, 7, 1, 0] rfl) h
  have B_130 : ∀ (K116 : hm_S → Int32 → Int32 → Int32 → Int32 → Int32 → Int64 → Int32 → Option (Int64 × hm_S)) (hK116 : ∀ (σ : hm_S) (x15 : Int32) (x16 : Int32) (x17 : Int32) (x18 : Int32) (x19 : Int32) (x20 : Int64) (x21 : Int32) (H : Heap) (locs : List Loc) (ls : Array Slot), va_P D vwCl (hm_W T3 bd σ) H → va_D A (hm_W T3 bd σ) → va_S A s.heap H locs → lv_has ls 12 [(0, .ref (bd 0)), (1, .int x15), (2, .int x16), (3, .int x17), (4, .int x18), (5, .int x19), (6, .long x20), (8, .int x21)] → K116 σ x15 x16 x17 x18 x19 x20 x21 = some (r0, σ0) → W p l e (headSpec w_M_dot m_M_dot).room s m args below meth c H locs 0 0 (MQ below (hx_Qj D (hx_ty T3) A r0 (hm_W T3 bd σ0)) args s 0 0 A) (F0 m 116 ls [])), ∀ (n : Nat), ∀ (σ : hm_S) (x23 : Int32) (x24 : Int32) (x25 : Int32) (x26 : Int32) (x27 : Int32) (x28 : Int64) (x29 : Int32) (x30 : Int64) (x31 : Int32) (H : Heap) (locs : List Loc) (ls : Array Slot), va_P D vwCl (hm_W T3 bd σ) H → va_D A (hm_W T3 bd σ) → va_S A s.heap H locs → lv_has ls 12 [(0, .ref (bd 0)), (1, .int x23), (2, .int x24), (3, .int x25), (4, .int x26), (5, .int x27), (6, .long x28), (8, .int x29), (9, .long x30), (11, .int x31)] → f_M_dot_130 K116 n σ x23 x24 x25 x26 x27 x28 x29 x30 x31 = some (r0, σ0) → W p l e (headSpec w_M_dot m_M_dot).room s m args below meth c H locs 0 0 (MQ below (hx_Qj D (hx_ty T3) A r0 (hm_W T3 bd σ0)) args s 0 0 A) (F0 m 130 ls []) := by
    intro K116 hK116
    intro n
    induction n with
    | zero =>
      intro σ x23 x24 x25 x26 x27 x28 x29 x30 x31 H locs ls hP hD hS hl h
      rw [f_M_dot_130] at h
      cases h
    | succ n ih =>
        intro σ x23 x24 x25 x26 x27 x28 x29 x30 x31 H locs ls hP hD hS hl h
        rw [f_M_dot_130] at h
        refine lv_iload hx hb d_M_dot_130 (lv_at hl 9 rfl) ?_
        refine lv_iload hx hb d_M_dot_132 (lv_at hl 5 rfl) ?_
        refine lv_icmp_ge (tgt := 208) hx hb d_M_dot_134 (by decide) (fun c32 => ?_) (fun c32 => ?_)
        · replace h := hx_ip c32 h
          exact B_208 K116 hK116 σ x23 x24 x25 x26 x27 x28 x29 x30 _ _ ls hP hD hS (lv_sub hl [0, 1, 2, 3, 4, 5, 6, 7, 8] rfl) h
        · replace h := hx_in c32 h
          refine lv_iload hx hb d_M_dot_137 (lv_at hl 9 rfl) ?_
          refine lv_iload hx hb d_M_dot_139 (lv_at hl 7 rfl) ?_
          refine lv_iload_n hx hb d_M_dot_141 rfl (lv_at hl 1 rfl) ?_
          refine lv_iadd hx hb d_M_dot_142 ?_
          refine lv_icmp_ge (tgt := 208) hx hb d_M_dot_143 (by decide) (fun c47 => ?_) (fun c47 => ?_)
          · replace h := hx_ip c47 h
            exact B_208 K116 hK116 σ x23 x24 x25 x26 x27 x28 x29 x30 _ _ ls hP hD hS (lv_sub hl [0, 1, 2, 3, 4, 5, 6, 7, 8] rfl) h
          · replace h := hx_in c47 h
            refine lv_aload_n hx hb d_M_dot_146 rfl (lv_at hl 0 rfl) ?_
            obtain ⟨q48, eq48, h⟩ := hx_b1s h
            refine hx_wv (va_runV (As := []) (rest := []) ⟨hx, hb, hml, hown, hts⟩ (c_M_begin l D T3 bd _ σ _ eq48) (cwV 0 hts (hx_gV hx_cons k_699 k_701 k_34 k_55 k_702) rfl rfl rfl (by decide +kernel) ⟨Nat.le_of_ble_eq_true rfl, Nat.le_of_ble_eq_true rfl⟩) (hx_preVw (va_recv hK hP (ci := 5) (q0 := 0) rfl hm_at_M) hP hK hD) rfl rfl hl.1 rfl (lv_room (Nat.le_of_ble_eq_true rfl)) d_M_dot_147 ⟨Nat.zero_le _, Nat.zero_le _⟩) hD hS hA (fun H locs hP hD hS => ?_)
            refine lv_aload_n hx hb d_M_dot_150 rfl (lv_at hl 0 rfl) ?_
            refine lv_iload_n hx hb d_M_dot_151 rfl (lv_at hl 2 rfl) ?_
            refine lv_lload hx hb d_M_dot_152 (lv_at hl 8 rfl) ?_
            refine lv_iconst (v := 0) hx hb d_M_dot_154 (by decide) ?_
            refine lv_iconst (v := 0) hx hb d_M_dot_155 (by decide) ?_
            obtain ⟨q49, eq49, h⟩ := hx_b1s h
            refine hx_wv (va_runV (As := [.int x24, .long x30, .int (0 : Int32), .int (0 : Int32)]) (rest := []) ⟨hx, hb, hml, hown, hts⟩ (c_M_value l D T3 bd _ q48 x24 x30 (0 : Int32) (0 : Int32) _ eq49) (cwV 4 hts (hx_gV hx_cons k_703 k_705 k_35 k_55 k_706) rfl rfl rfl (by decide +kernel) ⟨Nat.le_of_ble_eq_true rfl, Nat.le_of_ble_eq_true rfl⟩) (hx_preVw (va_recv hK hP (ci := 5) (q0 := 0) rfl hm_at_M) hP hK hD) rfl rfl hl.1 rfl (lv_room (Nat.le_of_ble_eq_true rfl)) d_M_dot_156 ⟨Nat.zero_le _, Nat.zero_le _⟩) hD hS hA (fun H locs hP hD hS => ?_)
            refine lv_aload_n hx hb d_M_dot_159 rfl (lv_at hl 0 rfl) ?_
            refine lv_aload_n hx hb d_M_dot_160 rfl (lv_at hl 0 rfl) ?_
            refine va_get (D := D) (ci := 5) (v := .ref (bd 4)) (C := "HalfFloatsModel") (T := T_M) (N := 21) hx hb hts (hx_up in_M) hown hK hP (0) hm_at_M rfl 3 (by decide) (hts _ (hx_cons _ k_559)) (fun _ h9 => h9) rfl d_M_dot_161 ?_
            refine lv_iconst (v := 0) hx hb d_M_dot_164 (by decide) ?_
            obtain ⟨g50, h⟩ := hx_gs h
            refine va_iald hx hb hK hP (4) 1 hm_at_rF rfl g50 d_M_dot_165 ?_
            refine lv_aload_n hx hb d_M_dot_166 rfl (lv_at hl 0 rfl) ?_
            refine va_get (D := D) (ci := 5) (v := .ref (bd 6)) (C := "HalfFloatsModel") (T := T_M) (N := 21) hx hb hts (hx_up in_M) hown hK hP (0) hm_at_M rfl 5 (by decide) (hts _ (hx_cons _ k_561)) (fun _ h9 => h9) rfl d_M_dot_167 ?_
            refine lv_iload hx hb d_M_dot_170 (lv_at hl 9 rfl) ?_
            obtain ⟨g51, h⟩ := hx_gs h
            refine va_lald hx hb hK hP (6) 2 hm_at_row rfl g51 d_M_dot_172 ?_
            refine lv_aload_n hx hb d_M_dot_173 rfl (lv_at hl 0 rfl) ?_
            refine va_get (D := D) (ci := 5) (v := .ref (bd 4)) (C := "HalfFloatsModel") (T := T_M) (N := 21) hx hb hts (hx_up in_M) hown hK hP (0) hm_at_M rfl 3 (by decide) (hts _ (hx_cons _ k_559)) (fun _ h9 => h9) rfl d_M_dot_174 ?_
            refine lv_iconst (v := 1) hx hb d_M_dot_177 (by decide) ?_
            obtain ⟨g52, h⟩ := hx_gs h
            refine va_iald hx hb hK hP (4) 1 hm_at_rF rfl g52 d_M_dot_178 ?_
            refine lv_aload_n hx hb d_M_dot_179 rfl (lv_at hl 0 rfl) ?_
            refine va_get (D := D) (ci := 5) (v := .ref (bd 6)) (C := "HalfFloatsModel") (T := T_M) (N := 21) hx hb hts (hx_up in_M) hown hK hP (0) hm_at_M rfl 5 (by decide) (hts _ (hx_cons _ k_561)) (fun _ h9 => h9) rfl d_M_dot_180 ?_
            refine lv_bipush (v := 32) hx hb d_M_dot_183 (by decide) ?_
            refine lv_iload hx hb d_M_dot_185 (lv_at hl 9 rfl) ?_
            refine lv_iadd hx hb d_M_dot_187 ?_
            obtain ⟨g53, h⟩ := hx_gs h
            refine va_lald hx hb hK hP (6) 2 hm_at_row rfl g53 d_M_dot_188 ?_
            refine lv_iconst (v := 0) hx hb d_M_dot_189 (by decide) ?_
            obtain ⟨q54, eq54, h⟩ := hx_b1s h
            refine hx_wv (va_runV (As := [.int (hm_rF q49 (0 : Int32).toNatClampNeg), .long (hm_row q49 x31.toNatClampNeg), .int (hm_rF q49 (1 : Int32).toNatClampNeg), .long (hm_row q49 ((32 : Int32) + x31).toNatClampNeg), .int (0 : Int32)]) (rest := []) ⟨hx, hb, hml, hown, hts⟩ (c_M_product l D T3 bd _ q49 (hm_rF q49 (0 : Int32).toNatClampNeg) (hm_row q49 x31.toNatClampNeg) (hm_rF q49 (1 : Int32).toNatClampNeg) (hm_row q49 ((32 : Int32) + x31).toNatClampNeg) (0 : Int32) _ eq54) (cwV 5 hts (hx_gV hx_cons k_752 k_754 k_45 k_55 k_755) rfl rfl rfl (by decide +kernel) ⟨Nat.le_of_ble_eq_true rfl, Nat.le_of_ble_eq_true rfl⟩) (hx_preVw (va_recv hK hP (ci := 5) (q0 := 0) rfl hm_at_M) hP hK hD) rfl rfl hl.1 rfl (lv_room (Nat.le_of_ble_eq_true rfl)) d_M_dot_190 ⟨Nat.zero_le _, Nat.zero_le _⟩) hD hS hA (fun H locs hP hD hS => ?_)
            refine lv_aload_n hx hb d_M_dot_193 rfl (lv_at hl 0 rfl) ?_
            refine lv_iload_n hx hb d_M_dot_194 rfl (lv_at hl 2 rfl) ?_
            refine lv_iload hx hb d_M_dot_195 (lv_at hl 4 rfl) ?_
            obtain ⟨r56, q55, eq55, h⟩ := hx_b2s h
            refine hx_wj (va_runV (As := [.int x24, .int x26]) (rest := []) ⟨hx, hb, hml, hown, hts⟩ (c_M_end l D T3 bd _ q54 x24 x26 _ _ eq55) (cwV 2 hts (hx_gV hx_cons k_716 k_718 k_38 k_55 k_719) rfl rfl rfl (by decide +kernel) ⟨Nat.le_of_ble_eq_true rfl, Nat.le_of_ble_eq_true rfl⟩) (hx_preVw (va_recv hK hP (ci := 5) (q0 := 0) rfl hm_at_M) hP hK hD) rfl rfl hl.1 rfl (lv_room (Nat.le_of_ble_eq_true rfl)) d_M_dot_197 ⟨Nat.zero_le _, Nat.zero_le _⟩) hD hS hA (fun H locs hP hD hS => ?_)
            refine lv_lstore (lv' := [(9, .long r56), (0, .ref (bd 0)), (1, .int x23), (2, .int x24), (3, .int x25), (4, .int x26), (5, .int x27), (6, .long x28), (8, .int x29), (11, .int x31)]) hx hb d_M_dot_200 hl (by decide) rfl (fun ls hl => ?_)
            obtain ⟨x57, ex57⟩ : ∃ y : Int32, y = x31 + 1 := ⟨_, rfl⟩
            replace h := hx_ns ex57 h
            refine lv_iinc (v := x57) (lv' := [(11, .int x57), (9, .long r56), (0, .ref (bd 0)), (1, .int x23), (2, .int x24), (3, .int x25), (4, .int x26), (5, .int x27), (6, .long x28), (8, .int x29)]) hx hb d_M_dot_202 hl (k := 9) rfl (by rw [ex57]; rfl) (by decide) rfl (fun ls hl => ?_)
            clear ex57
            refine lv_goto (tgt := 130) hx hb d_M_dot_205 (by decide) ?_
            exact ih q55 x23 x24 x25 x26 x27 x28 x29 r56 x57 _ _ ls hP hD hS (lv_sub hl [2, 3, 4, 5, 6, 7, 8, 9, 1, 0] rfl) h
  have B_116 : ∀ (n : Nat), ∀ (σ : hm_S) (x15 : Int32) (x16 : Int32) (x17 : Int32) (x18 : Int32) (x19 : Int32) (x20 : Int64) (x21 : Int32) (H : Heap) (locs : List Loc) (ls : Array Slot), va_P D vwCl (hm_W T3 bd σ) H → va_D A (hm_W T3 bd σ) → va_S A s.heap H locs → lv_has ls 12 [(0, .ref (bd 0)), (1, .int x15), (2, .int x16), (3, .int x17), (4, .int x18), (5, .int x19), (6, .long x20), (8, .int x21)] → f_M_dot_116 n σ x15 x16 x17 x18 x19 x20 x21 = some (r0, σ0) → W p l e (headSpec w_M_dot m_M_dot).room s m args below meth c H locs 0 0 (MQ below (hx_Qj D (hx_ty T3) A r0 (hm_W T3 bd σ0)) args s 0 0 A) (F0 m 116 ls []) := by
    intro n
    induction n with
    | zero =>
      intro σ x15 x16 x17 x18 x19 x20 x21 H locs ls hP hD hS hl h
      rw [f_M_dot_116] at h
      cases h
    | succ n ih =>
        intro σ x15 x16 x17 x18 x19 x20 x21 H locs ls hP hD hS hl h
        rw [f_M_dot_116] at h
        refine lv_iload hx hb d_M_dot_116 (lv_at hl 7 rfl) ?_
        refine lv_iload hx hb d_M_dot_118 (lv_at hl 5 rfl) ?_
        refine lv_icmp_ge (tgt := 248) hx hb d_M_dot_120 (by decide) (fun c22 => ?_) (fun c22 => ?_)
        · replace h := hx_ip c22 h
          refine lv_lload hx hb d_M_dot_248 (lv_at hl 6 rfl) ?_
          exact W.lret hx hb hr (fun t ht hW => hx_endj h ht hW hP hK hD hS) hS.2.2 d_M_dot_250
        · replace h := hx_in c22 h
          refine lv_lconst (v := 0) hx hb d_M_dot_123 rfl ?_
          refine lv_lstore (lv' := [(9, .long (0 : Int64)), (0, .ref (bd 0)), (1, .int x15), (2, .int x16), (3, .int x17), (4, .int x18), (5, .int x19), (6, .long x20), (8, .int x21)]) hx hb d_M_dot_124 hl (by decide) rfl (fun ls hl => ?_)
          refine lv_iload hx hb d_M_dot_126 (lv_at hl 8 rfl) ?_
          refine lv_istore (lv' := [(11, .int x21), (9, .long (0 : Int64)), (0, .ref (bd 0)), (1, .int x15), (2, .int x16), (3, .int x17), (4, .int x18), (5, .int x19), (6, .long x20), (8, .int x21)]) hx hb d_M_dot_128 hl (by decide) rfl (fun ls hl => ?_)
          exact B_130 (f_M_dot_116 n) ih hx_fuel σ x15 x16 x17 x18 x19 x20 x21 (0 : Int64) x21 _ _ ls hP hD hS (lv_sub hl [2, 3, 4, 5, 6, 7, 8, 9, 1, 0] rfl) h
  have B_55 : ∀ (n : Nat), ∀ (σ : hm_S) (x59 : Int32) (x60 : Int32) (x61 : Int32) (x62 : Int32) (H : Heap) (locs : List Loc) (ls : Array Slot), va_P D vwCl (hm_W T3 bd σ) H → va_D A (hm_W T3 bd σ) → va_S A s.heap H locs → lv_has ls 12 [(0, .ref (bd 0)), (3, .int x59), (4, .int x60), (5, .int x61), (6, .int x62)] → f_M_dot_55 n σ x59 x60 x61 x62 = some (r0, σ0) → W p l e (headSpec w_M_dot m_M_dot).room s m args below meth c H locs 0 0 (MQ below (hx_Qj D (hx_ty T3) A r0 (hm_W T3 bd σ0)) args s 0 0 A) (F0 m 55 ls []) := by
    intro n
    induction n with
    | zero =>
      intro σ x59 x60 x61 x62 H locs ls hP hD hS hl h
      rw [f_M_dot_55] at h
      cases h
    | succ n ih =>
        intro σ x59 x60 x61 x62 H locs ls hP hD hS hl h
        rw [f_M_dot_55] at h
        refine lv_iload hx hb d_M_dot_55 (lv_at hl 4 rfl) ?_
        refine lv_iload hx hb d_M_dot_57 (lv_at hl 3 rfl) ?_
        refine lv_icmp_ge (tgt := 102) hx hb d_M_dot_59 (by decide) (fun c63 => ?_) (fun c63 => ?_)
        · replace h := hx_ip c63 h
          refine lv_aload_n hx hb d_M_dot_102 rfl (lv_at hl 0 rfl) ?_
          refine lv_iload_n hx hb d_M_dot_103 rfl (lv_at hl 1 rfl) ?_
          refine lv_iload hx hb d_M_dot_104 (lv_at hl 2 rfl) ?_
          obtain ⟨r65, q64, eq64, h⟩ := hx_b2s h
          refine hx_wj (va_runV (As := [.int x59, .int x60]) (rest := []) ⟨hx, hb, hml, hown, hts⟩ (c_M_end l D T3 bd _ σ x59 x60 _ _ eq64) (cwV 2 hts (hx_gV hx_cons k_716 k_718 k_38 k_55 k_719) rfl rfl rfl (by decide +kernel) ⟨Nat.le_of_ble_eq_true rfl, Nat.le_of_ble_eq_true rfl⟩) (hx_preVw (va_recv hK hP (ci := 5) (q0 := 0) rfl hm_at_M) hP hK hD) rfl rfl hl.1 rfl (lv_room (Nat.le_of_ble_eq_true rfl)) d_M_dot_106 ⟨Nat.zero_le _, Nat.zero_le _⟩) hD hS hA (fun H locs hP hD hS => ?_)
          exact W.lret hx hb hr (fun t ht hW => hx_endj h ht hW hP hK hD hS) hS.2.2 d_M_dot_109
        · replace h := hx_in c63 h
          refine lv_aload_n hx hb d_M_dot_62 rfl (lv_at hl 0 rfl) ?_
          refine lv_aload_n hx hb d_M_dot_63 rfl (lv_at hl 0 rfl) ?_
          refine va_get (D := D) (ci := 5) (v := .ref (bd 4)) (C := "HalfFloatsModel") (T := T_M) (N := 21) hx hb hts (hx_up in_M) hown hK hP (0) hm_at_M rfl 3 (by decide) (hts _ (hx_cons _ k_559)) (fun _ h9 => h9) rfl d_M_dot_64 ?_
          refine lv_iconst (v := 0) hx hb d_M_dot_67 (by decide) ?_
          obtain ⟨g66, h⟩ := hx_gs h
          refine va_iald hx hb hK hP (4) 1 hm_at_rF rfl g66 d_M_dot_68 ?_
          refine lv_aload_n hx hb d_M_dot_69 rfl (lv_at hl 0 rfl) ?_
          refine va_get (D := D) (ci := 5) (v := .ref (bd 6)) (C := "HalfFloatsModel") (T := T_M) (N := 21) hx hb hts (hx_up in_M) hown hK hP (0) hm_at_M rfl 5 (by decide) (hts _ (hx_cons _ k_561)) (fun _ h9 => h9) rfl d_M_dot_70 ?_
          refine lv_iload hx hb d_M_dot_73 (lv_at hl 4 rfl) ?_
          obtain ⟨g67, h⟩ := hx_gs h
          refine va_lald hx hb hK hP (6) 2 hm_at_row rfl g67 d_M_dot_75 ?_
          refine lv_aload_n hx hb d_M_dot_76 rfl (lv_at hl 0 rfl) ?_
          refine va_get (D := D) (ci := 5) (v := .ref (bd 4)) (C := "HalfFloatsModel") (T := T_M) (N := 21) hx hb hts (hx_up in_M) hown hK hP (0) hm_at_M rfl 3 (by decide) (hts _ (hx_cons _ k_559)) (fun _ h9 => h9) rfl d_M_dot_77 ?_
          refine lv_iconst (v := 1) hx hb d_M_dot_80 (by decide) ?_
          obtain ⟨g68, h⟩ := hx_gs h
          refine va_iald hx hb hK hP (4) 1 hm_at_rF rfl g68 d_M_dot_81 ?_
          refine lv_aload_n hx hb d_M_dot_82 rfl (lv_at hl 0 rfl) ?_
          refine va_get (D := D) (ci := 5) (v := .ref (bd 6)) (C := "HalfFloatsModel") (T := T_M) (N := 21) hx hb hts (hx_up in_M) hown hK hP (0) hm_at_M rfl 5 (by decide) (hts _ (hx_cons _ k_561)) (fun _ h9 => h9) rfl d_M_dot_83 ?_
          refine lv_bipush (v := 32) hx hb d_M_dot_86 (by decide) ?_
          refine lv_iload hx hb d_M_dot_88 (lv_at hl 4 rfl) ?_
          refine lv_iadd hx hb d_M_dot_90 ?_
          obtain ⟨g69, h⟩ := hx_gs h
          refine va_lald hx hb hK hP (6) 2 hm_at_row rfl g69 d_M_dot_91 ?_
          refine lv_iconst (v := 0) hx hb d_M_dot_92 (by decide) ?_
          obtain ⟨q70, eq70, h⟩ := hx_b1s h
          refine hx_wv (va_runV (As := [.int (hm_rF σ (0 : Int32).toNatClampNeg), .long (hm_row σ x62.toNatClampNeg), .int (hm_rF σ (1 : Int32).toNatClampNeg), .long (hm_row σ ((32 : Int32) + x62).toNatClampNeg), .int (0 : Int32)]) (rest := []) ⟨hx, hb, hml, hown, hts⟩ (c_M_product l D T3 bd _ σ (hm_rF σ (0 : Int32).toNatClampNeg) (hm_row σ x62.toNatClampNeg) (hm_rF σ (1 : Int32).toNatClampNeg) (hm_row σ ((32 : Int32) + x62).toNatClampNeg) (0 : Int32) _ eq70) (cwV 5 hts (hx_gV hx_cons k_752 k_754 k_45 k_55 k_755) rfl rfl rfl (by decide +kernel) ⟨Nat.le_of_ble_eq_true rfl, Nat.le_of_ble_eq_true rfl⟩) (hx_preVw (va_recv hK hP (ci := 5) (q0 := 0) rfl hm_at_M) hP hK hD) rfl rfl hl.1 rfl (lv_room (Nat.le_of_ble_eq_true rfl)) d_M_dot_93 ⟨Nat.zero_le _, Nat.zero_le _⟩) hD hS hA (fun H locs hP hD hS => ?_)
          obtain ⟨x71, ex71⟩ : ∃ y : Int32, y = x62 + 1 := ⟨_, rfl⟩
          replace h := hx_ns ex71 h
          refine lv_iinc (v := x71) (lv' := [(6, .int x71), (0, .ref (bd 0)), (3, .int x59), (4, .int x60), (5, .int x61)]) hx hb d_M_dot_96 hl (k := 4) rfl (by rw [ex71]; rfl) (by decide) rfl (fun ls hl => ?_)
          clear ex71
          refine lv_goto (tgt := 55) hx hb d_M_dot_99 (by decide) ?_
          exact ih q70 x59 x60 x61 x71 _ _ ls hP hD hS (lv_sub hl [1, 2, 3, 4, 0] rfl) h
  refine W.eq (g2 := F0 m 0 ((lg_sl [.ref (bd 0), .int x1, .int x2, .int x3, .int x4] ++ List.replicate (12 - (lg_sl [.ref (bd 0), .int x1, .int x2, .int x3, .int x4]).length) Slot.unset).toArray) []) (by rw [hargs, lg_entry_eq]) ?_
  have hl := lv_entry ([.ref (bd 0), .int x1, .int x2, .int x3, .int x4]) (n := 12) (Nat.le_of_ble_eq_true rfl)
  generalize (lg_sl ([.ref (bd 0), .int x1, .int x2, .int x3, .int x4]) ++ List.replicate (12 - (lg_sl ([.ref (bd 0), .int x1, .int x2, .int x3, .int x4])).length) Slot.unset).toArray = ls at hl ⊢
  have hl : lv_has ls 12 [(0, .ref (bd 0)), (1, .int x1), (2, .int x2), (3, .int x3), (4, .int x4)] := hl
  rw [f_M_dot] at h
  refine lv_iload_n hx hb d_M_dot_0 rfl (lv_at hl 1 rfl) ?_
  refine lv_i2l hx hb d_M_dot_1 rfl ?_
  refine lv_lconst (v := 0) hx hb d_M_dot_2 rfl ?_
  refine lv_ldc2 (v := 32) hx hb hown (hts _ (hx_cons _ k_797)) d_M_dot_3 ?_
  obtain ⟨r5, er5, h⟩ := hx_b1s h
  refine hx_rd (va_runS (As := [.long x1.toInt64, .long (0 : Int64), .long (32 : Int64)]) (rest := []) ⟨hx, hb, hml, hown, hts⟩ (c_M_isIn l D T3 x1.toInt64 (0 : Int64) (32 : Int64) _ er5) (va_cwS 3 hts (hx_gS hx_cons k_628 k_629 k_55 k_630) rfl rfl rfl (by decide +kernel) ⟨Nat.le_of_ble_eq_true rfl, Nat.le_of_ble_eq_true rfl⟩) (hx_preS hx_nil hK) rfl rfl hl.1 rfl (lv_room (Nat.le_of_ble_eq_true rfl)) d_M_dot_6 ⟨Nat.zero_le _, Nat.zero_le _⟩) ?_
  refine lv_if_eq (tgt := 34) hx hb d_M_dot_9 (by decide) (fun c6 => ?_) (fun c6 => ?_)
  · replace h := hx_ip c6 h
    refine lv_ldc2 (v := -2) hx hb hown (hts _ (hx_cons _ k_694)) d_M_dot_34 ?_
    exact W.lret hx hb hr (fun t ht hW => hx_endj h ht hW hP hK hD hS) hS.2.2 d_M_dot_37
  · replace h := hx_in c6 h
    refine lv_iload_n hx hb d_M_dot_12 rfl (lv_at hl 2 rfl) ?_
    obtain ⟨r7, er7, h⟩ := hx_b1s h
    refine hx_rd (va_runS (As := [.int x2]) (rest := []) ⟨hx, hb, hml, hown, hts⟩ (c_M_isFormat l D T3 x2 _ er7) (va_cwS 1 hts (hx_gS hx_cons k_624 k_625 k_55 k_626) rfl rfl rfl (by decide +kernel) ⟨Nat.le_of_ble_eq_true rfl, Nat.le_of_ble_eq_true rfl⟩) (hx_preS hx_nil hK) rfl rfl hl.1 rfl (lv_room (Nat.le_of_ble_eq_true rfl)) d_M_dot_13 ⟨Nat.zero_le _, Nat.zero_le _⟩) ?_
    refine lv_if_eq (tgt := 34) hx hb d_M_dot_16 (by decide) (fun c8 => ?_) (fun c8 => ?_)
    · replace h := hx_ip c8 h
      refine lv_ldc2 (v := -2) hx hb hown (hts _ (hx_cons _ k_694)) d_M_dot_34 ?_
      exact W.lret hx hb hr (fun t ht hW => hx_endj h ht hW hP hK hD hS) hS.2.2 d_M_dot_37
    · replace h := hx_in c8 h
      refine lv_iload_n hx hb d_M_dot_19 rfl (lv_at hl 3 rfl) ?_
      obtain ⟨r9, er9, h⟩ := hx_b1s h
      refine hx_rd (va_runS (As := [.int x3]) (rest := []) ⟨hx, hb, hml, hown, hts⟩ (c_M_isFormat l D T3 x3 _ er9) (va_cwS 1 hts (hx_gS hx_cons k_624 k_625 k_55 k_626) rfl rfl rfl (by decide +kernel) ⟨Nat.le_of_ble_eq_true rfl, Nat.le_of_ble_eq_true rfl⟩) (hx_preS hx_nil hK) rfl rfl hl.1 rfl (lv_room (Nat.le_of_ble_eq_true rfl)) d_M_dot_20 ⟨Nat.zero_le _, Nat.zero_le _⟩) ?_
      refine lv_if_eq (tgt := 34) hx hb d_M_dot_23 (by decide) (fun c10 => ?_) (fun c10 => ?_)
      · replace h := hx_ip c10 h
        refine lv_ldc2 (v := -2) hx hb hown (hts _ (hx_cons _ k_694)) d_M_dot_34 ?_
        exact W.lret hx hb hr (fun t ht hW => hx_endj h ht hW hP hK hD hS) hS.2.2 d_M_dot_37
      · replace h := hx_in c10 h
        refine lv_iload hx hb d_M_dot_26 (lv_at hl 4 rfl) ?_
        obtain ⟨r11, er11, h⟩ := hx_b1s h
        refine hx_rd (va_runS (As := [.int x4]) (rest := []) ⟨hx, hb, hml, hown, hts⟩ (c_M_isWay l D T3 x4 _ er11) (va_cwS 1 hts (hx_gS hx_cons k_690 k_691 k_55 k_692) rfl rfl rfl (by decide +kernel) ⟨Nat.le_of_ble_eq_true rfl, Nat.le_of_ble_eq_true rfl⟩) (hx_preS hx_nil hK) rfl rfl hl.1 rfl (lv_room (Nat.le_of_ble_eq_true rfl)) d_M_dot_28 ⟨Nat.zero_le _, Nat.zero_le _⟩) ?_
        refine lv_if_ne (tgt := 38) hx hb d_M_dot_31 (by decide) (fun c12 => ?_) (fun c12 => ?_)
        · replace h := hx_in c12 h
          refine lv_aload_n hx hb d_M_dot_38 rfl (lv_at hl 0 rfl) ?_
          obtain ⟨r13, er13, h⟩ := hx_b1s h
          refine hx_rd (va_runV (As := []) (rest := []) ⟨hx, hb, hml, hown, hts⟩ (c_M_shorter l D T3 bd τ _ er13) (cwV 0 hts (hx_gV hx_cons k_798 k_800 k_46 k_55 k_801) rfl rfl rfl (by decide +kernel) ⟨Nat.le_of_ble_eq_true rfl, Nat.le_of_ble_eq_true rfl⟩) (hx_preV (va_recv hK hP (ci := 5) (q0 := 0) rfl hm_at_M) hP hK) rfl rfl hl.1 rfl (lv_room (Nat.le_of_ble_eq_true rfl)) d_M_dot_39 ⟨Nat.zero_le _, Nat.zero_le _⟩) ?_
          refine lv_istore (lv' := [(5, .int r13), (0, .ref (bd 0)), (1, .int x1), (2, .int x2), (3, .int x3), (4, .int x4)]) hx hb d_M_dot_42 hl (by decide) rfl (fun ls hl => ?_)
          refine lv_iload_n hx hb d_M_dot_44 rfl (lv_at hl 2 rfl) ?_
          refine lv_if_ne (tgt := 110) hx hb d_M_dot_45 (by decide) (fun c14 => ?_) (fun c14 => ?_)
          · replace h := hx_in c14 h
            refine lv_lconst (v := 0) hx hb d_M_dot_110 rfl ?_
            refine lv_lstore (lv' := [(6, .long (0 : Int64)), (5, .int r13), (0, .ref (bd 0)), (1, .int x1), (2, .int x2), (3, .int x3), (4, .int x4)]) hx hb d_M_dot_111 hl (by decide) rfl (fun ls hl => ?_)
            refine lv_iconst (v := 0) hx hb d_M_dot_113 (by decide) ?_
            refine lv_istore (lv' := [(8, .int (0 : Int32)), (6, .long (0 : Int64)), (5, .int r13), (0, .ref (bd 0)), (1, .int x1), (2, .int x2), (3, .int x3), (4, .int x4)]) hx hb d_M_dot_114 hl (by decide) rfl (fun ls hl => ?_)
            exact B_116 hx_fuel τ x1 x2 x3 x4 r13 (0 : Int64) (0 : Int32) _ _ ls hP hD hS (lv_sub hl [3, 4, 5, 6, 7, 2, 1, 0] rfl) h
          · replace h := hx_ip c14 h
            refine lv_aload_n hx hb d_M_dot_48 rfl (lv_at hl 1 rfl) ?_
            obtain ⟨q58, eq58, h⟩ := hx_b1s h
            refine hx_wv (va_runV (As := []) (rest := []) ⟨hx, hb, hml, hown, hts⟩ (c_M_begin l D T3 bd _ τ _ eq58) (cwV 0 hts (hx_gV hx_cons k_699 k_701 k_34 k_55 k_702) rfl rfl rfl (by decide +kernel) ⟨Nat.le_of_ble_eq_true rfl, Nat.le_of_ble_eq_true rfl⟩) (hx_preVw (va_recv hK hP (ci := 5) (q0 := 0) rfl hm_at_M) hP hK hD) rfl rfl hl.1 rfl (lv_room (Nat.le_of_ble_eq_true rfl)) d_M_dot_49 ⟨Nat.zero_le _, Nat.zero_le _⟩) hD hS hA (fun H locs hP hD hS => ?_)
            refine lv_iconst (v := 0) hx hb d_M_dot_52 (by decide) ?_
            refine lv_istore (lv' := [(6, .int (0 : Int32)), (5, .int r13), (0, .ref (bd 0)), (1, .int x1), (2, .int x2), (3, .int x3), (4, .int x4)]) hx hb d_M_dot_53 hl (by decide) rfl (fun ls hl => ?_)
            exact B_55 hx_fuel q58 x3 x4 r13 (0 : Int32) _ _ ls hP hD hS (lv_sub hl [2, 5, 6, 1, 0] rfl) h
        · replace h := hx_ip c12 h
          refine lv_ldc2 (v := -2) hx hb hown (hts _ (hx_cons _ k_694)) d_M_dot_34 ?_
          exact W.lret hx hb hr (fun t ht hW => hx_endj h ht hW hP hK hD hS) hS.2.2 d_M_dot_37
abbrev m_M_powerBelow : Room := { frames := 4, cells := 0, slots := 0, locals := 93 }
set_option maxHeartbeats 4000000 in
set_option maxRecDepth 100000 in
theorem c_M_powerBelow (l : Launch) (D : va_G) (T3 : hx_T3) (bd : Nat → Nat) (τ : hm_S) (x1 : Int32) (x2 : Int64) (r0 : Int32) (h : f_M_powerBelow τ x1 x2 = some r0) : hx_R l D (hx_ty T3) (hm_W T3 bd τ) y_M_powerBelow w_M_powerBelow m_M_powerBelow [.ref (bd 0), .int x1, .long x2] (.int r0) := by
  refine Met.ofW (cc := b_M_powerBelow) (maxL := 7) (ret := (some .int)) (by decide) rfl ?_
  intro p e s m args below meth c s₁ B hml hv
  obtain ⟨hargs, hP, hK⟩ := hv
  have hx := B.exec
  have hb := B.bytes
  have hr := B.returns
  have hts := atoms_spec (ws := w_M_powerBelow) B.pre
  have hown : s.vm.findClass "HalfFloatsModel" = some m.cls := findClass_of_methodNamed B.named
  have hlocks := B.notSynchronized
  have B_16 : ∀ (n : Nat), ∀ (x5 : Int64) (x6 : Int32) (ls : Array Slot), lv_has ls 7 [(4, .long x5), (6, .int x6)] → f_M_powerBelow_16 n τ x5 x6 = some r0 → W p l e (headSpec w_M_powerBelow m_M_powerBelow).room s m args below meth c s.heap [] 0 0 (MQ below (hx_Q (.int r0)) args s 0 0 (fun _ => False)) (F0 m 16 ls []) := by
    intro n
    induction n with
    | zero =>
      intro x5 x6 ls hl h
      rw [f_M_powerBelow_16] at h
      cases h
    | succ n ih =>
        intro x5 x6 ls hl h
        rw [f_M_powerBelow_16] at h
        refine lv_lload hx hb d_M_powerBelow_16 (lv_at hl 0 rfl) ?_
        refine lv_lconst (v := 1) hx hb d_M_powerBelow_18 rfl ?_
        refine W.lcmp hx hb d_M_powerBelow_19 ?_
        refine lv_if_le (tgt := 35) hx hb d_M_powerBelow_20 (by decide) (fun c7 => ?_) (fun c7 => ?_)
        · replace h := hx_ip c7 h
          refine lv_iload hx hb d_M_powerBelow_35 (lv_at hl 1 rfl) ?_
          exact W.iret hx hb hr (fun t ht hW => ⟨by rw [Option.some.inj h], ht⟩) (fun q hq => nomatch hq) d_M_powerBelow_37
        · replace h := hx_in c7 h
          refine lv_lload hx hb d_M_powerBelow_23 (lv_at hl 0 rfl) ?_
          refine lv_iconst (v := 1) hx hb d_M_powerBelow_25 (by decide) ?_
          refine lv_lshr hx hb d_M_powerBelow_26 rfl ?_
          refine lv_topl (fun x8 ex8 => ?_)
          replace h := hx_ns ex8 h
          clear ex8
          refine lv_lstore (lv' := [(4, .long x8), (6, .int x6)]) hx hb d_M_powerBelow_27 hl (by decide) rfl (fun ls hl => ?_)
          obtain ⟨x9, ex9⟩ : ∃ y : Int32, y = x6 + 1 := ⟨_, rfl⟩
          replace h := hx_ns ex9 h
          refine lv_iinc (v := x9) (lv' := [(6, .int x9), (4, .long x8)]) hx hb d_M_powerBelow_29 hl (k := 1) rfl (by rw [ex9]; rfl) (by decide) rfl (fun ls hl => ?_)
          clear ex9
          refine lv_goto (tgt := 16) hx hb d_M_powerBelow_32 (by decide) ?_
          exact ih x8 x9 ls (lv_sub hl [1, 0] rfl) h
  refine W.eq (g2 := F0 m 0 ((lg_sl [.ref (bd 0), .int x1, .long x2] ++ List.replicate (7 - (lg_sl [.ref (bd 0), .int x1, .long x2]).length) Slot.unset).toArray) []) (by rw [hargs, lg_entry_eq]) ?_
  have hl := lv_entry ([.ref (bd 0), .int x1, .long x2]) (n := 7) (Nat.le_of_ble_eq_true rfl)
  generalize (lg_sl ([.ref (bd 0), .int x1, .long x2]) ++ List.replicate (7 - (lg_sl ([.ref (bd 0), .int x1, .long x2])).length) Slot.unset).toArray = ls at hl ⊢
  have hl : lv_has ls 7 [(0, .ref (bd 0)), (1, .int x1), (2, .long x2)] := hl
  rw [f_M_powerBelow] at h
  refine lv_aload_n hx hb d_M_powerBelow_0 rfl (lv_at hl 0 rfl) ?_
  refine lv_iload_n hx hb d_M_powerBelow_1 rfl (lv_at hl 1 rfl) ?_
  refine lv_lload_n hx hb d_M_powerBelow_2 rfl (lv_at hl 2 rfl) ?_
  obtain ⟨r3, er3, h⟩ := hx_b1s h
  refine hx_rd (va_runV (As := [.int x1, .long x2]) (rest := []) ⟨hx, hb, hml, hown, hts⟩ (c_M_wholeOf l D T3 bd τ x1 x2 _ er3) (cwV 2 hts (hx_gV hx_cons k_674 k_676 k_30 k_55 k_677) rfl rfl rfl (by decide +kernel) ⟨Nat.le_of_ble_eq_true rfl, Nat.le_of_ble_eq_true rfl⟩) (hx_preV (va_recv hK hP (ci := 5) (q0 := 0) rfl hm_at_M) hP hK) rfl rfl hl.1 rfl (lv_room (Nat.le_of_ble_eq_true rfl)) d_M_powerBelow_3 ⟨Nat.zero_le _, Nat.zero_le _⟩) ?_
  refine lv_lstore (lv' := [(4, .long r3), (0, .ref (bd 0)), (1, .int x1), (2, .long x2)]) hx hb d_M_powerBelow_6 hl (by decide) rfl (fun ls hl => ?_)
  refine lv_aload_n hx hb d_M_powerBelow_8 rfl (lv_at hl 1 rfl) ?_
  refine lv_iload_n hx hb d_M_powerBelow_9 rfl (lv_at hl 2 rfl) ?_
  refine lv_lload_n hx hb d_M_powerBelow_10 rfl (lv_at hl 3 rfl) ?_
  obtain ⟨r4, er4, h⟩ := hx_b1s h
  refine hx_rd (va_runV (As := [.int x1, .long x2]) (rest := []) ⟨hx, hb, hml, hown, hts⟩ (c_M_powerOf l D T3 bd τ x1 x2 _ er4) (cwV 2 hts (hx_gV hx_cons k_678 k_680 k_31 k_55 k_681) rfl rfl rfl (by decide +kernel) ⟨Nat.le_of_ble_eq_true rfl, Nat.le_of_ble_eq_true rfl⟩) (hx_preV (va_recv hK hP (ci := 5) (q0 := 0) rfl hm_at_M) hP hK) rfl rfl hl.1 rfl (lv_room (Nat.le_of_ble_eq_true rfl)) d_M_powerBelow_11 ⟨Nat.zero_le _, Nat.zero_le _⟩) ?_
  refine lv_istore (lv' := [(6, .int r4), (4, .long r3), (0, .ref (bd 0)), (1, .int x1), (2, .long x2)]) hx hb d_M_powerBelow_14 hl (by decide) rfl (fun ls hl => ?_)
  exact B_16 hx_fuel r3 r4 ls (lv_sub hl [1, 0] rfl) h
abbrev m_M_scaleOf : Room := { frames := 5, cells := 0, slots := 0, locals := 119 }
set_option maxHeartbeats 4000000 in
set_option maxRecDepth 100000 in
theorem c_M_scaleOf (l : Launch) (D : va_G) (T3 : hx_T3) (bd : Nat → Nat) (τ : hm_S) (x1 : Int32) (r0 : Int32) (h : f_M_scaleOf τ x1 = some r0) : hx_R l D (hx_ty T3) (hm_W T3 bd τ) y_M_scaleOf w_M_scaleOf m_M_scaleOf [.ref (bd 0), .int x1] (.int r0) := by
  refine Met.ofW (cc := b_M_scaleOf) (maxL := 7) (ret := (some .int)) (by decide) rfl ?_
  intro p e s m args below meth c s₁ B hml hv
  obtain ⟨hargs, hP, hK⟩ := hv
  have hx := B.exec
  have hb := B.bytes
  have hr := B.returns
  have hts := atoms_spec (ws := w_M_scaleOf) B.pre
  have hown : s.vm.findClass "HalfFloatsModel" = some m.cls := findClass_of_methodNamed B.named
  have hlocks := B.notSynchronized
  have B_87 : ∀ (K7 : hm_S → Int32 → Int32 → Int32 → Int32 → Option Int32) (hK7 : ∀ (x2 : Int32) (x3 : Int32) (x4 : Int32) (x5 : Int32) (ls : Array Slot), lv_has ls 7 [(0, .ref (bd 0)), (1, .int x2), (2, .int x3), (3, .int x4), (4, .int x5)] → K7 τ x2 x3 x4 x5 = some r0 → W p l e (headSpec w_M_scaleOf m_M_scaleOf).room s m args below meth c s.heap [] 0 0 (MQ below (hx_Q (.int r0)) args s 0 0 (fun _ => False)) (F0 m 7 ls [])), ∀ (x29 : Int32) (x30 : Int32) (x31 : Int32) (x32 : Int32) (ls : Array Slot), lv_has ls 7 [(0, .ref (bd 0)), (1, .int x29), (2, .int x30), (3, .int x31), (4, .int x32)] → f_M_scaleOf_87 K7 τ x29 x30 x31 x32 = some r0 → W p l e (headSpec w_M_scaleOf m_M_scaleOf).room s m args below meth c s.heap [] 0 0 (MQ below (hx_Q (.int r0)) args s 0 0 (fun _ => False)) (F0 m 87 ls []) := by
      intro K7 hK7
      intro x29 x30 x31 x32 ls hl h
      rw [f_M_scaleOf_87] at h
      obtain ⟨x33, ex33⟩ : ∃ y : Int32, y = x32 + 1 := ⟨_, rfl⟩
      replace h := hx_ns ex33 h
      refine lv_iinc (v := x33) (lv' := [(4, .int x33), (0, .ref (bd 0)), (1, .int x29), (2, .int x30), (3, .int x31)]) hx hb d_M_scaleOf_87 hl (k := 4) rfl (by rw [ex33]; rfl) (by decide) rfl (fun ls hl => ?_)
      clear ex33
      refine lv_goto (tgt := 7) hx hb d_M_scaleOf_90 (by decide) ?_
      exact hK7 x29 x30 x31 x33 ls (lv_sub hl [1, 2, 3, 4, 0] rfl) h
  have B_84 : ∀ (K7 : hm_S → Int32 → Int32 → Int32 → Int32 → Option Int32) (hK7 : ∀ (x2 : Int32) (x3 : Int32) (x4 : Int32) (x5 : Int32) (ls : Array Slot), lv_has ls 7 [(0, .ref (bd 0)), (1, .int x2), (2, .int x3), (3, .int x4), (4, .int x5)] → K7 τ x2 x3 x4 x5 = some r0 → W p l e (headSpec w_M_scaleOf m_M_scaleOf).room s m args below meth c s.heap [] 0 0 (MQ below (hx_Q (.int r0)) args s 0 0 (fun _ => False)) (F0 m 7 ls [])), ∀ (x26 : Int32) (x27 : Int32) (x28 : Int32) (ls : Array Slot), lv_has ls 7 [(0, .ref (bd 0)), (1, .int x26), (4, .int x27)] → f_M_scaleOf_84 K7 τ x26 x27 x28 = some r0 → W p l e (headSpec w_M_scaleOf m_M_scaleOf).room s m args below meth c s.heap [] 0 0 (MQ below (hx_Q (.int r0)) args s 0 0 (fun _ => False)) (F0 m 84 ls [.int x28]) := by
      intro K7 hK7
      intro x26 x27 x28 ls hl h
      rw [f_M_scaleOf_84] at h
      refine lv_istore_n (lv' := [(3, .int x28), (0, .ref (bd 0)), (1, .int x26), (4, .int x27)]) hx hb d_M_scaleOf_84 rfl hl (by decide) rfl (fun ls hl => ?_)
      refine lv_iconst (v := 1) hx hb d_M_scaleOf_85 (by decide) ?_
      refine lv_istore_n (lv' := [(2, .int (1 : Int32)), (3, .int x28), (0, .ref (bd 0)), (1, .int x26), (4, .int x27)]) hx hb d_M_scaleOf_86 rfl hl (by decide) rfl (fun ls hl => ?_)
      exact B_87 K7 hK7 x26 (1 : Int32) x28 x27 ls (lv_sub hl [2, 3, 0, 1, 4] rfl) h
  have B_78 : ∀ (K7 : hm_S → Int32 → Int32 → Int32 → Int32 → Option Int32) (hK7 : ∀ (x2 : Int32) (x3 : Int32) (x4 : Int32) (x5 : Int32) (ls : Array Slot), lv_has ls 7 [(0, .ref (bd 0)), (1, .int x2), (2, .int x3), (3, .int x4), (4, .int x5)] → K7 τ x2 x3 x4 x5 = some r0 → W p l e (headSpec w_M_scaleOf m_M_scaleOf).room s m args below meth c s.heap [] 0 0 (MQ below (hx_Q (.int r0)) args s 0 0 (fun _ => False)) (F0 m 7 ls [])), ∀ (x23 : Int32) (x24 : Int32) (x25 : Int32) (ls : Array Slot), lv_has ls 7 [(0, .ref (bd 0)), (1, .int x23), (4, .int x24), (6, .int x25)] → f_M_scaleOf_78 K7 τ x23 x24 x25 = some r0 → W p l e (headSpec w_M_scaleOf m_M_scaleOf).room s m args below meth c s.heap [] 0 0 (MQ below (hx_Q (.int r0)) args s 0 0 (fun _ => False)) (F0 m 78 ls []) := by
      intro K7 hK7
      intro x23 x24 x25 ls hl h
      rw [f_M_scaleOf_78] at h
      refine lv_iload hx hb d_M_scaleOf_78 (lv_at hl 3 rfl) ?_
      refine lv_goto (tgt := 84) hx hb d_M_scaleOf_80 (by decide) ?_
      exact B_84 K7 hK7 x23 x24 x25 ls (lv_sub hl [0, 1, 2] rfl) h
  have B_49 : ∀ (K7 : hm_S → Int32 → Int32 → Int32 → Int32 → Option Int32) (hK7 : ∀ (x2 : Int32) (x3 : Int32) (x4 : Int32) (x5 : Int32) (ls : Array Slot), lv_has ls 7 [(0, .ref (bd 0)), (1, .int x2), (2, .int x3), (3, .int x4), (4, .int x5)] → K7 τ x2 x3 x4 x5 = some r0 → W p l e (headSpec w_M_scaleOf m_M_scaleOf).room s m args below meth c s.heap [] 0 0 (MQ below (hx_Q (.int r0)) args s 0 0 (fun _ => False)) (F0 m 7 ls [])), ∀ (x15 : Int32) (x16 : Int32) (x17 : Int32) (x18 : Int32) (ls : Array Slot), lv_has ls 7 [(0, .ref (bd 0)), (1, .int x15), (2, .int x16), (3, .int x17), (4, .int x18)] → f_M_scaleOf_49 K7 τ x15 x16 x17 x18 = some r0 → W p l e (headSpec w_M_scaleOf m_M_scaleOf).room s m args below meth c s.heap [] 0 0 (MQ below (hx_Q (.int r0)) args s 0 0 (fun _ => False)) (F0 m 49 ls []) := by
      intro K7 hK7
      intro x15 x16 x17 x18 ls hl h
      rw [f_M_scaleOf_49] at h
      refine lv_aload_n hx hb d_M_scaleOf_49 rfl (lv_at hl 0 rfl) ?_
      refine lv_aload_n hx hb d_M_scaleOf_50 rfl (lv_at hl 0 rfl) ?_
      refine va_get (D := D) (ci := 5) (v := .ref (bd 4)) (C := "HalfFloatsModel") (T := T_M) (N := 21) hx hb hts (hx_up in_M) hown hK hP (0) hm_at_M rfl 3 (by decide) (hts _ (hx_cons _ k_559)) (fun _ h9 => h9) rfl d_M_scaleOf_51 ?_
      refine lv_iconst (v := 0) hx hb d_M_scaleOf_54 (by decide) ?_
      obtain ⟨g19, h⟩ := hx_gs h
      refine va_iald hx hb hK hP (4) 1 hm_at_rF rfl g19 d_M_scaleOf_55 ?_
      refine lv_aload_n hx hb d_M_scaleOf_56 rfl (lv_at hl 0 rfl) ?_
      refine va_get (D := D) (ci := 5) (v := .ref (bd 6)) (C := "HalfFloatsModel") (T := T_M) (N := 21) hx hb hts (hx_up in_M) hown hK hP (0) hm_at_M rfl 5 (by decide) (hts _ (hx_cons _ k_561)) (fun _ h9 => h9) rfl d_M_scaleOf_57 ?_
      refine lv_iload hx hb d_M_scaleOf_60 (lv_at hl 4 rfl) ?_
      obtain ⟨g20, h⟩ := hx_gs h
      refine va_lald hx hb hK hP (6) 2 hm_at_row rfl g20 d_M_scaleOf_62 ?_
      obtain ⟨r21, er21, h⟩ := hx_b1s h
      refine hx_rd (va_runV (As := [.int (hm_rF τ (0 : Int32).toNatClampNeg), .long (hm_row τ x18.toNatClampNeg)]) (rest := []) ⟨hx, hb, hml, hown, hts⟩ (c_M_powerBelow l D T3 bd τ (hm_rF τ (0 : Int32).toNatClampNeg) (hm_row τ x18.toNatClampNeg) _ er21) (cwV 2 hts (hx_gV hx_cons k_810 k_812 k_48 k_55 k_813) rfl rfl rfl (by decide +kernel) ⟨Nat.le_of_ble_eq_true rfl, Nat.le_of_ble_eq_true rfl⟩) (hx_preV (va_recv hK hP (ci := 5) (q0 := 0) rfl hm_at_M) hP hK) rfl rfl hl.1 rfl (lv_room (Nat.le_of_ble_eq_true rfl)) d_M_scaleOf_63 ⟨Nat.zero_le _, Nat.zero_le _⟩) ?_
      refine lv_istore (lv' := [(6, .int r21), (0, .ref (bd 0)), (1, .int x15), (2, .int x16), (3, .int x17), (4, .int x18)]) hx hb d_M_scaleOf_66 hl (by decide) rfl (fun ls hl => ?_)
      refine lv_iload_n hx hb d_M_scaleOf_68 rfl (lv_at hl 3 rfl) ?_
      refine lv_if_eq (tgt := 78) hx hb d_M_scaleOf_69 (by decide) (fun c22 => ?_) (fun c22 => ?_)
      · replace h := hx_ip c22 h
        exact B_78 K7 hK7 x15 x18 r21 ls (lv_sub hl [1, 2, 5, 0] rfl) h
      · replace h := hx_in c22 h
        refine lv_iload hx hb d_M_scaleOf_72 (lv_at hl 0 rfl) ?_
        refine lv_iload_n hx hb d_M_scaleOf_74 rfl (lv_at hl 4 rfl) ?_
        refine lv_icmp_le (tgt := 83) hx hb d_M_scaleOf_75 (by decide) (fun c34 => ?_) (fun c34 => ?_)
        · replace h := hx_ip c34 h
          refine lv_iload_n hx hb d_M_scaleOf_83 rfl (lv_at hl 4 rfl) ?_
          exact B_84 K7 hK7 x15 x18 x17 ls (lv_sub hl [1, 2, 5] rfl) h
        · replace h := hx_in c34 h
          exact B_78 K7 hK7 x15 x18 r21 ls (lv_sub hl [1, 2, 5, 0] rfl) h
  have B_7 : ∀ (n : Nat), ∀ (x2 : Int32) (x3 : Int32) (x4 : Int32) (x5 : Int32) (ls : Array Slot), lv_has ls 7 [(0, .ref (bd 0)), (1, .int x2), (2, .int x3), (3, .int x4), (4, .int x5)] → f_M_scaleOf_7 n τ x2 x3 x4 x5 = some r0 → W p l e (headSpec w_M_scaleOf m_M_scaleOf).room s m args below meth c s.heap [] 0 0 (MQ below (hx_Q (.int r0)) args s 0 0 (fun _ => False)) (F0 m 7 ls []) := by
    intro n
    induction n with
    | zero =>
      intro x2 x3 x4 x5 ls hl h
      rw [f_M_scaleOf_7] at h
      cases h
    | succ n ih =>
        intro x2 x3 x4 x5 ls hl h
        rw [f_M_scaleOf_7] at h
        refine lv_iload hx hb d_M_scaleOf_7 (lv_at hl 4 rfl) ?_
        refine lv_aload_n hx hb d_M_scaleOf_9 rfl (lv_at hl 0 rfl) ?_
        refine va_get (D := D) (ci := 5) (v := .ref (bd 5)) (C := "HalfFloatsModel") (T := T_M) (N := 21) hx hb hts (hx_up in_M) hown hK hP (0) hm_at_M rfl 4 (by decide) (hts _ (hx_cons _ k_560)) (fun _ h9 => h9) rfl d_M_scaleOf_10 ?_
        refine lv_iconst (v := 0) hx hb d_M_scaleOf_13 (by decide) ?_
        obtain ⟨g6, h⟩ := hx_gs h
        refine va_iald hx hb hK hP (5) 1 hm_at_rM rfl g6 d_M_scaleOf_14 ?_
        refine lv_icmp_ge (tgt := 93) hx hb d_M_scaleOf_15 (by decide) (fun c7 => ?_) (fun c7 => ?_)
        · replace h := hx_ip c7 h
          refine lv_iload_n hx hb d_M_scaleOf_93 rfl (lv_at hl 2 rfl) ?_
          refine lv_if_eq (tgt := 114) hx hb d_M_scaleOf_94 (by decide) (fun c8 => ?_) (fun c8 => ?_)
          · replace h := hx_ip c8 h
            refine lv_iconst (v := 0) hx hb d_M_scaleOf_114 (by decide) ?_
            exact W.iret hx hb hr (fun t ht hW => ⟨by rw [Option.some.inj h], ht⟩) (fun q hq => nomatch hq) d_M_scaleOf_115
          · replace h := hx_in c8 h
            refine lv_iload_n hx hb d_M_scaleOf_97 rfl (lv_at hl 3 rfl) ?_
            refine lv_aload_n hx hb d_M_scaleOf_98 rfl (lv_at hl 0 rfl) ?_
            refine lv_iload_n hx hb d_M_scaleOf_99 rfl (lv_at hl 1 rfl) ?_
            refine lv_aload_n hx hb d_M_scaleOf_100 rfl (lv_at hl 0 rfl) ?_
            refine lv_iload_n hx hb d_M_scaleOf_101 rfl (lv_at hl 1 rfl) ?_
            obtain ⟨r9, er9, h⟩ := hx_b1s h
            refine hx_rd (va_runV (As := [.int x2]) (rest := [.int x2, .ref (bd 0), .int x4]) ⟨hx, hb, hml, hown, hts⟩ (c_M_limit l D T3 bd τ x2 _ er9) (cwV 1 hts (hx_gV hx_cons k_639 k_641 k_23 k_55 k_642) rfl rfl rfl (by decide +kernel) ⟨Nat.le_of_ble_eq_true rfl, Nat.le_of_ble_eq_true rfl⟩) (hx_preV (va_recv hK hP (ci := 5) (q0 := 0) rfl hm_at_M) hP hK) rfl rfl hl.1 rfl (lv_room (Nat.le_of_ble_eq_true rfl)) d_M_scaleOf_102 ⟨Nat.zero_le _, Nat.zero_le _⟩) ?_
            refine lv_lconst (v := 1) hx hb d_M_scaleOf_105 rfl ?_
            refine lv_lsub hx hb d_M_scaleOf_106 ?_
            obtain ⟨r10, er10, h⟩ := hx_b1s h
            refine hx_rd (va_runV (As := [.int x2, .long (r9 - (1 : Int64))]) (rest := [.int x4]) ⟨hx, hb, hml, hown, hts⟩ (c_M_powerBelow l D T3 bd τ x2 (r9 - (1 : Int64)) _ er10) (cwV 2 hts (hx_gV hx_cons k_810 k_812 k_48 k_55 k_813) rfl rfl rfl (by decide +kernel) ⟨Nat.le_of_ble_eq_true rfl, Nat.le_of_ble_eq_true rfl⟩) (hx_preV (va_recv hK hP (ci := 5) (q0 := 0) rfl hm_at_M) hP hK) rfl rfl hl.1 rfl (lv_room (Nat.le_of_ble_eq_true rfl)) d_M_scaleOf_107 ⟨Nat.zero_le _, Nat.zero_le _⟩) ?_
            refine lv_isub hx hb d_M_scaleOf_110 ?_
            refine lv_goto (tgt := 115) hx hb d_M_scaleOf_111 (by decide) ?_
            exact W.iret hx hb hr (fun t ht hW => ⟨by rw [Option.some.inj h], ht⟩) (fun q hq => nomatch hq) d_M_scaleOf_115
        · replace h := hx_in c7 h
          refine lv_aload_n hx hb d_M_scaleOf_18 rfl (lv_at hl 0 rfl) ?_
          refine lv_aload_n hx hb d_M_scaleOf_19 rfl (lv_at hl 0 rfl) ?_
          refine va_get (D := D) (ci := 5) (v := .ref (bd 4)) (C := "HalfFloatsModel") (T := T_M) (N := 21) hx hb hts (hx_up in_M) hown hK hP (0) hm_at_M rfl 3 (by decide) (hts _ (hx_cons _ k_559)) (fun _ h9 => h9) rfl d_M_scaleOf_20 ?_
          refine lv_iconst (v := 0) hx hb d_M_scaleOf_23 (by decide) ?_
          obtain ⟨g11, h⟩ := hx_gs h
          refine va_iald hx hb hK hP (4) 1 hm_at_rF rfl g11 d_M_scaleOf_24 ?_
          refine lv_aload_n hx hb d_M_scaleOf_25 rfl (lv_at hl 0 rfl) ?_
          refine va_get (D := D) (ci := 5) (v := .ref (bd 6)) (C := "HalfFloatsModel") (T := T_M) (N := 21) hx hb hts (hx_up in_M) hown hK hP (0) hm_at_M rfl 5 (by decide) (hts _ (hx_cons _ k_561)) (fun _ h9 => h9) rfl d_M_scaleOf_26 ?_
          refine lv_iload hx hb d_M_scaleOf_29 (lv_at hl 4 rfl) ?_
          obtain ⟨g12, h⟩ := hx_gs h
          refine va_lald hx hb hK hP (6) 2 hm_at_row rfl g12 d_M_scaleOf_31 ?_
          obtain ⟨r13, er13, h⟩ := hx_b1s h
          refine hx_rd (va_runV (As := [.int (hm_rF τ (0 : Int32).toNatClampNeg), .long (hm_row τ x5.toNatClampNeg)]) (rest := []) ⟨hx, hb, hml, hown, hts⟩ (c_M_sortOf l D T3 bd τ (hm_rF τ (0 : Int32).toNatClampNeg) (hm_row τ x5.toNatClampNeg) _ er13) (cwV 2 hts (hx_gV hx_cons k_666 k_668 k_28 k_55 k_669) rfl rfl rfl (by decide +kernel) ⟨Nat.le_of_ble_eq_true rfl, Nat.le_of_ble_eq_true rfl⟩) (hx_preV (va_recv hK hP (ci := 5) (q0 := 0) rfl hm_at_M) hP hK) rfl rfl hl.1 rfl (lv_room (Nat.le_of_ble_eq_true rfl)) d_M_scaleOf_32 ⟨Nat.zero_le _, Nat.zero_le _⟩) ?_
          refine lv_istore (lv' := [(5, .int r13), (0, .ref (bd 0)), (1, .int x2), (2, .int x3), (3, .int x4), (4, .int x5)]) hx hb d_M_scaleOf_35 hl (by decide) rfl (fun ls hl => ?_)
          refine lv_iload hx hb d_M_scaleOf_37 (lv_at hl 0 rfl) ?_
          refine lv_iconst (v := 1) hx hb d_M_scaleOf_39 (by decide) ?_
          refine lv_icmp_eq (tgt := 49) hx hb d_M_scaleOf_40 (by decide) (fun c14 => ?_) (fun c14 => ?_)
          · replace h := hx_ip c14 h
            exact B_49 (f_M_scaleOf_7 n) ih x2 x3 x4 x5 ls (lv_sub hl [1, 2, 3, 4, 5] rfl) h
          · replace h := hx_in c14 h
            refine lv_iload hx hb d_M_scaleOf_43 (lv_at hl 0 rfl) ?_
            refine lv_iconst (v := 2) hx hb d_M_scaleOf_45 (by decide) ?_
            refine lv_icmp_ne (tgt := 87) hx hb d_M_scaleOf_46 (by decide) (fun c35 => ?_) (fun c35 => ?_)
            · replace h := hx_in c35 h
              exact B_87 (f_M_scaleOf_7 n) ih x2 x3 x4 x5 ls (lv_sub hl [1, 2, 3, 4, 5] rfl) h
            · replace h := hx_ip c35 h
              exact B_49 (f_M_scaleOf_7 n) ih x2 x3 x4 x5 ls (lv_sub hl [1, 2, 3, 4, 5] rfl) h
  refine W.eq (g2 := F0 m 0 ((lg_sl [.ref (bd 0), .int x1] ++ List.replicate (7 - (lg_sl [.ref (bd 0), .int x1]).length) Slot.unset).toArray) []) (by rw [hargs, lg_entry_eq]) ?_
  have hl := lv_entry ([.ref (bd 0), .int x1]) (n := 7) (Nat.le_of_ble_eq_true rfl)
  generalize (lg_sl ([.ref (bd 0), .int x1]) ++ List.replicate (7 - (lg_sl ([.ref (bd 0), .int x1])).length) Slot.unset).toArray = ls at hl ⊢
  have hl : lv_has ls 7 [(0, .ref (bd 0)), (1, .int x1)] := hl
  rw [f_M_scaleOf] at h
  refine lv_iconst (v := 0) hx hb d_M_scaleOf_0 (by decide) ?_
  refine lv_istore_n (lv' := [(2, .int (0 : Int32)), (0, .ref (bd 0)), (1, .int x1)]) hx hb d_M_scaleOf_1 rfl hl (by decide) rfl (fun ls hl => ?_)
  refine lv_iconst (v := 0) hx hb d_M_scaleOf_2 (by decide) ?_
  refine lv_istore_n (lv' := [(3, .int (0 : Int32)), (2, .int (0 : Int32)), (0, .ref (bd 0)), (1, .int x1)]) hx hb d_M_scaleOf_3 rfl hl (by decide) rfl (fun ls hl => ?_)
  refine lv_iconst (v := 0) hx hb d_M_scaleOf_4 (by decide) ?_
  refine lv_istore (lv' := [(4, .int (0 : Int32)), (3, .int (0 : Int32)), (2, .int (0 : Int32)), (0, .ref (bd 0)), (1, .int x1)]) hx hb d_M_scaleOf_5 hl (by decide) rfl (fun ls hl => ?_)
  exact B_7 hx_fuel x1 (0 : Int32) (0 : Int32) (0 : Int32) ls (lv_sub hl [3, 4, 2, 1, 0] rfl) h
abbrev m_M_scale : Room := { frames := 6, cells := 0, slots := 0, locals := 145 }
set_option maxHeartbeats 4000000 in
set_option maxRecDepth 100000 in
theorem c_M_scale (l : Launch) (D : va_G) (T3 : hx_T3) (bd : Nat → Nat) (τ : hm_S) (x1 : Int32) (r0 : Int32) (h : f_M_scale τ x1 = some r0) : hx_R l D (hx_ty T3) (hm_W T3 bd τ) y_M_scale w_M_scale m_M_scale [.ref (bd 0), .int x1] (.int r0) := by
  refine Met.ofW (cc := b_M_scale) (maxL := 2) (ret := (some .int)) (by decide) rfl ?_
  intro p e s m args below meth c s₁ B hml hv
  obtain ⟨hargs, hP, hK⟩ := hv
  have hx := B.exec
  have hb := B.bytes
  have hr := B.returns
  have hts := atoms_spec (ws := w_M_scale) B.pre
  have hown : s.vm.findClass "HalfFloatsModel" = some m.cls := findClass_of_methodNamed B.named
  have hlocks := B.notSynchronized
  refine W.eq (g2 := F0 m 0 ((lg_sl [.ref (bd 0), .int x1] ++ List.replicate (2 - (lg_sl [.ref (bd 0), .int x1]).length) Slot.unset).toArray) []) (by rw [hargs, lg_entry_eq]) ?_
  have hl := lv_entry ([.ref (bd 0), .int x1]) (n := 2) (Nat.le_of_ble_eq_true rfl)
  generalize (lg_sl ([.ref (bd 0), .int x1]) ++ List.replicate (2 - (lg_sl ([.ref (bd 0), .int x1])).length) Slot.unset).toArray = ls at hl ⊢
  have hl : lv_has ls 2 [(0, .ref (bd 0)), (1, .int x1)] := hl
  rw [f_M_scale] at h
  refine lv_iload_n hx hb d_M_scale_0 rfl (lv_at hl 1 rfl) ?_
  obtain ⟨r2, er2, h⟩ := hx_b1s h
  refine hx_rd (va_runS (As := [.int x1]) (rest := []) ⟨hx, hb, hml, hown, hts⟩ (c_M_isFormat l D T3 x1 _ er2) (va_cwS 1 hts (hx_gS hx_cons k_624 k_625 k_55 k_626) rfl rfl rfl (by decide +kernel) ⟨Nat.le_of_ble_eq_true rfl, Nat.le_of_ble_eq_true rfl⟩) (hx_preS hx_nil hK) rfl rfl hl.1 rfl (lv_room (Nat.le_of_ble_eq_true rfl)) d_M_scale_1 ⟨Nat.zero_le _, Nat.zero_le _⟩) ?_
  refine lv_if_eq (tgt := 15) hx hb d_M_scale_4 (by decide) (fun c3 => ?_) (fun c3 => ?_)
  · replace h := hx_ip c3 h
    refine lv_ldc (v := 1000000) hx hb hown (hts _ (hx_cons _ k_665)) d_M_scale_15 ?_
    exact W.iret hx hb hr (fun t ht hW => ⟨by rw [Option.some.inj h], ht⟩) (fun q hq => nomatch hq) d_M_scale_17
  · replace h := hx_in c3 h
    refine lv_aload_n hx hb d_M_scale_7 rfl (lv_at hl 0 rfl) ?_
    refine lv_iload_n hx hb d_M_scale_8 rfl (lv_at hl 1 rfl) ?_
    obtain ⟨r4, er4, h⟩ := hx_b1s h
    refine hx_rd (va_runV (As := [.int x1]) (rest := []) ⟨hx, hb, hml, hown, hts⟩ (c_M_scaleOf l D T3 bd τ x1 _ er4) (cwV 1 hts (hx_gV hx_cons k_806 k_808 k_47 k_55 k_809) rfl rfl rfl (by decide +kernel) ⟨Nat.le_of_ble_eq_true rfl, Nat.le_of_ble_eq_true rfl⟩) (hx_preV (va_recv hK hP (ci := 5) (q0 := 0) rfl hm_at_M) hP hK) rfl rfl hl.1 rfl (lv_room (Nat.le_of_ble_eq_true rfl)) d_M_scale_9 ⟨Nat.zero_le _, Nat.zero_le _⟩) ?_
    refine lv_goto (tgt := 17) hx hb d_M_scale_12 (by decide) ?_
    exact W.iret hx hb hr (fun t ht hW => ⟨by rw [Option.some.inj h], ht⟩) (fun q hq => nomatch hq) d_M_scale_17
abbrev m_M_element : Room := { frames := 6, cells := 0, slots := 0, locals := 145 }
set_option maxHeartbeats 4000000 in
set_option maxRecDepth 100000 in
theorem c_M_element (l : Launch) (D : va_G) (T3 : hx_T3) (bd : Nat → Nat) (sz : Nat) (τ : hm_S) (x1 : Int32) (x2 : Int32) (r0 : Int64) (σ0 : hm_S) (h : f_M_element τ x1 x2 = some (r0, σ0)) : hx_Wj l D (hx_ty T3) y_M_element w_M_element m_M_element [.ref (bd 0), .int x1, .int x2] sz (hm_W T3 bd τ) r0 (hm_W T3 bd σ0) := by
  refine Met.ofW (cc := b_M_element) (maxL := 4) (ret := (some .long)) (by decide) rfl ?_
  intro p e s m args below meth c s₁ B hml hv
  obtain ⟨hargs, hsz, hP, hK, hD0⟩ := hv
  have hx := B.exec
  have hb := B.bytes
  have hr := B.returns
  have hts := atoms_spec (ws := w_M_element) B.pre
  have hown : s.vm.findClass "HalfFloatsModel" = some m.cls := findClass_of_methodNamed B.named
  have hlocks := B.notSynchronized
  subst hsz
  have hD := hD0.self (sz := s.heap.size)
  generalize hAe : va_A (hm_W T3 bd τ) s.heap.size = A at hD ⊢
  have hA : ∀ q : Nat, s.heap.size ≤ q → A q := fun q h => by rw [← hAe]; exact Or.inr h
  have hS : va_S A s.heap s.heap [] := va_S.rf
  refine W.eq (g2 := F0 m 0 ((lg_sl [.ref (bd 0), .int x1, .int x2] ++ List.replicate (4 - (lg_sl [.ref (bd 0), .int x1, .int x2]).length) Slot.unset).toArray) []) (by rw [hargs, lg_entry_eq]) ?_
  have hl := lv_entry ([.ref (bd 0), .int x1, .int x2]) (n := 4) (Nat.le_of_ble_eq_true rfl)
  generalize (lg_sl ([.ref (bd 0), .int x1, .int x2]) ++ List.replicate (4 - (lg_sl ([.ref (bd 0), .int x1, .int x2])).length) Slot.unset).toArray = ls at hl ⊢
  have hl : lv_has ls 4 [(0, .ref (bd 0)), (1, .int x1), (2, .int x2)] := hl
  rw [f_M_element] at h
  refine lv_iload_n hx hb d_M_element_0 rfl (lv_at hl 1 rfl) ?_
  obtain ⟨r3, er3, h⟩ := hx_b1s h
  refine hx_rd (va_runS (As := [.int x1]) (rest := []) ⟨hx, hb, hml, hown, hts⟩ (c_M_isFormat l D T3 x1 _ er3) (va_cwS 1 hts (hx_gS hx_cons k_624 k_625 k_55 k_626) rfl rfl rfl (by decide +kernel) ⟨Nat.le_of_ble_eq_true rfl, Nat.le_of_ble_eq_true rfl⟩) (hx_preS hx_nil hK) rfl rfl hl.1 rfl (lv_room (Nat.le_of_ble_eq_true rfl)) d_M_element_1 ⟨Nat.zero_le _, Nat.zero_le _⟩) ?_
  refine lv_if_eq (tgt := 25) hx hb d_M_element_4 (by decide) (fun c4 => ?_) (fun c4 => ?_)
  · replace h := hx_ip c4 h
    refine lv_ldc2 (v := -2) hx hb hown (hts _ (hx_cons _ k_694)) d_M_element_25 ?_
    exact W.lret hx hb hr (fun t ht hW => hx_endj h ht hW hP hK hD hS) hS.2.2 d_M_element_28
  · replace h := hx_in c4 h
    refine lv_iload_n hx hb d_M_element_7 rfl (lv_at hl 2 rfl) ?_
    refine lv_i2l hx hb d_M_element_8 rfl ?_
    refine lv_lconst (v := 0) hx hb d_M_element_9 rfl ?_
    refine lv_aload_n hx hb d_M_element_10 rfl (lv_at hl 0 rfl) ?_
    refine va_get (D := D) (ci := 5) (v := .ref (bd 5)) (C := "HalfFloatsModel") (T := T_M) (N := 21) hx hb hts (hx_up in_M) hown hK hP (0) hm_at_M rfl 4 (by decide) (hts _ (hx_cons _ k_560)) (fun _ h9 => h9) rfl d_M_element_11 ?_
    refine lv_iconst (v := 0) hx hb d_M_element_14 (by decide) ?_
    obtain ⟨g5, h⟩ := hx_gs h
    refine va_iald hx hb hK hP (5) 1 hm_at_rM rfl g5 d_M_element_15 ?_
    refine lv_iconst (v := 1) hx hb d_M_element_16 (by decide) ?_
    refine lv_isub hx hb d_M_element_17 ?_
    refine lv_i2l hx hb d_M_element_18 rfl ?_
    obtain ⟨r6, er6, h⟩ := hx_b1s h
    refine hx_rd (va_runS (As := [.long x2.toInt64, .long (0 : Int64), .long (((hm_rM τ (0 : Int32).toNatClampNeg) - (1 : Int32)).toInt64)]) (rest := []) ⟨hx, hb, hml, hown, hts⟩ (c_M_isIn l D T3 x2.toInt64 (0 : Int64) (((hm_rM τ (0 : Int32).toNatClampNeg) - (1 : Int32)).toInt64) _ er6) (va_cwS 3 hts (hx_gS hx_cons k_628 k_629 k_55 k_630) rfl rfl rfl (by decide +kernel) ⟨Nat.le_of_ble_eq_true rfl, Nat.le_of_ble_eq_true rfl⟩) (hx_preS hx_nil hK) rfl rfl hl.1 rfl (lv_room (Nat.le_of_ble_eq_true rfl)) d_M_element_19 ⟨Nat.zero_le _, Nat.zero_le _⟩) ?_
    refine lv_if_ne (tgt := 29) hx hb d_M_element_22 (by decide) (fun c7 => ?_) (fun c7 => ?_)
    · replace h := hx_in c7 h
      refine lv_aload_n hx hb d_M_element_29 rfl (lv_at hl 0 rfl) ?_
      refine lv_iload_n hx hb d_M_element_30 rfl (lv_at hl 1 rfl) ?_
      obtain ⟨r8, er8, h⟩ := hx_b1s h
      refine hx_rd (va_runV (As := [.int x1]) (rest := []) ⟨hx, hb, hml, hown, hts⟩ (c_M_scaleOf l D T3 bd τ x1 _ er8) (cwV 1 hts (hx_gV hx_cons k_806 k_808 k_47 k_55 k_809) rfl rfl rfl (by decide +kernel) ⟨Nat.le_of_ble_eq_true rfl, Nat.le_of_ble_eq_true rfl⟩) (hx_preV (va_recv hK hP (ci := 5) (q0 := 0) rfl hm_at_M) hP hK) rfl rfl hl.1 rfl (lv_room (Nat.le_of_ble_eq_true rfl)) d_M_element_31 ⟨Nat.zero_le _, Nat.zero_le _⟩) ?_
      refine lv_ineg hx hb d_M_element_34 ?_
      refine lv_topi (fun x9 ex9 => ?_)
      replace h := hx_ns ex9 h
      clear ex9
      refine lv_istore_n (lv' := [(3, .int x9), (0, .ref (bd 0)), (1, .int x1), (2, .int x2)]) hx hb d_M_element_35 rfl hl (by decide) rfl (fun ls hl => ?_)
      refine lv_aload_n hx hb d_M_element_36 rfl (lv_at hl 1 rfl) ?_
      obtain ⟨q10, eq10, h⟩ := hx_b1s h
      refine hx_wv (va_runV (As := []) (rest := []) ⟨hx, hb, hml, hown, hts⟩ (c_M_begin l D T3 bd _ τ _ eq10) (cwV 0 hts (hx_gV hx_cons k_699 k_701 k_34 k_55 k_702) rfl rfl rfl (by decide +kernel) ⟨Nat.le_of_ble_eq_true rfl, Nat.le_of_ble_eq_true rfl⟩) (hx_preVw (va_recv hK hP (ci := 5) (q0 := 0) rfl hm_at_M) hP hK hD) rfl rfl hl.1 rfl (lv_room (Nat.le_of_ble_eq_true rfl)) d_M_element_37 ⟨Nat.zero_le _, Nat.zero_le _⟩) hD hS hA (fun H locs hP hD hS => ?_)
      refine lv_aload_n hx hb d_M_element_40 rfl (lv_at hl 1 rfl) ?_
      refine lv_aload_n hx hb d_M_element_41 rfl (lv_at hl 1 rfl) ?_
      refine va_get (D := D) (ci := 5) (v := .ref (bd 4)) (C := "HalfFloatsModel") (T := T_M) (N := 21) hx hb hts (hx_up in_M) hown hK hP (0) hm_at_M rfl 3 (by decide) (hts _ (hx_cons _ k_559)) (fun _ h9 => h9) rfl d_M_element_42 ?_
      refine lv_iconst (v := 0) hx hb d_M_element_45 (by decide) ?_
      obtain ⟨g11, h⟩ := hx_gs h
      refine va_iald hx hb hK hP (4) 1 hm_at_rF rfl g11 d_M_element_46 ?_
      refine lv_aload_n hx hb d_M_element_47 rfl (lv_at hl 1 rfl) ?_
      refine va_get (D := D) (ci := 5) (v := .ref (bd 6)) (C := "HalfFloatsModel") (T := T_M) (N := 21) hx hb hts (hx_up in_M) hown hK hP (0) hm_at_M rfl 5 (by decide) (hts _ (hx_cons _ k_561)) (fun _ h9 => h9) rfl d_M_element_48 ?_
      refine lv_iload_n hx hb d_M_element_51 rfl (lv_at hl 3 rfl) ?_
      obtain ⟨g12, h⟩ := hx_gs h
      refine va_lald hx hb hK hP (6) 2 hm_at_row rfl g12 d_M_element_52 ?_
      refine lv_iconst (v := 0) hx hb d_M_element_53 (by decide) ?_
      refine lv_iload_n hx hb d_M_element_54 rfl (lv_at hl 0 rfl) ?_
      obtain ⟨q13, eq13, h⟩ := hx_b1s h
      refine hx_wv (va_runV (As := [.int (hm_rF q10 (0 : Int32).toNatClampNeg), .long (hm_row q10 x2.toNatClampNeg), .int (0 : Int32), .int x9]) (rest := []) ⟨hx, hb, hml, hown, hts⟩ (c_M_value l D T3 bd _ q10 (hm_rF q10 (0 : Int32).toNatClampNeg) (hm_row q10 x2.toNatClampNeg) (0 : Int32) x9 _ eq13) (cwV 4 hts (hx_gV hx_cons k_703 k_705 k_35 k_55 k_706) rfl rfl rfl (by decide +kernel) ⟨Nat.le_of_ble_eq_true rfl, Nat.le_of_ble_eq_true rfl⟩) (hx_preVw (va_recv hK hP (ci := 5) (q0 := 0) rfl hm_at_M) hP hK hD) rfl rfl hl.1 rfl (lv_room (Nat.le_of_ble_eq_true rfl)) d_M_element_55 ⟨Nat.zero_le _, Nat.zero_le _⟩) hD hS hA (fun H locs hP hD hS => ?_)
      refine lv_aload_n hx hb d_M_element_58 rfl (lv_at hl 1 rfl) ?_
      refine lv_iload_n hx hb d_M_element_59 rfl (lv_at hl 2 rfl) ?_
      refine lv_iconst (v := 0) hx hb d_M_element_60 (by decide) ?_
      obtain ⟨r15, q14, eq14, h⟩ := hx_b2s h
      refine hx_wj (va_runV (As := [.int x1, .int (0 : Int32)]) (rest := []) ⟨hx, hb, hml, hown, hts⟩ (c_M_end l D T3 bd _ q13 x1 (0 : Int32) _ _ eq14) (cwV 2 hts (hx_gV hx_cons k_716 k_718 k_38 k_55 k_719) rfl rfl rfl (by decide +kernel) ⟨Nat.le_of_ble_eq_true rfl, Nat.le_of_ble_eq_true rfl⟩) (hx_preVw (va_recv hK hP (ci := 5) (q0 := 0) rfl hm_at_M) hP hK hD) rfl rfl hl.1 rfl (lv_room (Nat.le_of_ble_eq_true rfl)) d_M_element_61 ⟨Nat.zero_le _, Nat.zero_le _⟩) hD hS hA (fun H locs hP hD hS => ?_)
      exact W.lret hx hb hr (fun t ht hW => hx_endj h ht hW hP hK hD hS) hS.2.2 d_M_element_64
    · replace h := hx_ip c7 h
      refine lv_ldc2 (v := -2) hx hb hown (hts _ (hx_cons _ k_694)) d_M_element_25 ?_
      exact W.lret hx hb hr (fun t ht hW => hx_endj h ht hW hP hK hD hS) hS.2.2 d_M_element_28
abbrev m_M_scaler : Room := { frames := 1, cells := 0, slots := 0, locals := 25 }
set_option maxHeartbeats 4000000 in
set_option maxRecDepth 100000 in
theorem c_M_scaler (l : Launch) (D : va_G) (T3 : hx_T3) (bd : Nat → Nat) (sz : Nat) (τ : hm_S) (x1 : Int32) (x2 : Int32) (r0 : Int32) (σ0 : hm_S) (h : f_M_scaler τ x1 x2 = some (r0, σ0)) : hx_Wi l D (hx_ty T3) y_M_scaler w_M_scaler m_M_scaler [.ref (bd 0), .int x1, .int x2] sz (hm_W T3 bd τ) r0 (hm_W T3 bd σ0) := by
  refine Met.ofW (cc := b_M_scaler) (maxL := 3) (ret := (some .int)) (by decide) rfl ?_
  intro p e s m args below meth c s₁ B hml hv
  obtain ⟨hargs, hsz, hP, hK, hD0⟩ := hv
  have hx := B.exec
  have hb := B.bytes
  have hr := B.returns
  have hts := atoms_spec (ws := w_M_scaler) B.pre
  have hown : s.vm.findClass "HalfFloatsModel" = some m.cls := findClass_of_methodNamed B.named
  have hlocks := B.notSynchronized
  subst hsz
  have hD := hD0.self (sz := s.heap.size)
  generalize hAe : va_A (hm_W T3 bd τ) s.heap.size = A at hD ⊢
  have hA : ∀ q : Nat, s.heap.size ≤ q → A q := fun q h => by rw [← hAe]; exact Or.inr h
  have hS : va_S A s.heap s.heap [] := va_S.rf
  refine W.eq (g2 := F0 m 0 ((lg_sl [.ref (bd 0), .int x1, .int x2] ++ List.replicate (3 - (lg_sl [.ref (bd 0), .int x1, .int x2]).length) Slot.unset).toArray) []) (by rw [hargs, lg_entry_eq]) ?_
  have hl := lv_entry ([.ref (bd 0), .int x1, .int x2]) (n := 3) (Nat.le_of_ble_eq_true rfl)
  generalize (lg_sl ([.ref (bd 0), .int x1, .int x2]) ++ List.replicate (3 - (lg_sl ([.ref (bd 0), .int x1, .int x2])).length) Slot.unset).toArray = ls at hl ⊢
  have hl : lv_has ls 3 [(0, .ref (bd 0)), (1, .int x1), (2, .int x2)] := hl
  rw [f_M_scaler] at h
  refine lv_iload_n hx hb d_M_scaler_0 rfl (lv_at hl 1 rfl) ?_
  refine lv_i2l hx hb d_M_scaler_1 rfl ?_
  refine lv_ldc2 (v := -60) hx hb hown (hts _ (hx_cons _ k_822)) d_M_scaler_2 ?_
  refine lv_ldc2 (v := 60) hx hb hown (hts _ (hx_cons _ k_823)) d_M_scaler_5 ?_
  obtain ⟨r3, er3, h⟩ := hx_b1s h
  refine hx_rd (va_runS (As := [.long x1.toInt64, .long (-60 : Int64), .long (60 : Int64)]) (rest := []) ⟨hx, hb, hml, hown, hts⟩ (c_M_isIn l D T3 x1.toInt64 (-60 : Int64) (60 : Int64) _ er3) (va_cwS 3 hts (hx_gS hx_cons k_628 k_629 k_55 k_630) rfl rfl rfl (by decide +kernel) ⟨Nat.le_of_ble_eq_true rfl, Nat.le_of_ble_eq_true rfl⟩) (hx_preS hx_nil hK) rfl rfl hl.1 rfl (lv_room (Nat.le_of_ble_eq_true rfl)) d_M_scaler_8 ⟨Nat.zero_le _, Nat.zero_le _⟩) ?_
  refine lv_if_eq (tgt := 26) hx hb d_M_scaler_11 (by decide) (fun c4 => ?_) (fun c4 => ?_)
  · replace h := hx_ip c4 h
    refine lv_bipush (v := -2) hx hb d_M_scaler_26 (by decide) ?_
    exact W.iret hx hb hr (fun t ht hW => hx_endi h ht hW hP hK hD hS) hS.2.2 d_M_scaler_28
  · replace h := hx_in c4 h
    refine lv_iload_n hx hb d_M_scaler_14 rfl (lv_at hl 2 rfl) ?_
    refine lv_i2l hx hb d_M_scaler_15 rfl ?_
    refine lv_lconst (v := 1) hx hb d_M_scaler_16 rfl ?_
    refine lv_ldc2 (v := 100) hx hb hown (hts _ (hx_cons _ k_824)) d_M_scaler_17 ?_
    obtain ⟨r5, er5, h⟩ := hx_b1s h
    refine hx_rd (va_runS (As := [.long x2.toInt64, .long (1 : Int64), .long (100 : Int64)]) (rest := []) ⟨hx, hb, hml, hown, hts⟩ (c_M_isIn l D T3 x2.toInt64 (1 : Int64) (100 : Int64) _ er5) (va_cwS 3 hts (hx_gS hx_cons k_628 k_629 k_55 k_630) rfl rfl rfl (by decide +kernel) ⟨Nat.le_of_ble_eq_true rfl, Nat.le_of_ble_eq_true rfl⟩) (hx_preS hx_nil hK) rfl rfl hl.1 rfl (lv_room (Nat.le_of_ble_eq_true rfl)) d_M_scaler_20 ⟨Nat.zero_le _, Nat.zero_le _⟩) ?_
    refine lv_if_ne (tgt := 29) hx hb d_M_scaler_23 (by decide) (fun c6 => ?_) (fun c6 => ?_)
    · replace h := hx_in c6 h
      refine lv_aload_n hx hb d_M_scaler_29 rfl (lv_at hl 0 rfl) ?_
      refine lv_iload_n hx hb d_M_scaler_30 rfl (lv_at hl 1 rfl) ?_
      refine va_put (D := D) (ci := 5) (v := .int x1) (ty := .int) (C := "HalfFloatsModel") (T := T_M) (N := 21) hx hb hts (hx_up in_M) ty_M tyok_M nm_M hown hK hP hD hS (0) hm_at_M rfl 8 (by decide) (hts _ (hx_cons _ k_564)) (fun _ h9 => h9) rfl (by decide +kernel) rfl rfl (Nat.le_of_ble_eq_true rfl) d_M_scaler_31 (fun H locs hP hD hS => ?_)
      obtain ⟨σ7, eσ7⟩ : ∃ y : hm_S, y = (hm_scaleS_s τ x1) := ⟨_, rfl⟩
      replace hP : va_P D vwCl (hm_W T3 bd σ7) H := by rw [eσ7]; exact hP
      replace hD : va_D A (hm_W T3 bd σ7) := by rw [eσ7]; exact hD
      replace h := hx_ns eσ7 h
      clear eσ7
      refine lv_aload_n hx hb d_M_scaler_34 rfl (lv_at hl 0 rfl) ?_
      refine lv_iload_n hx hb d_M_scaler_35 rfl (lv_at hl 2 rfl) ?_
      refine va_put (D := D) (ci := 5) (v := .int x2) (ty := .int) (C := "HalfFloatsModel") (T := T_M) (N := 21) hx hb hts (hx_up in_M) ty_M tyok_M nm_M hown hK hP hD hS (0) hm_at_M rfl 10 (by decide) (hts _ (hx_cons _ k_566)) (fun _ h9 => h9) rfl (by decide +kernel) rfl rfl (Nat.le_of_ble_eq_true rfl) d_M_scaler_36 (fun H locs hP hD hS => ?_)
      obtain ⟨σ8, eσ8⟩ : ∃ y : hm_S, y = (hm_growth_s σ7 x2) := ⟨_, rfl⟩
      replace hP : va_P D vwCl (hm_W T3 bd σ8) H := by rw [eσ8]; exact hP
      replace hD : va_D A (hm_W T3 bd σ8) := by rw [eσ8]; exact hD
      replace h := hx_ns eσ8 h
      clear eσ8
      refine lv_aload_n hx hb d_M_scaler_39 rfl (lv_at hl 0 rfl) ?_
      refine lv_iconst (v := 0) hx hb d_M_scaler_40 (by decide) ?_
      refine va_put (D := D) (ci := 5) (v := .int (0 : Int32)) (ty := .int) (C := "HalfFloatsModel") (T := T_M) (N := 21) hx hb hts (hx_up in_M) ty_M tyok_M nm_M hown hK hP hD hS (0) hm_at_M rfl 9 (by decide) (hts _ (hx_cons _ k_565)) (fun _ h9 => h9) rfl (by decide +kernel) rfl rfl (Nat.le_of_ble_eq_true rfl) d_M_scaler_41 (fun H locs hP hD hS => ?_)
      obtain ⟨σ9, eσ9⟩ : ∃ y : hm_S, y = (hm_streak_s σ8 (0 : Int32)) := ⟨_, rfl⟩
      replace hP : va_P D vwCl (hm_W T3 bd σ9) H := by rw [eσ9]; exact hP
      replace hD : va_D A (hm_W T3 bd σ9) := by rw [eσ9]; exact hD
      replace h := hx_ns eσ9 h
      clear eσ9
      refine lv_iconst (v := 1) hx hb d_M_scaler_44 (by decide) ?_
      exact W.iret hx hb hr (fun t ht hW => hx_endi h ht hW hP hK hD hS) hS.2.2 d_M_scaler_45
    · replace h := hx_ip c6 h
      refine lv_bipush (v := -2) hx hb d_M_scaler_26 (by decide) ?_
      exact W.iret hx hb hr (fun t ht hW => hx_endi h ht hW hP hK hD hS) hS.2.2 d_M_scaler_28
abbrev m_M_step : Room := { frames := 5, cells := 0, slots := 0, locals := 133 }
set_option maxHeartbeats 4000000 in
set_option maxRecDepth 100000 in
theorem c_M_step (l : Launch) (D : va_G) (T3 : hx_T3) (bd : Nat → Nat) (sz : Nat) (τ : hm_S) (x1 : Int32) (r0 : Int32) (σ0 : hm_S) (h : f_M_step τ x1 = some (r0, σ0)) : hx_Wi l D (hx_ty T3) y_M_step w_M_step m_M_step [.ref (bd 0), .int x1] sz (hm_W T3 bd τ) r0 (hm_W T3 bd σ0) := by
  refine Met.ofW (cc := b_M_step) (maxL := 8) (ret := (some .int)) (by decide) rfl ?_
  intro p e s m args below meth c s₁ B hml hv
  obtain ⟨hargs, hsz, hP, hK, hD0⟩ := hv
  have hx := B.exec
  have hb := B.bytes
  have hr := B.returns
  have hts := atoms_spec (ws := w_M_step) B.pre
  have hown : s.vm.findClass "HalfFloatsModel" = some m.cls := findClass_of_methodNamed B.named
  have hlocks := B.notSynchronized
  subst hsz
  have hD := hD0.self (sz := s.heap.size)
  generalize hAe : va_A (hm_W T3 bd τ) s.heap.size = A at hD ⊢
  have hA : ∀ q : Nat, s.heap.size ≤ q → A q := fun q h => by rw [← hAe]; exact Or.inr h
  have hS : va_S A s.heap s.heap [] := va_S.rf
  have B_248 : ∀ (σ : hm_S) (x20 : Int32) (x21 : Int32) (H : Heap) (locs : List Loc) (ls : Array Slot), va_P D vwCl (hm_W T3 bd σ) H → va_D A (hm_W T3 bd σ) → va_S A s.heap H locs → lv_has ls 8 [(0, .ref (bd 0))] → f_M_step_248 σ x20 x21 = some (r0, σ0) → W p l e (headSpec w_M_step m_M_step).room s m args below meth c H locs 0 0 (MQ below (hx_Qi D (hx_ty T3) A r0 (hm_W T3 bd σ0)) args s 0 0 A) (F0 m 248 ls [.int x21, .int x20, .ref (bd 0)]) := by
      intro σ x20 x21 H locs ls hP hD hS hl h
      rw [f_M_step_248] at h
      refine lv_iadd hx hb d_M_step_248 ?_
      refine lv_topi (fun x22 ex22 => ?_)
      replace h := hx_ns ex22 h
      clear ex22
      refine va_put (D := D) (ci := 5) (v := .int x22) (ty := .int) (C := "HalfFloatsModel") (T := T_M) (N := 21) hx hb hts (hx_up in_M) ty_M tyok_M nm_M hown hK hP hD hS (0) hm_at_M rfl 8 (by decide) (hts _ (hx_cons _ k_564)) (fun _ h9 => h9) rfl (by decide +kernel) rfl rfl (Nat.le_of_ble_eq_true rfl) d_M_step_249 (fun H locs hP hD hS => ?_)
      obtain ⟨σ23, eσ23⟩ : ∃ y : hm_S, y = (hm_scaleS_s σ x22) := ⟨_, rfl⟩
      replace hP : va_P D vwCl (hm_W T3 bd σ23) H := by rw [eσ23]; exact hP
      replace hD : va_D A (hm_W T3 bd σ23) := by rw [eσ23]; exact hD
      replace h := hx_ns eσ23 h
      clear eσ23
      refine lv_aload_n hx hb d_M_step_252 rfl (lv_at hl 0 rfl) ?_
      refine lv_iconst (v := 0) hx hb d_M_step_253 (by decide) ?_
      refine va_put (D := D) (ci := 5) (v := .int (0 : Int32)) (ty := .int) (C := "HalfFloatsModel") (T := T_M) (N := 21) hx hb hts (hx_up in_M) ty_M tyok_M nm_M hown hK hP hD hS (0) hm_at_M rfl 9 (by decide) (hts _ (hx_cons _ k_565)) (fun _ h9 => h9) rfl (by decide +kernel) rfl rfl (Nat.le_of_ble_eq_true rfl) d_M_step_254 (fun H locs hP hD hS => ?_)
      obtain ⟨σ24, eσ24⟩ : ∃ y : hm_S, y = (hm_streak_s σ23 (0 : Int32)) := ⟨_, rfl⟩
      replace hP : va_P D vwCl (hm_W T3 bd σ24) H := by rw [eσ24]; exact hP
      replace hD : va_D A (hm_W T3 bd σ24) := by rw [eσ24]; exact hD
      replace h := hx_ns eσ24 h
      clear eσ24
      refine lv_iconst (v := 1) hx hb d_M_step_257 (by decide) ?_
      exact W.iret hx hb hr (fun t ht hW => hx_endi h ht hW hP hK hD hS) hS.2.2 d_M_step_258
  have B_89 : ∀ (n : Nat), ∀ (σ : hm_S) (x11 : Int32) (x12 : Int32) (x13 : Int32) (H : Heap) (locs : List Loc) (ls : Array Slot), va_P D vwCl (hm_W T3 bd σ) H → va_D A (hm_W T3 bd σ) → va_S A s.heap H locs → lv_has ls 8 [(0, .ref (bd 0)), (1, .int x11), (2, .int x12), (3, .int x13)] → f_M_step_89 n σ x11 x12 x13 = some (r0, σ0) → W p l e (headSpec w_M_step m_M_step).room s m args below meth c H locs 0 0 (MQ below (hx_Qi D (hx_ty T3) A r0 (hm_W T3 bd σ0)) args s 0 0 A) (F0 m 89 ls []) := by
    intro n
    induction n with
    | zero =>
      intro σ x11 x12 x13 H locs ls hP hD hS hl h
      rw [f_M_step_89] at h
      cases h
    | succ n ih =>
        intro σ x11 x12 x13 H locs ls hP hD hS hl h
        rw [f_M_step_89] at h
        refine lv_iload_n hx hb d_M_step_89 rfl (lv_at hl 3 rfl) ?_
        refine lv_aload_n hx hb d_M_step_90 rfl (lv_at hl 0 rfl) ?_
        obtain ⟨r14, er14, h⟩ := hx_b1s h
        refine hx_rd (va_runV (As := []) (rest := [.int x13]) ⟨hx, hb, hml, hown, hts⟩ (c_M_shorter l D T3 bd σ _ er14) (cwV 0 hts (hx_gV hx_cons k_798 k_800 k_46 k_55 k_801) rfl rfl rfl (by decide +kernel) ⟨Nat.le_of_ble_eq_true rfl, Nat.le_of_ble_eq_true rfl⟩) (hx_preV (va_recv hK hP (ci := 5) (q0 := 0) rfl hm_at_M) hP hK) rfl rfl hl.1 rfl (lv_room (Nat.le_of_ble_eq_true rfl)) d_M_step_91 ⟨Nat.zero_le _, Nat.zero_le _⟩) ?_
        refine lv_icmp_ge (tgt := 208) hx hb d_M_step_94 (by decide) (fun c15 => ?_) (fun c15 => ?_)
        · replace h := hx_ip c15 h
          refine lv_aload_n hx hb d_M_step_208 rfl (lv_at hl 0 rfl) ?_
          refine lv_dup hx hb d_M_step_209 rfl ?_
          refine va_get (D := D) (ci := 5) (v := .int (hm_streak σ)) (C := "HalfFloatsModel") (T := T_M) (N := 21) hx hb hts (hx_up in_M) hown hK hP (0) hm_at_M rfl 9 (by decide) (hts _ (hx_cons _ k_565)) (fun _ h9 => h9) rfl d_M_step_210 ?_
          refine lv_iconst (v := 1) hx hb d_M_step_213 (by decide) ?_
          refine lv_iadd hx hb d_M_step_214 ?_
          refine lv_topi (fun x16 ex16 => ?_)
          replace h := hx_ns ex16 h
          clear ex16
          refine va_put (D := D) (ci := 5) (v := .int x16) (ty := .int) (C := "HalfFloatsModel") (T := T_M) (N := 21) hx hb hts (hx_up in_M) ty_M tyok_M nm_M hown hK hP hD hS (0) hm_at_M rfl 9 (by decide) (hts _ (hx_cons _ k_565)) (fun _ h9 => h9) rfl (by decide +kernel) rfl rfl (Nat.le_of_ble_eq_true rfl) d_M_step_215 (fun H locs hP hD hS => ?_)
          obtain ⟨σ17, eσ17⟩ : ∃ y : hm_S, y = (hm_streak_s σ x16) := ⟨_, rfl⟩
          replace hP : va_P D vwCl (hm_W T3 bd σ17) H := by rw [eσ17]; exact hP
          replace hD : va_D A (hm_W T3 bd σ17) := by rw [eσ17]; exact hD
          replace h := hx_ns eσ17 h
          clear eσ17
          refine lv_aload_n hx hb d_M_step_218 rfl (lv_at hl 0 rfl) ?_
          refine va_get (D := D) (ci := 5) (v := .int (hm_streak σ17)) (C := "HalfFloatsModel") (T := T_M) (N := 21) hx hb hts (hx_up in_M) hown hK hP (0) hm_at_M rfl 9 (by decide) (hts _ (hx_cons _ k_565)) (fun _ h9 => h9) rfl d_M_step_219 ?_
          refine lv_aload_n hx hb d_M_step_222 rfl (lv_at hl 0 rfl) ?_
          refine va_get (D := D) (ci := 5) (v := .int (hm_growth σ17)) (C := "HalfFloatsModel") (T := T_M) (N := 21) hx hb hts (hx_up in_M) hown hK hP (0) hm_at_M rfl 10 (by decide) (hts _ (hx_cons _ k_566)) (fun _ h9 => h9) rfl d_M_step_223 ?_
          refine lv_icmp_ne (tgt := 257) hx hb d_M_step_226 (by decide) (fun c18 => ?_) (fun c18 => ?_)
          · replace h := hx_in c18 h
            refine lv_iconst (v := 1) hx hb d_M_step_257 (by decide) ?_
            exact W.iret hx hb hr (fun t ht hW => hx_endi h ht hW hP hK hD hS) hS.2.2 d_M_step_258
          · replace h := hx_ip c18 h
            refine lv_aload_n hx hb d_M_step_229 rfl (lv_at hl 0 rfl) ?_
            refine lv_dup hx hb d_M_step_230 rfl ?_
            refine va_get (D := D) (ci := 5) (v := .int (hm_scaleS σ17)) (C := "HalfFloatsModel") (T := T_M) (N := 21) hx hb hts (hx_up in_M) hown hK hP (0) hm_at_M rfl 8 (by decide) (hts _ (hx_cons _ k_564)) (fun _ h9 => h9) rfl d_M_step_231 ?_
            refine lv_aload_n hx hb d_M_step_234 rfl (lv_at hl 0 rfl) ?_
            refine va_get (D := D) (ci := 5) (v := .int (hm_scaleS σ17)) (C := "HalfFloatsModel") (T := T_M) (N := 21) hx hb hts (hx_up in_M) hown hK hP (0) hm_at_M rfl 8 (by decide) (hts _ (hx_cons _ k_564)) (fun _ h9 => h9) rfl d_M_step_235 ?_
            refine lv_bipush (v := 60) hx hb d_M_step_238 (by decide) ?_
            refine lv_icmp_ge (tgt := 247) hx hb d_M_step_240 (by decide) (fun c19 => ?_) (fun c19 => ?_)
            · replace h := hx_ip c19 h
              refine lv_iconst (v := 0) hx hb d_M_step_247 (by decide) ?_
              exact B_248 σ17 (hm_scaleS σ17) (0 : Int32) _ _ ls hP hD hS (lv_sub hl [0] rfl) h
            · replace h := hx_in c19 h
              refine lv_iconst (v := 1) hx hb d_M_step_243 (by decide) ?_
              refine lv_goto (tgt := 248) hx hb d_M_step_244 (by decide) ?_
              exact B_248 σ17 (hm_scaleS σ17) (1 : Int32) _ _ ls hP hD hS (lv_sub hl [0] rfl) h
        · replace h := hx_in c15 h
          refine lv_aload_n hx hb d_M_step_97 rfl (lv_at hl 0 rfl) ?_
          obtain ⟨q25, eq25, h⟩ := hx_b1s h
          refine hx_wv (va_runV (As := []) (rest := []) ⟨hx, hb, hml, hown, hts⟩ (c_M_begin l D T3 bd _ σ _ eq25) (cwV 0 hts (hx_gV hx_cons k_699 k_701 k_34 k_55 k_702) rfl rfl rfl (by decide +kernel) ⟨Nat.le_of_ble_eq_true rfl, Nat.le_of_ble_eq_true rfl⟩) (hx_preVw (va_recv hK hP (ci := 5) (q0 := 0) rfl hm_at_M) hP hK hD) rfl rfl hl.1 rfl (lv_room (Nat.le_of_ble_eq_true rfl)) d_M_step_98 ⟨Nat.zero_le _, Nat.zero_le _⟩) hD hS hA (fun H locs hP hD hS => ?_)
          refine lv_aload_n hx hb d_M_step_101 rfl (lv_at hl 0 rfl) ?_
          refine lv_aload_n hx hb d_M_step_102 rfl (lv_at hl 0 rfl) ?_
          refine va_get (D := D) (ci := 5) (v := .ref (bd 4)) (C := "HalfFloatsModel") (T := T_M) (N := 21) hx hb hts (hx_up in_M) hown hK hP (0) hm_at_M rfl 3 (by decide) (hts _ (hx_cons _ k_559)) (fun _ h9 => h9) rfl d_M_step_103 ?_
          refine lv_iconst (v := 0) hx hb d_M_step_106 (by decide) ?_
          obtain ⟨g26, h⟩ := hx_gs h
          refine va_iald hx hb hK hP (4) 1 hm_at_rF rfl g26 d_M_step_107 ?_
          refine lv_aload_n hx hb d_M_step_108 rfl (lv_at hl 0 rfl) ?_
          refine va_get (D := D) (ci := 5) (v := .ref (bd 6)) (C := "HalfFloatsModel") (T := T_M) (N := 21) hx hb hts (hx_up in_M) hown hK hP (0) hm_at_M rfl 5 (by decide) (hts _ (hx_cons _ k_561)) (fun _ h9 => h9) rfl d_M_step_109 ?_
          refine lv_iload_n hx hb d_M_step_112 rfl (lv_at hl 3 rfl) ?_
          obtain ⟨g27, h⟩ := hx_gs h
          refine va_lald hx hb hK hP (6) 2 hm_at_row rfl g27 d_M_step_113 ?_
          refine lv_iconst (v := 0) hx hb d_M_step_114 (by decide) ?_
          refine lv_aload_n hx hb d_M_step_115 rfl (lv_at hl 0 rfl) ?_
          refine va_get (D := D) (ci := 5) (v := .int (hm_scaleS q25)) (C := "HalfFloatsModel") (T := T_M) (N := 21) hx hb hts (hx_up in_M) hown hK hP (0) hm_at_M rfl 8 (by decide) (hts _ (hx_cons _ k_564)) (fun _ h9 => h9) rfl d_M_step_116 ?_
          refine lv_ineg hx hb d_M_step_119 ?_
          obtain ⟨q28, eq28, h⟩ := hx_b1s h
          refine hx_wv (va_runV (As := [.int (hm_rF q25 (0 : Int32).toNatClampNeg), .long (hm_row q25 x13.toNatClampNeg), .int (0 : Int32), .int (-(hm_scaleS q25))]) (rest := []) ⟨hx, hb, hml, hown, hts⟩ (c_M_value l D T3 bd _ q25 (hm_rF q25 (0 : Int32).toNatClampNeg) (hm_row q25 x13.toNatClampNeg) (0 : Int32) (-(hm_scaleS q25)) _ eq28) (cwV 4 hts (hx_gV hx_cons k_703 k_705 k_35 k_55 k_706) rfl rfl rfl (by decide +kernel) ⟨Nat.le_of_ble_eq_true rfl, Nat.le_of_ble_eq_true rfl⟩) (hx_preVw (va_recv hK hP (ci := 5) (q0 := 0) rfl hm_at_M) hP hK hD) rfl rfl hl.1 rfl (lv_room (Nat.le_of_ble_eq_true rfl)) d_M_step_120 ⟨Nat.zero_le _, Nat.zero_le _⟩) hD hS hA (fun H locs hP hD hS => ?_)
          refine lv_aload_n hx hb d_M_step_123 rfl (lv_at hl 0 rfl) ?_
          refine lv_iload_n hx hb d_M_step_124 rfl (lv_at hl 2 rfl) ?_
          refine lv_iconst (v := 0) hx hb d_M_step_125 (by decide) ?_
          obtain ⟨r30, q29, eq29, h⟩ := hx_b2s h
          refine hx_wj (va_runV (As := [.int x12, .int (0 : Int32)]) (rest := []) ⟨hx, hb, hml, hown, hts⟩ (c_M_end l D T3 bd _ q28 x12 (0 : Int32) _ _ eq29) (cwV 2 hts (hx_gV hx_cons k_716 k_718 k_38 k_55 k_719) rfl rfl rfl (by decide +kernel) ⟨Nat.le_of_ble_eq_true rfl, Nat.le_of_ble_eq_true rfl⟩) (hx_preVw (va_recv hK hP (ci := 5) (q0 := 0) rfl hm_at_M) hP hK hD) rfl rfl hl.1 rfl (lv_room (Nat.le_of_ble_eq_true rfl)) d_M_step_126 ⟨Nat.zero_le _, Nat.zero_le _⟩) hD hS hA (fun H locs hP hD hS => ?_)
          refine lv_lstore (lv' := [(4, .long r30), (0, .ref (bd 0)), (1, .int x11), (2, .int x12), (3, .int x13)]) hx hb d_M_step_129 hl (by decide) rfl (fun ls hl => ?_)
          refine lv_aload_n hx hb d_M_step_131 rfl (lv_at hl 1 rfl) ?_
          obtain ⟨q31, eq31, h⟩ := hx_b1s h
          refine hx_wv (va_runV (As := []) (rest := []) ⟨hx, hb, hml, hown, hts⟩ (c_M_begin l D T3 bd _ q29 _ eq31) (cwV 0 hts (hx_gV hx_cons k_699 k_701 k_34 k_55 k_702) rfl rfl rfl (by decide +kernel) ⟨Nat.le_of_ble_eq_true rfl, Nat.le_of_ble_eq_true rfl⟩) (hx_preVw (va_recv hK hP (ci := 5) (q0 := 0) rfl hm_at_M) hP hK hD) rfl rfl hl.1 rfl (lv_room (Nat.le_of_ble_eq_true rfl)) d_M_step_132 ⟨Nat.zero_le _, Nat.zero_le _⟩) hD hS hA (fun H locs hP hD hS => ?_)
          refine lv_aload_n hx hb d_M_step_135 rfl (lv_at hl 1 rfl) ?_
          refine lv_iload_n hx hb d_M_step_136 rfl (lv_at hl 3 rfl) ?_
          refine lv_aload_n hx hb d_M_step_137 rfl (lv_at hl 1 rfl) ?_
          refine lv_iload_n hx hb d_M_step_138 rfl (lv_at hl 3 rfl) ?_
          refine lv_iload_n hx hb d_M_step_139 rfl (lv_at hl 2 rfl) ?_
          obtain ⟨r32, er32, h⟩ := hx_b1s h
          refine hx_rd (va_runV (As := [.int x12, .int x11]) (rest := [.int x12, .ref (bd 0)]) ⟨hx, hb, hml, hown, hts⟩ (c_M_pattern l D T3 bd q31 x12 x11 _ er32) (cwV 2 hts (hx_gV hx_cons k_659 k_661 k_27 k_55 k_662) rfl rfl rfl (by decide +kernel) ⟨Nat.le_of_ble_eq_true rfl, Nat.le_of_ble_eq_true rfl⟩) (hx_preV (va_recv hK hP (ci := 5) (q0 := 0) rfl hm_at_M) hP hK) rfl rfl hl.1 rfl (lv_room (Nat.le_of_ble_eq_true rfl)) d_M_step_140 ⟨Nat.zero_le _, Nat.zero_le _⟩) ?_
          refine lv_iload_n hx hb d_M_step_143 rfl (lv_at hl 3 rfl) ?_
          refine lv_lload hx hb d_M_step_144 (lv_at hl 0 rfl) ?_
          refine lv_iconst (v := 1) hx hb d_M_step_146 (by decide) ?_
          obtain ⟨q33, eq33, h⟩ := hx_b1s h
          refine hx_wv (va_runV (As := [.int x12, .long r32, .int x12, .long r30, .int (1 : Int32)]) (rest := []) ⟨hx, hb, hml, hown, hts⟩ (c_M_product l D T3 bd _ q31 x12 r32 x12 r30 (1 : Int32) _ eq33) (cwV 5 hts (hx_gV hx_cons k_752 k_754 k_45 k_55 k_755) rfl rfl rfl (by decide +kernel) ⟨Nat.le_of_ble_eq_true rfl, Nat.le_of_ble_eq_true rfl⟩) (hx_preVw (va_recv hK hP (ci := 5) (q0 := 0) rfl hm_at_M) hP hK hD) rfl rfl hl.1 rfl (lv_room (Nat.le_of_ble_eq_true rfl)) d_M_step_147 ⟨Nat.zero_le _, Nat.zero_le _⟩) hD hS hA (fun H locs hP hD hS => ?_)
          refine lv_aload_n hx hb d_M_step_150 rfl (lv_at hl 1 rfl) ?_
          refine lv_iload_n hx hb d_M_step_151 rfl (lv_at hl 3 rfl) ?_
          refine lv_iconst (v := 0) hx hb d_M_step_152 (by decide) ?_
          obtain ⟨r35, q34, eq34, h⟩ := hx_b2s h
          refine hx_wj (va_runV (As := [.int x12, .int (0 : Int32)]) (rest := []) ⟨hx, hb, hml, hown, hts⟩ (c_M_end l D T3 bd _ q33 x12 (0 : Int32) _ _ eq34) (cwV 2 hts (hx_gV hx_cons k_716 k_718 k_38 k_55 k_719) rfl rfl rfl (by decide +kernel) ⟨Nat.le_of_ble_eq_true rfl, Nat.le_of_ble_eq_true rfl⟩) (hx_preVw (va_recv hK hP (ci := 5) (q0 := 0) rfl hm_at_M) hP hK hD) rfl rfl hl.1 rfl (lv_room (Nat.le_of_ble_eq_true rfl)) d_M_step_153 ⟨Nat.zero_le _, Nat.zero_le _⟩) hD hS hA (fun H locs hP hD hS => ?_)
          refine lv_lstore (lv' := [(6, .long r35), (4, .long r30), (0, .ref (bd 0)), (1, .int x11), (2, .int x12), (3, .int x13)]) hx hb d_M_step_156 hl (by decide) rfl (fun ls hl => ?_)
          refine lv_aload_n hx hb d_M_step_158 rfl (lv_at hl 2 rfl) ?_
          obtain ⟨q36, eq36, h⟩ := hx_b1s h
          refine hx_wv (va_runV (As := []) (rest := []) ⟨hx, hb, hml, hown, hts⟩ (c_M_begin l D T3 bd _ q34 _ eq36) (cwV 0 hts (hx_gV hx_cons k_699 k_701 k_34 k_55 k_702) rfl rfl rfl (by decide +kernel) ⟨Nat.le_of_ble_eq_true rfl, Nat.le_of_ble_eq_true rfl⟩) (hx_preVw (va_recv hK hP (ci := 5) (q0 := 0) rfl hm_at_M) hP hK hD) rfl rfl hl.1 rfl (lv_room (Nat.le_of_ble_eq_true rfl)) d_M_step_159 ⟨Nat.zero_le _, Nat.zero_le _⟩) hD hS hA (fun H locs hP hD hS => ?_)
          refine lv_aload_n hx hb d_M_step_162 rfl (lv_at hl 2 rfl) ?_
          refine lv_iload_n hx hb d_M_step_163 rfl (lv_at hl 4 rfl) ?_
          refine lv_aload_n hx hb d_M_step_164 rfl (lv_at hl 2 rfl) ?_
          refine va_get (D := D) (ci := 5) (v := .ref (bd 6)) (C := "HalfFloatsModel") (T := T_M) (N := 21) hx hb hts (hx_up in_M) hown hK hP (0) hm_at_M rfl 5 (by decide) (hts _ (hx_cons _ k_561)) (fun _ h9 => h9) rfl d_M_step_165 ?_
          refine lv_bipush (v := 32) hx hb d_M_step_168 (by decide) ?_
          refine lv_iload_n hx hb d_M_step_170 rfl (lv_at hl 5 rfl) ?_
          refine lv_iadd hx hb d_M_step_171 ?_
          obtain ⟨g37, h⟩ := hx_gs h
          refine va_lald hx hb hK hP (6) 2 hm_at_row rfl g37 d_M_step_172 ?_
          refine lv_iconst (v := 0) hx hb d_M_step_173 (by decide) ?_
          refine lv_iconst (v := 0) hx hb d_M_step_174 (by decide) ?_
          obtain ⟨q38, eq38, h⟩ := hx_b1s h
          refine hx_wv (va_runV (As := [.int x12, .long (hm_row q36 ((32 : Int32) + x13).toNatClampNeg), .int (0 : Int32), .int (0 : Int32)]) (rest := []) ⟨hx, hb, hml, hown, hts⟩ (c_M_value l D T3 bd _ q36 x12 (hm_row q36 ((32 : Int32) + x13).toNatClampNeg) (0 : Int32) (0 : Int32) _ eq38) (cwV 4 hts (hx_gV hx_cons k_703 k_705 k_35 k_55 k_706) rfl rfl rfl (by decide +kernel) ⟨Nat.le_of_ble_eq_true rfl, Nat.le_of_ble_eq_true rfl⟩) (hx_preVw (va_recv hK hP (ci := 5) (q0 := 0) rfl hm_at_M) hP hK hD) rfl rfl hl.1 rfl (lv_room (Nat.le_of_ble_eq_true rfl)) d_M_step_175 ⟨Nat.zero_le _, Nat.zero_le _⟩) hD hS hA (fun H locs hP hD hS => ?_)
          refine lv_aload_n hx hb d_M_step_178 rfl (lv_at hl 2 rfl) ?_
          refine lv_iload_n hx hb d_M_step_179 rfl (lv_at hl 4 rfl) ?_
          refine lv_lload hx hb d_M_step_180 (lv_at hl 0 rfl) ?_
          refine lv_iconst (v := 0) hx hb d_M_step_182 (by decide) ?_
          refine lv_iconst (v := 0) hx hb d_M_step_183 (by decide) ?_
          obtain ⟨q39, eq39, h⟩ := hx_b1s h
          refine hx_wv (va_runV (As := [.int x12, .long r35, .int (0 : Int32), .int (0 : Int32)]) (rest := []) ⟨hx, hb, hml, hown, hts⟩ (c_M_value l D T3 bd _ q38 x12 r35 (0 : Int32) (0 : Int32) _ eq39) (cwV 4 hts (hx_gV hx_cons k_703 k_705 k_35 k_55 k_706) rfl rfl rfl (by decide +kernel) ⟨Nat.le_of_ble_eq_true rfl, Nat.le_of_ble_eq_true rfl⟩) (hx_preVw (va_recv hK hP (ci := 5) (q0 := 0) rfl hm_at_M) hP hK hD) rfl rfl hl.1 rfl (lv_room (Nat.le_of_ble_eq_true rfl)) d_M_step_184 ⟨Nat.zero_le _, Nat.zero_le _⟩) hD hS hA (fun H locs hP hD hS => ?_)
          refine lv_aload_n hx hb d_M_step_187 rfl (lv_at hl 2 rfl) ?_
          refine va_get (D := D) (ci := 5) (v := .ref (bd 6)) (C := "HalfFloatsModel") (T := T_M) (N := 21) hx hb hts (hx_up in_M) hown hK hP (0) hm_at_M rfl 5 (by decide) (hts _ (hx_cons _ k_561)) (fun _ h9 => h9) rfl d_M_step_188 ?_
          refine lv_bipush (v := 32) hx hb d_M_step_191 (by decide) ?_
          refine lv_iload_n hx hb d_M_step_193 rfl (lv_at hl 5 rfl) ?_
          refine lv_iadd hx hb d_M_step_194 ?_
          refine lv_aload_n hx hb d_M_step_195 rfl (lv_at hl 2 rfl) ?_
          refine lv_iload_n hx hb d_M_step_196 rfl (lv_at hl 4 rfl) ?_
          refine lv_iconst (v := 0) hx hb d_M_step_197 (by decide) ?_
          obtain ⟨r41, q40, eq40, h⟩ := hx_b2s h
          refine hx_wj (va_runV (As := [.int x12, .int (0 : Int32)]) (rest := [.int ((32 : Int32) + x13), .ref (bd 6)]) ⟨hx, hb, hml, hown, hts⟩ (c_M_end l D T3 bd _ q39 x12 (0 : Int32) _ _ eq40) (cwV 2 hts (hx_gV hx_cons k_716 k_718 k_38 k_55 k_719) rfl rfl rfl (by decide +kernel) ⟨Nat.le_of_ble_eq_true rfl, Nat.le_of_ble_eq_true rfl⟩) (hx_preVw (va_recv hK hP (ci := 5) (q0 := 0) rfl hm_at_M) hP hK hD) rfl rfl hl.1 rfl (lv_room (Nat.le_of_ble_eq_true rfl)) d_M_step_198 ⟨Nat.zero_le _, Nat.zero_le _⟩) hD hS hA (fun H locs hP hD hS => ?_)
          obtain ⟨g42, h⟩ := hx_gs h
          refine va_last hx hb hK hP hD hS (6) 2 hm_at_row rfl g42 d_M_step_201 (fun H locs hP hD hS => ?_)
          obtain ⟨σ43, eσ43⟩ : ∃ y : hm_S, y = (hm_row_s q40 ((32 : Int32) + x13).toNatClampNeg r41) := ⟨_, rfl⟩
          replace hP : va_P D vwCl (hm_W T3 bd σ43) H := by rw [eσ43]; exact hP
          replace hD : va_D A (hm_W T3 bd σ43) := by rw [eσ43]; exact hD
          replace h := hx_ns eσ43 h
          clear eσ43
          obtain ⟨x44, ex44⟩ : ∃ y : Int32, y = x13 + 1 := ⟨_, rfl⟩
          replace h := hx_ns ex44 h
          refine lv_iinc (v := x44) (lv' := [(3, .int x44), (6, .long r35), (4, .long r30), (0, .ref (bd 0)), (1, .int x11), (2, .int x12)]) hx hb d_M_step_202 hl (k := 5) rfl (by rw [ex44]; rfl) (by decide) rfl (fun ls hl => ?_)
          clear ex44
          refine lv_goto (tgt := 89) hx hb d_M_step_205 (by decide) ?_
          exact ih σ43 x11 x12 x44 _ _ ls hP hD hS (lv_sub hl [3, 4, 5, 0] rfl) h
  have B_70 : ∀ (σ : hm_S) (x51 : Int32) (x52 : Int32) (H : Heap) (locs : List Loc) (ls : Array Slot), va_P D vwCl (hm_W T3 bd σ) H → va_D A (hm_W T3 bd σ) → va_S A s.heap H locs → lv_has ls 8 [(0, .ref (bd 0))] → f_M_step_70 σ x51 x52 = some (r0, σ0) → W p l e (headSpec w_M_step m_M_step).room s m args below meth c H locs 0 0 (MQ below (hx_Qi D (hx_ty T3) A r0 (hm_W T3 bd σ0)) args s 0 0 A) (F0 m 70 ls [.int x52, .int x51, .ref (bd 0)]) := by
      intro σ x51 x52 H locs ls hP hD hS hl h
      rw [f_M_step_70] at h
      refine lv_isub hx hb d_M_step_70 ?_
      refine lv_topi (fun x53 ex53 => ?_)
      replace h := hx_ns ex53 h
      clear ex53
      refine va_put (D := D) (ci := 5) (v := .int x53) (ty := .int) (C := "HalfFloatsModel") (T := T_M) (N := 21) hx hb hts (hx_up in_M) ty_M tyok_M nm_M hown hK hP hD hS (0) hm_at_M rfl 8 (by decide) (hts _ (hx_cons _ k_564)) (fun _ h9 => h9) rfl (by decide +kernel) rfl rfl (Nat.le_of_ble_eq_true rfl) d_M_step_71 (fun H locs hP hD hS => ?_)
      obtain ⟨σ54, eσ54⟩ : ∃ y : hm_S, y = (hm_scaleS_s σ x53) := ⟨_, rfl⟩
      replace hP : va_P D vwCl (hm_W T3 bd σ54) H := by rw [eσ54]; exact hP
      replace hD : va_D A (hm_W T3 bd σ54) := by rw [eσ54]; exact hD
      replace h := hx_ns eσ54 h
      clear eσ54
      refine lv_aload_n hx hb d_M_step_74 rfl (lv_at hl 0 rfl) ?_
      refine lv_iconst (v := 0) hx hb d_M_step_75 (by decide) ?_
      refine va_put (D := D) (ci := 5) (v := .int (0 : Int32)) (ty := .int) (C := "HalfFloatsModel") (T := T_M) (N := 21) hx hb hts (hx_up in_M) ty_M tyok_M nm_M hown hK hP hD hS (0) hm_at_M rfl 9 (by decide) (hts _ (hx_cons _ k_565)) (fun _ h9 => h9) rfl (by decide +kernel) rfl rfl (Nat.le_of_ble_eq_true rfl) d_M_step_76 (fun H locs hP hD hS => ?_)
      obtain ⟨σ55, eσ55⟩ : ∃ y : hm_S, y = (hm_streak_s σ54 (0 : Int32)) := ⟨_, rfl⟩
      replace hP : va_P D vwCl (hm_W T3 bd σ55) H := by rw [eσ55]; exact hP
      replace hD : va_D A (hm_W T3 bd σ55) := by rw [eσ55]; exact hD
      replace h := hx_ns eσ55 h
      clear eσ55
      refine lv_iconst (v := 0) hx hb d_M_step_79 (by decide) ?_
      exact W.iret hx hb hr (fun t ht hW => hx_endi h ht hW hP hK hD hS) hS.2.2 d_M_step_80
  have B_21 : ∀ (n : Nat), ∀ (σ : hm_S) (x6 : Int32) (x7 : Int32) (x8 : Int32) (H : Heap) (locs : List Loc) (ls : Array Slot), va_P D vwCl (hm_W T3 bd σ) H → va_D A (hm_W T3 bd σ) → va_S A s.heap H locs → lv_has ls 8 [(0, .ref (bd 0)), (1, .int x6), (2, .int x7), (3, .int x8)] → f_M_step_21 n σ x6 x7 x8 = some (r0, σ0) → W p l e (headSpec w_M_step m_M_step).room s m args below meth c H locs 0 0 (MQ below (hx_Qi D (hx_ty T3) A r0 (hm_W T3 bd σ0)) args s 0 0 A) (F0 m 21 ls []) := by
    intro n
    induction n with
    | zero =>
      intro σ x6 x7 x8 H locs ls hP hD hS hl h
      rw [f_M_step_21] at h
      cases h
    | succ n ih =>
        intro σ x6 x7 x8 H locs ls hP hD hS hl h
        rw [f_M_step_21] at h
        refine lv_iload_n hx hb d_M_step_21 rfl (lv_at hl 3 rfl) ?_
        refine lv_aload_n hx hb d_M_step_22 rfl (lv_at hl 0 rfl) ?_
        refine va_get (D := D) (ci := 5) (v := .ref (bd 5)) (C := "HalfFloatsModel") (T := T_M) (N := 21) hx hb hts (hx_up in_M) hown hK hP (0) hm_at_M rfl 4 (by decide) (hts _ (hx_cons _ k_560)) (fun _ h9 => h9) rfl d_M_step_23 ?_
        refine lv_iconst (v := 0) hx hb d_M_step_26 (by decide) ?_
        obtain ⟨g9, h⟩ := hx_gs h
        refine va_iald hx hb hK hP (5) 1 hm_at_rM rfl g9 d_M_step_27 ?_
        refine lv_icmp_ge (tgt := 87) hx hb d_M_step_28 (by decide) (fun c10 => ?_) (fun c10 => ?_)
        · replace h := hx_ip c10 h
          refine lv_iconst (v := 0) hx hb d_M_step_87 (by decide) ?_
          refine lv_istore_n (lv' := [(3, .int (0 : Int32)), (0, .ref (bd 0)), (1, .int x6), (2, .int x7)]) hx hb d_M_step_88 rfl hl (by decide) rfl (fun ls hl => ?_)
          exact B_89 hx_fuel σ x6 x7 (0 : Int32) _ _ ls hP hD hS (lv_sub hl [1, 2, 3, 0] rfl) h
        · replace h := hx_in c10 h
          refine lv_aload_n hx hb d_M_step_31 rfl (lv_at hl 0 rfl) ?_
          refine lv_aload_n hx hb d_M_step_32 rfl (lv_at hl 0 rfl) ?_
          refine va_get (D := D) (ci := 5) (v := .ref (bd 4)) (C := "HalfFloatsModel") (T := T_M) (N := 21) hx hb hts (hx_up in_M) hown hK hP (0) hm_at_M rfl 3 (by decide) (hts _ (hx_cons _ k_559)) (fun _ h9 => h9) rfl d_M_step_33 ?_
          refine lv_iconst (v := 0) hx hb d_M_step_36 (by decide) ?_
          obtain ⟨g45, h⟩ := hx_gs h
          refine va_iald hx hb hK hP (4) 1 hm_at_rF rfl g45 d_M_step_37 ?_
          refine lv_aload_n hx hb d_M_step_38 rfl (lv_at hl 0 rfl) ?_
          refine va_get (D := D) (ci := 5) (v := .ref (bd 6)) (C := "HalfFloatsModel") (T := T_M) (N := 21) hx hb hts (hx_up in_M) hown hK hP (0) hm_at_M rfl 5 (by decide) (hts _ (hx_cons _ k_561)) (fun _ h9 => h9) rfl d_M_step_39 ?_
          refine lv_iload_n hx hb d_M_step_42 rfl (lv_at hl 3 rfl) ?_
          obtain ⟨g46, h⟩ := hx_gs h
          refine va_lald hx hb hK hP (6) 2 hm_at_row rfl g46 d_M_step_43 ?_
          obtain ⟨r47, er47, h⟩ := hx_b1s h
          refine hx_rd (va_runV (As := [.int (hm_rF σ (0 : Int32).toNatClampNeg), .long (hm_row σ x8.toNatClampNeg)]) (rest := []) ⟨hx, hb, hml, hown, hts⟩ (c_M_sortOf l D T3 bd σ (hm_rF σ (0 : Int32).toNatClampNeg) (hm_row σ x8.toNatClampNeg) _ er47) (cwV 2 hts (hx_gV hx_cons k_666 k_668 k_28 k_55 k_669) rfl rfl rfl (by decide +kernel) ⟨Nat.le_of_ble_eq_true rfl, Nat.le_of_ble_eq_true rfl⟩) (hx_preV (va_recv hK hP (ci := 5) (q0 := 0) rfl hm_at_M) hP hK) rfl rfl hl.1 rfl (lv_room (Nat.le_of_ble_eq_true rfl)) d_M_step_44 ⟨Nat.zero_le _, Nat.zero_le _⟩) ?_
          refine lv_iconst (v := 2) hx hb d_M_step_47 (by decide) ?_
          refine lv_icmp_le (tgt := 81) hx hb d_M_step_48 (by decide) (fun c48 => ?_) (fun c48 => ?_)
          · replace h := hx_ip c48 h
            obtain ⟨x49, ex49⟩ : ∃ y : Int32, y = x8 + 1 := ⟨_, rfl⟩
            replace h := hx_ns ex49 h
            refine lv_iinc (v := x49) (lv' := [(3, .int x49), (0, .ref (bd 0)), (1, .int x6), (2, .int x7)]) hx hb d_M_step_81 hl (k := 3) rfl (by rw [ex49]; rfl) (by decide) rfl (fun ls hl => ?_)
            clear ex49
            refine lv_goto (tgt := 21) hx hb d_M_step_84 (by decide) ?_
            exact ih σ x6 x7 x49 _ _ ls hP hD hS (lv_sub hl [1, 2, 3, 0] rfl) h
          · replace h := hx_in c48 h
            refine lv_aload_n hx hb d_M_step_51 rfl (lv_at hl 0 rfl) ?_
            refine lv_dup hx hb d_M_step_52 rfl ?_
            refine va_get (D := D) (ci := 5) (v := .int (hm_scaleS σ)) (C := "HalfFloatsModel") (T := T_M) (N := 21) hx hb hts (hx_up in_M) hown hK hP (0) hm_at_M rfl 8 (by decide) (hts _ (hx_cons _ k_564)) (fun _ h9 => h9) rfl d_M_step_53 ?_
            refine lv_aload_n hx hb d_M_step_56 rfl (lv_at hl 0 rfl) ?_
            refine va_get (D := D) (ci := 5) (v := .int (hm_scaleS σ)) (C := "HalfFloatsModel") (T := T_M) (N := 21) hx hb hts (hx_up in_M) hown hK hP (0) hm_at_M rfl 8 (by decide) (hts _ (hx_cons _ k_564)) (fun _ h9 => h9) rfl d_M_step_57 ?_
            refine lv_bipush (v := -60) hx hb d_M_step_60 (by decide) ?_
            refine lv_icmp_le (tgt := 69) hx hb d_M_step_62 (by decide) (fun c50 => ?_) (fun c50 => ?_)
            · replace h := hx_ip c50 h
              refine lv_iconst (v := 0) hx hb d_M_step_69 (by decide) ?_
              exact B_70 σ (hm_scaleS σ) (0 : Int32) _ _ ls hP hD hS (lv_sub hl [0] rfl) h
            · replace h := hx_in c50 h
              refine lv_iconst (v := 1) hx hb d_M_step_65 (by decide) ?_
              refine lv_goto (tgt := 70) hx hb d_M_step_66 (by decide) ?_
              exact B_70 σ (hm_scaleS σ) (1 : Int32) _ _ ls hP hD hS (lv_sub hl [0] rfl) h
  refine W.eq (g2 := F0 m 0 ((lg_sl [.ref (bd 0), .int x1] ++ List.replicate (8 - (lg_sl [.ref (bd 0), .int x1]).length) Slot.unset).toArray) []) (by rw [hargs, lg_entry_eq]) ?_
  have hl := lv_entry ([.ref (bd 0), .int x1]) (n := 8) (Nat.le_of_ble_eq_true rfl)
  generalize (lg_sl ([.ref (bd 0), .int x1]) ++ List.replicate (8 - (lg_sl ([.ref (bd 0), .int x1])).length) Slot.unset).toArray = ls at hl ⊢
  have hl : lv_has ls 8 [(0, .ref (bd 0)), (1, .int x1)] := hl
  rw [f_M_step] at h
  refine lv_aload_n hx hb d_M_step_0 rfl (lv_at hl 0 rfl) ?_
  refine va_get (D := D) (ci := 5) (v := .ref (bd 4)) (C := "HalfFloatsModel") (T := T_M) (N := 21) hx hb hts (hx_up in_M) hown hK hP (0) hm_at_M rfl 3 (by decide) (hts _ (hx_cons _ k_559)) (fun _ h9 => h9) rfl d_M_step_1 ?_
  refine lv_iconst (v := 1) hx hb d_M_step_4 (by decide) ?_
  obtain ⟨g2, h⟩ := hx_gs h
  refine va_iald hx hb hK hP (4) 1 hm_at_rF rfl g2 d_M_step_5 ?_
  refine lv_topi (fun x3 ex3 => ?_)
  replace h := hx_ns ex3 h
  clear ex3
  refine lv_istore_n (lv' := [(2, .int x3), (0, .ref (bd 0)), (1, .int x1)]) hx hb d_M_step_6 rfl hl (by decide) rfl (fun ls hl => ?_)
  refine lv_aload_n hx hb d_M_step_7 rfl (lv_at hl 1 rfl) ?_
  refine lv_iload_n hx hb d_M_step_8 rfl (lv_at hl 0 rfl) ?_
  refine lv_iload_n hx hb d_M_step_9 rfl (lv_at hl 2 rfl) ?_
  obtain ⟨r4, er4, h⟩ := hx_b1s h
  refine hx_rd (va_runV (As := [.int x3, .int x1]) (rest := []) ⟨hx, hb, hml, hown, hts⟩ (c_M_isPattern l D T3 bd τ x3 x1 _ er4) (cwV 2 hts (hx_gV hx_cons k_655 k_657 k_26 k_55 k_658) rfl rfl rfl (by decide +kernel) ⟨Nat.le_of_ble_eq_true rfl, Nat.le_of_ble_eq_true rfl⟩) (hx_preV (va_recv hK hP (ci := 5) (q0 := 0) rfl hm_at_M) hP hK) rfl rfl hl.1 rfl (lv_room (Nat.le_of_ble_eq_true rfl)) d_M_step_10 ⟨Nat.zero_le _, Nat.zero_le _⟩) ?_
  refine lv_if_ne (tgt := 19) hx hb d_M_step_13 (by decide) (fun c5 => ?_) (fun c5 => ?_)
  · replace h := hx_in c5 h
    refine lv_iconst (v := 0) hx hb d_M_step_19 (by decide) ?_
    refine lv_istore_n (lv' := [(3, .int (0 : Int32)), (2, .int x3), (0, .ref (bd 0)), (1, .int x1)]) hx hb d_M_step_20 rfl hl (by decide) rfl (fun ls hl => ?_)
    exact B_21 hx_fuel τ x1 x3 (0 : Int32) _ _ ls hP hD hS (lv_sub hl [2, 3, 1, 0] rfl) h
  · replace h := hx_ip c5 h
    refine lv_bipush (v := -2) hx hb d_M_step_16 (by decide) ?_
    exact W.iret hx hb hr (fun t ht hW => hx_endi h ht hW hP hK hD hS) hS.2.2 d_M_step_18
abbrev m_M_kept : Room := { frames := 6, cells := 0, slots := 0, locals := 158 }
set_option maxHeartbeats 4000000 in
set_option maxRecDepth 100000 in
theorem c_M_kept (l : Launch) (D : va_G) (T3 : hx_T3) (bd : Nat → Nat) (sz : Nat) (τ : hm_S) (x1 : Int32) (x2 : Int32) (x3 : Int32) (r0 : Int32) (σ0 : hm_S) (h : f_M_kept τ x1 x2 x3 = some (r0, σ0)) : hx_Wi l D (hx_ty T3) y_M_kept w_M_kept m_M_kept [.ref (bd 0), .int x1, .int x2, .int x3] sz (hm_W T3 bd τ) r0 (hm_W T3 bd σ0) := by
  refine Met.ofW (cc := b_M_kept) (maxL := 8) (ret := (some .int)) (by decide) rfl ?_
  intro p e s m args below meth c s₁ B hml hv
  obtain ⟨hargs, hsz, hP, hK, hD0⟩ := hv
  have hx := B.exec
  have hb := B.bytes
  have hr := B.returns
  have hts := atoms_spec (ws := w_M_kept) B.pre
  have hown : s.vm.findClass "HalfFloatsModel" = some m.cls := findClass_of_methodNamed B.named
  have hlocks := B.notSynchronized
  subst hsz
  have hD := hD0.self (sz := s.heap.size)
  generalize hAe : va_A (hm_W T3 bd τ) s.heap.size = A at hD ⊢
  have hA : ∀ q : Nat, s.heap.size ≤ q → A q := fun q h => by rw [← hAe]; exact Or.inr h
  have hS : va_S A s.heap s.heap [] := va_S.rf
  have B_117 : ∀ (K59 : hm_S → Int32 → Int32 → Int32 → Int32 → Int32 → Int64 → Option (Int32 × hm_S)) (hK59 : ∀ (σ : hm_S) (x14 : Int32) (x15 : Int32) (x16 : Int32) (x17 : Int32) (x18 : Int32) (x19 : Int64) (H : Heap) (locs : List Loc) (ls : Array Slot), va_P D vwCl (hm_W T3 bd σ) H → va_D A (hm_W T3 bd σ) → va_S A s.heap H locs → lv_has ls 8 [(0, .ref (bd 0)), (1, .int x14), (2, .int x15), (3, .int x16), (4, .int x17), (5, .int x18), (6, .long x19)] → K59 σ x14 x15 x16 x17 x18 x19 = some (r0, σ0) → W p l e (headSpec w_M_kept m_M_kept).room s m args below meth c H locs 0 0 (MQ below (hx_Qi D (hx_ty T3) A r0 (hm_W T3 bd σ0)) args s 0 0 A) (F0 m 59 ls [])), ∀ (σ : hm_S) (x25 : Int32) (x26 : Int32) (x27 : Int32) (x28 : Int32) (x29 : Int32) (x30 : Int64) (H : Heap) (locs : List Loc) (ls : Array Slot), va_P D vwCl (hm_W T3 bd σ) H → va_D A (hm_W T3 bd σ) → va_S A s.heap H locs → lv_has ls 8 [(0, .ref (bd 0)), (1, .int x25), (2, .int x26), (3, .int x27), (4, .int x28), (5, .int x29), (6, .long x30)] → f_M_kept_117 K59 σ x25 x26 x27 x28 x29 x30 = some (r0, σ0) → W p l e (headSpec w_M_kept m_M_kept).room s m args below meth c H locs 0 0 (MQ below (hx_Qi D (hx_ty T3) A r0 (hm_W T3 bd σ0)) args s 0 0 A) (F0 m 117 ls []) := by
      intro K59 hK59
      intro σ x25 x26 x27 x28 x29 x30 H locs ls hP hD hS hl h
      rw [f_M_kept_117] at h
      refine lv_lload hx hb d_M_kept_117 (lv_at hl 6 rfl) ?_
      refine lv_lconst (v := 1) hx hb d_M_kept_119 rfl ?_
      refine lv_ladd hx hb d_M_kept_120 ?_
      refine lv_topl (fun x31 ex31 => ?_)
      replace h := hx_ns ex31 h
      clear ex31
      refine lv_lstore (lv' := [(6, .long x31), (0, .ref (bd 0)), (1, .int x25), (2, .int x26), (3, .int x27), (4, .int x28), (5, .int x29)]) hx hb d_M_kept_121 hl (by decide) rfl (fun ls hl => ?_)
      refine lv_goto (tgt := 59) hx hb d_M_kept_123 (by decide) ?_
      exact hK59 σ x25 x26 x27 x28 x29 x31 _ _ ls hP hD hS (lv_sub hl [1, 2, 3, 4, 5, 6, 0] rfl) h
  have B_114 : ∀ (K59 : hm_S → Int32 → Int32 → Int32 → Int32 → Int32 → Int64 → Option (Int32 × hm_S)) (hK59 : ∀ (σ : hm_S) (x14 : Int32) (x15 : Int32) (x16 : Int32) (x17 : Int32) (x18 : Int32) (x19 : Int64) (H : Heap) (locs : List Loc) (ls : Array Slot), va_P D vwCl (hm_W T3 bd σ) H → va_D A (hm_W T3 bd σ) → va_S A s.heap H locs → lv_has ls 8 [(0, .ref (bd 0)), (1, .int x14), (2, .int x15), (3, .int x16), (4, .int x17), (5, .int x18), (6, .long x19)] → K59 σ x14 x15 x16 x17 x18 x19 = some (r0, σ0) → W p l e (headSpec w_M_kept m_M_kept).room s m args below meth c H locs 0 0 (MQ below (hx_Qi D (hx_ty T3) A r0 (hm_W T3 bd σ0)) args s 0 0 A) (F0 m 59 ls [])), ∀ (σ : hm_S) (x37 : Int32) (x38 : Int32) (x39 : Int32) (x40 : Int32) (x41 : Int64) (x42 : Int32) (x43 : Int32) (H : Heap) (locs : List Loc) (ls : Array Slot), va_P D vwCl (hm_W T3 bd σ) H → va_D A (hm_W T3 bd σ) → va_S A s.heap H locs → lv_has ls 8 [(0, .ref (bd 0)), (1, .int x37), (2, .int x38), (3, .int x39), (4, .int x40), (6, .long x41)] → f_M_kept_114 K59 σ x37 x38 x39 x40 x41 x42 x43 = some (r0, σ0) → W p l e (headSpec w_M_kept m_M_kept).room s m args below meth c H locs 0 0 (MQ below (hx_Qi D (hx_ty T3) A r0 (hm_W T3 bd σ0)) args s 0 0 A) (F0 m 114 ls [.int x43, .int x42]) := by
      intro K59 hK59
      intro σ x37 x38 x39 x40 x41 x42 x43 H locs ls hP hD hS hl h
      rw [f_M_kept_114] at h
      refine lv_iadd hx hb d_M_kept_114 ?_
      refine lv_topi (fun x44 ex44 => ?_)
      replace h := hx_ns ex44 h
      clear ex44
      refine lv_istore (lv' := [(5, .int x44), (0, .ref (bd 0)), (1, .int x37), (2, .int x38), (3, .int x39), (4, .int x40), (6, .long x41)]) hx hb d_M_kept_115 hl (by decide) rfl (fun ls hl => ?_)
      exact B_117 K59 hK59 σ x37 x38 x39 x40 x44 x41 _ _ ls hP hD hS (lv_sub hl [1, 2, 3, 4, 5, 0, 6] rfl) h
  have B_59 : ∀ (n : Nat), ∀ (σ : hm_S) (x14 : Int32) (x15 : Int32) (x16 : Int32) (x17 : Int32) (x18 : Int32) (x19 : Int64) (H : Heap) (locs : List Loc) (ls : Array Slot), va_P D vwCl (hm_W T3 bd σ) H → va_D A (hm_W T3 bd σ) → va_S A s.heap H locs → lv_has ls 8 [(0, .ref (bd 0)), (1, .int x14), (2, .int x15), (3, .int x16), (4, .int x17), (5, .int x18), (6, .long x19)] → f_M_kept_59 n σ x14 x15 x16 x17 x18 x19 = some (r0, σ0) → W p l e (headSpec w_M_kept m_M_kept).room s m args below meth c H locs 0 0 (MQ below (hx_Qi D (hx_ty T3) A r0 (hm_W T3 bd σ0)) args s 0 0 A) (F0 m 59 ls []) := by
    intro n
    induction n with
    | zero =>
      intro σ x14 x15 x16 x17 x18 x19 H locs ls hP hD hS hl h
      rw [f_M_kept_59] at h
      cases h
    | succ n ih =>
        intro σ x14 x15 x16 x17 x18 x19 H locs ls hP hD hS hl h
        rw [f_M_kept_59] at h
        refine lv_lload hx hb d_M_kept_59 (lv_at hl 6 rfl) ?_
        refine lv_ldc2 (v := 2) hx hb hown (hts _ (hx_cons _ k_631)) d_M_kept_61 ?_
        refine lv_aload_n hx hb d_M_kept_64 rfl (lv_at hl 0 rfl) ?_
        refine lv_iload_n hx hb d_M_kept_65 rfl (lv_at hl 1 rfl) ?_
        obtain ⟨r20, er20, h⟩ := hx_b1s h
        refine hx_rd (va_runV (As := [.int x14]) (rest := [.long (2 : Int64), .long x19]) ⟨hx, hb, hml, hown, hts⟩ (c_M_signBit l D T3 bd σ x14 _ er20) (cwV 1 hts (hx_gV hx_cons k_643 k_645 k_24 k_55 k_646) rfl rfl rfl (by decide +kernel) ⟨Nat.le_of_ble_eq_true rfl, Nat.le_of_ble_eq_true rfl⟩) (hx_preV (va_recv hK hP (ci := 5) (q0 := 0) rfl hm_at_M) hP hK) rfl rfl hl.1 rfl (lv_room (Nat.le_of_ble_eq_true rfl)) d_M_kept_66 ⟨Nat.zero_le _, Nat.zero_le _⟩) ?_
        refine lv_lmul hx hb d_M_kept_69 ?_
        refine W.lcmp hx hb d_M_kept_70 ?_
        refine lv_if_ge (tgt := 126) hx hb d_M_kept_71 (by decide) (fun c21 => ?_) (fun c21 => ?_)
        · replace h := hx_ip c21 h
          refine lv_aload_n hx hb d_M_kept_126 rfl (lv_at hl 0 rfl) ?_
          refine lv_iload hx hb d_M_kept_127 (lv_at hl 4 rfl) ?_
          refine va_put (D := D) (ci := 5) (v := .int x17) (ty := .int) (C := "HalfFloatsModel") (T := T_M) (N := 21) hx hb hts (hx_up in_M) ty_M tyok_M nm_M hown hK hP hD hS (0) hm_at_M rfl 6 (by decide) (hts _ (hx_cons _ k_562)) (fun _ h9 => h9) rfl (by decide +kernel) rfl rfl (Nat.le_of_ble_eq_true rfl) d_M_kept_129 (fun H locs hP hD hS => ?_)
          obtain ⟨σ22, eσ22⟩ : ∃ y : hm_S, y = (hm_flags_s σ x17) := ⟨_, rfl⟩
          replace hP : va_P D vwCl (hm_W T3 bd σ22) H := by rw [eσ22]; exact hP
          replace hD : va_D A (hm_W T3 bd σ22) := by rw [eσ22]; exact hD
          replace h := hx_ns eσ22 h
          clear eσ22
          refine lv_iload hx hb d_M_kept_132 (lv_at hl 5 rfl) ?_
          exact W.iret hx hb hr (fun t ht hW => hx_endi h ht hW hP hK hD hS) hS.2.2 d_M_kept_134
        · replace h := hx_in c21 h
          refine lv_aload_n hx hb d_M_kept_74 rfl (lv_at hl 0 rfl) ?_
          refine lv_iload_n hx hb d_M_kept_75 rfl (lv_at hl 1 rfl) ?_
          refine lv_lload hx hb d_M_kept_76 (lv_at hl 6 rfl) ?_
          obtain ⟨r23, er23, h⟩ := hx_b1s h
          refine hx_rd (va_runV (As := [.int x14, .long x19]) (rest := []) ⟨hx, hb, hml, hown, hts⟩ (c_M_sortOf l D T3 bd σ x14 x19 _ er23) (cwV 2 hts (hx_gV hx_cons k_666 k_668 k_28 k_55 k_669) rfl rfl rfl (by decide +kernel) ⟨Nat.le_of_ble_eq_true rfl, Nat.le_of_ble_eq_true rfl⟩) (hx_preV (va_recv hK hP (ci := 5) (q0 := 0) rfl hm_at_M) hP hK) rfl rfl hl.1 rfl (lv_room (Nat.le_of_ble_eq_true rfl)) d_M_kept_78 ⟨Nat.zero_le _, Nat.zero_le _⟩) ?_
          refine lv_iconst (v := 4) hx hb d_M_kept_81 (by decide) ?_
          refine lv_icmp_eq (tgt := 117) hx hb d_M_kept_82 (by decide) (fun c24 => ?_) (fun c24 => ?_)
          · replace h := hx_ip c24 h
            exact B_117 (f_M_kept_59 n) ih σ x14 x15 x16 x17 x18 x19 _ _ ls hP hD hS (lv_sub hl [0, 1, 2, 3, 4, 5, 6] rfl) h
          · replace h := hx_in c24 h
            refine lv_iload hx hb d_M_kept_85 (lv_at hl 5 rfl) ?_
            refine lv_aload_n hx hb d_M_kept_87 rfl (lv_at hl 0 rfl) ?_
            refine lv_iload_n hx hb d_M_kept_88 rfl (lv_at hl 2 rfl) ?_
            refine lv_aload_n hx hb d_M_kept_89 rfl (lv_at hl 0 rfl) ?_
            refine lv_iload_n hx hb d_M_kept_90 rfl (lv_at hl 1 rfl) ?_
            refine lv_lload hx hb d_M_kept_91 (lv_at hl 6 rfl) ?_
            refine lv_iload_n hx hb d_M_kept_93 rfl (lv_at hl 2 rfl) ?_
            refine lv_iload_n hx hb d_M_kept_94 rfl (lv_at hl 3 rfl) ?_
            obtain ⟨r33, q32, eq32, h⟩ := hx_b2s h
            refine hx_wj (va_runV (As := [.int x14, .long x19, .int x15, .int x16]) (rest := [.int x15, .ref (bd 0), .int x18]) ⟨hx, hb, hml, hown, hts⟩ (c_M_turned l D T3 bd _ σ x14 x19 x15 x16 _ _ eq32) (cwV 4 hts (hx_gV hx_cons k_695 k_697 k_33 k_55 k_698) rfl rfl rfl (by decide +kernel) ⟨Nat.le_of_ble_eq_true rfl, Nat.le_of_ble_eq_true rfl⟩) (hx_preVw (va_recv hK hP (ci := 5) (q0 := 0) rfl hm_at_M) hP hK hD) rfl rfl hl.1 rfl (lv_room (Nat.le_of_ble_eq_true rfl)) d_M_kept_95 ⟨Nat.zero_le _, Nat.zero_le _⟩) hD hS hA (fun H locs hP hD hS => ?_)
            refine lv_iload_n hx hb d_M_kept_98 rfl (lv_at hl 1 rfl) ?_
            refine lv_iload_n hx hb d_M_kept_99 rfl (lv_at hl 3 rfl) ?_
            obtain ⟨r35, q34, eq34, h⟩ := hx_b2s h
            refine hx_wj (va_runV (As := [.int x15, .long r33, .int x14, .int x16]) (rest := [.int x18]) ⟨hx, hb, hml, hown, hts⟩ (c_M_turned l D T3 bd _ q32 x15 r33 x14 x16 _ _ eq34) (cwV 4 hts (hx_gV hx_cons k_695 k_697 k_33 k_55 k_698) rfl rfl rfl (by decide +kernel) ⟨Nat.le_of_ble_eq_true rfl, Nat.le_of_ble_eq_true rfl⟩) (hx_preVw (va_recv hK hP (ci := 5) (q0 := 0) rfl hm_at_M) hP hK hD) rfl rfl hl.1 rfl (lv_room (Nat.le_of_ble_eq_true rfl)) d_M_kept_100 ⟨Nat.zero_le _, Nat.zero_le _⟩) hD hS hA (fun H locs hP hD hS => ?_)
            refine lv_lload hx hb d_M_kept_103 (lv_at hl 6 rfl) ?_
            refine W.lcmp hx hb d_M_kept_105 ?_
            refine lv_if_ne (tgt := 113) hx hb d_M_kept_106 (by decide) (fun c36 => ?_) (fun c36 => ?_)
            · replace h := hx_in c36 h
              refine lv_iconst (v := 0) hx hb d_M_kept_113 (by decide) ?_
              exact B_114 (f_M_kept_59 n) ih q34 x14 x15 x16 x17 x19 x18 (0 : Int32) _ _ ls hP hD hS (lv_sub hl [0, 1, 2, 3, 4, 6] rfl) h
            · replace h := hx_ip c36 h
              refine lv_iconst (v := 1) hx hb d_M_kept_109 (by decide) ?_
              refine lv_goto (tgt := 114) hx hb d_M_kept_110 (by decide) ?_
              exact B_114 (f_M_kept_59 n) ih q34 x14 x15 x16 x17 x19 x18 (1 : Int32) _ _ ls hP hD hS (lv_sub hl [0, 1, 2, 3, 4, 6] rfl) h
  refine W.eq (g2 := F0 m 0 ((lg_sl [.ref (bd 0), .int x1, .int x2, .int x3] ++ List.replicate (8 - (lg_sl [.ref (bd 0), .int x1, .int x2, .int x3]).length) Slot.unset).toArray) []) (by rw [hargs, lg_entry_eq]) ?_
  have hl := lv_entry ([.ref (bd 0), .int x1, .int x2, .int x3]) (n := 8) (Nat.le_of_ble_eq_true rfl)
  generalize (lg_sl ([.ref (bd 0), .int x1, .int x2, .int x3]) ++ List.replicate (8 - (lg_sl ([.ref (bd 0), .int x1, .int x2, .int x3])).length) Slot.unset).toArray = ls at hl ⊢
  have hl : lv_has ls 8 [(0, .ref (bd 0)), (1, .int x1), (2, .int x2), (3, .int x3)] := hl
  rw [f_M_kept] at h
  refine lv_iload_n hx hb d_M_kept_0 rfl (lv_at hl 1 rfl) ?_
  obtain ⟨r4, er4, h⟩ := hx_b1s h
  refine hx_rd (va_runS (As := [.int x1]) (rest := []) ⟨hx, hb, hml, hown, hts⟩ (c_M_isFormat l D T3 x1 _ er4) (va_cwS 1 hts (hx_gS hx_cons k_624 k_625 k_55 k_626) rfl rfl rfl (by decide +kernel) ⟨Nat.le_of_ble_eq_true rfl, Nat.le_of_ble_eq_true rfl⟩) (hx_preS hx_nil hK) rfl rfl hl.1 rfl (lv_room (Nat.le_of_ble_eq_true rfl)) d_M_kept_1 ⟨Nat.zero_le _, Nat.zero_le _⟩) ?_
  refine lv_if_eq (tgt := 44) hx hb d_M_kept_4 (by decide) (fun c5 => ?_) (fun c5 => ?_)
  · replace h := hx_ip c5 h
    refine lv_bipush (v := -2) hx hb d_M_kept_44 (by decide) ?_
    exact W.iret hx hb hr (fun t ht hW => hx_endi h ht hW hP hK hD hS) hS.2.2 d_M_kept_46
  · replace h := hx_in c5 h
    refine lv_iload_n hx hb d_M_kept_7 rfl (lv_at hl 2 rfl) ?_
    obtain ⟨r6, er6, h⟩ := hx_b1s h
    refine hx_rd (va_runS (As := [.int x2]) (rest := []) ⟨hx, hb, hml, hown, hts⟩ (c_M_isFormat l D T3 x2 _ er6) (va_cwS 1 hts (hx_gS hx_cons k_624 k_625 k_55 k_626) rfl rfl rfl (by decide +kernel) ⟨Nat.le_of_ble_eq_true rfl, Nat.le_of_ble_eq_true rfl⟩) (hx_preS hx_nil hK) rfl rfl hl.1 rfl (lv_room (Nat.le_of_ble_eq_true rfl)) d_M_kept_8 ⟨Nat.zero_le _, Nat.zero_le _⟩) ?_
    refine lv_if_eq (tgt := 44) hx hb d_M_kept_11 (by decide) (fun c7 => ?_) (fun c7 => ?_)
    · replace h := hx_ip c7 h
      refine lv_bipush (v := -2) hx hb d_M_kept_44 (by decide) ?_
      exact W.iret hx hb hr (fun t ht hW => hx_endi h ht hW hP hK hD hS) hS.2.2 d_M_kept_46
    · replace h := hx_in c7 h
      refine lv_iload_n hx hb d_M_kept_14 rfl (lv_at hl 3 rfl) ?_
      refine lv_i2l hx hb d_M_kept_15 rfl ?_
      refine lv_lconst (v := 0) hx hb d_M_kept_16 rfl ?_
      refine lv_ldc2 (v := 4) hx hb hown (hts _ (hx_cons _ k_638)) d_M_kept_17 ?_
      obtain ⟨r8, er8, h⟩ := hx_b1s h
      refine hx_rd (va_runS (As := [.long x3.toInt64, .long (0 : Int64), .long (4 : Int64)]) (rest := []) ⟨hx, hb, hml, hown, hts⟩ (c_M_isIn l D T3 x3.toInt64 (0 : Int64) (4 : Int64) _ er8) (va_cwS 3 hts (hx_gS hx_cons k_628 k_629 k_55 k_630) rfl rfl rfl (by decide +kernel) ⟨Nat.le_of_ble_eq_true rfl, Nat.le_of_ble_eq_true rfl⟩) (hx_preS hx_nil hK) rfl rfl hl.1 rfl (lv_room (Nat.le_of_ble_eq_true rfl)) d_M_kept_20 ⟨Nat.zero_le _, Nat.zero_le _⟩) ?_
      refine lv_if_eq (tgt := 44) hx hb d_M_kept_23 (by decide) (fun c9 => ?_) (fun c9 => ?_)
      · replace h := hx_ip c9 h
        refine lv_bipush (v := -2) hx hb d_M_kept_44 (by decide) ?_
        exact W.iret hx hb hr (fun t ht hW => hx_endi h ht hW hP hK hD hS) hS.2.2 d_M_kept_46
      · replace h := hx_in c9 h
        refine lv_aload_n hx hb d_M_kept_26 rfl (lv_at hl 0 rfl) ?_
        refine va_get (D := D) (ci := 5) (v := .ref (bd 1)) (C := "HalfFloatsModel") (T := T_M) (N := 21) hx hb hts (hx_up in_M) hown hK hP (0) hm_at_M rfl 0 (by decide) (hts _ (hx_cons _ k_556)) (fun _ h9 => h9) rfl d_M_kept_27 ?_
        refine lv_iload_n hx hb d_M_kept_30 rfl (lv_at hl 1 rfl) ?_
        obtain ⟨g10, h⟩ := hx_gs h
        refine va_iald hx hb hK hP (1) 1 hm_at_fE rfl g10 d_M_kept_31 ?_
        refine lv_aload_n hx hb d_M_kept_32 rfl (lv_at hl 0 rfl) ?_
        refine va_get (D := D) (ci := 5) (v := .ref (bd 2)) (C := "HalfFloatsModel") (T := T_M) (N := 21) hx hb hts (hx_up in_M) hown hK hP (0) hm_at_M rfl 1 (by decide) (hts _ (hx_cons _ k_557)) (fun _ h9 => h9) rfl d_M_kept_33 ?_
        refine lv_iload_n hx hb d_M_kept_36 rfl (lv_at hl 1 rfl) ?_
        obtain ⟨g11, h⟩ := hx_gs h
        refine va_iald hx hb hK hP (2) 1 hm_at_fF rfl g11 d_M_kept_37 ?_
        refine lv_iadd hx hb d_M_kept_38 ?_
        refine lv_bipush (v := 11) hx hb d_M_kept_39 (by decide) ?_
        refine lv_icmp_le (tgt := 47) hx hb d_M_kept_41 (by decide) (fun c12 => ?_) (fun c12 => ?_)
        · replace h := hx_ip c12 h
          refine lv_aload_n hx hb d_M_kept_47 rfl (lv_at hl 0 rfl) ?_
          refine va_get (D := D) (ci := 5) (v := .int (hm_flags τ)) (C := "HalfFloatsModel") (T := T_M) (N := 21) hx hb hts (hx_up in_M) hown hK hP (0) hm_at_M rfl 6 (by decide) (hts _ (hx_cons _ k_562)) (fun _ h9 => h9) rfl d_M_kept_48 ?_
          refine lv_topi (fun x13 ex13 => ?_)
          replace h := hx_ns ex13 h
          clear ex13
          refine lv_istore (lv' := [(4, .int x13), (0, .ref (bd 0)), (1, .int x1), (2, .int x2), (3, .int x3)]) hx hb d_M_kept_51 hl (by decide) rfl (fun ls hl => ?_)
          refine lv_iconst (v := 0) hx hb d_M_kept_53 (by decide) ?_
          refine lv_istore (lv' := [(5, .int (0 : Int32)), (4, .int x13), (0, .ref (bd 0)), (1, .int x1), (2, .int x2), (3, .int x3)]) hx hb d_M_kept_54 hl (by decide) rfl (fun ls hl => ?_)
          refine lv_lconst (v := 0) hx hb d_M_kept_56 rfl ?_
          refine lv_lstore (lv' := [(6, .long (0 : Int64)), (5, .int (0 : Int32)), (4, .int x13), (0, .ref (bd 0)), (1, .int x1), (2, .int x2), (3, .int x3)]) hx hb d_M_kept_57 hl (by decide) rfl (fun ls hl => ?_)
          exact B_59 hx_fuel τ x1 x2 x3 x13 (0 : Int32) (0 : Int64) _ _ ls hP hD hS (lv_sub hl [3, 4, 5, 6, 2, 1, 0] rfl) h
        · replace h := hx_in c12 h
          refine lv_bipush (v := -2) hx hb d_M_kept_44 (by decide) ?_
          exact W.iret hx hb hr (fun t ht hW => hx_endi h ht hW hP hK hD hS) hS.2.2 d_M_kept_46
