def f_E_begin (σ : hx_S) : Option hx_S := hx_n (hx_ex_hasNan_s σ (0 : Int32)) (fun σ1 => hx_n (hx_ex_zeroTimesInfinite_s σ1 (0 : Int32)) (fun σ2 => hx_n (hx_ex_plusInfinite_s σ2 (0 : Int32)) (fun σ3 => hx_n (hx_ex_minusInfinite_s σ3 (0 : Int32)) (fun σ4 => hx_n (hx_ex_plusSeen_s σ4 (0 : Int32)) (fun σ5 => hx_n (hx_ex_minusSeen_s σ5 (0 : Int32)) (fun σ6 => hx_n (hx_ex_nonzero_s σ6 (0 : Int32)) (fun σ7 => hx_n (hx_ex_negative_s σ7 (0 : Int32)) (fun σ8 => hx_n (hx_ex_whole_s σ8 (0 : Int64)) (fun σ9 => hx_n (hx_ex_power_s σ9 (0 : Int32)) (fun σ10 => hx_n (hx_ex_more_s σ10 (0 : Int32)) (fun σ11 => some σ11)))))))))))
def f_E_noteInfinite (σ : hx_S) (x1 : Int32) : Option hx_S := (if x1 = 0 then hx_n (hx_ex_plusInfinite_s σ (1 : Int32)) (fun σ3 => some σ3) else hx_n (hx_ex_minusInfinite_s σ (1 : Int32)) (fun σ4 => some σ4))
def f_E_spread_72 (σ : hx_S) (x12 : Int32) (x13 : Int64) (x14 : Int64) (x15 : Int64) : Option hx_S := (if x12 < 0 ∨ 20 ≤ x12.toNatClampNeg then none else hx_n ((hx_ex_limbs σ x12.toNatClampNeg) + (x15 * (x13 &&& (4294967295 : Int64)))) (fun x17 => (if x12 < 0 ∨ 20 ≤ x12.toNatClampNeg then none else hx_n (hx_ex_limbs_s σ x12.toNatClampNeg x17) (fun σ19 => (if (x12 + (1 : Int32)) < 0 ∨ 20 ≤ (x12 + (1 : Int32)).toNatClampNeg then none else hx_n ((hx_ex_limbs σ19 (x12 + (1 : Int32)).toNatClampNeg) + (x15 * (x14 &&& (4294967295 : Int64)))) (fun x21 => (if (x12 + (1 : Int32)) < 0 ∨ 20 ≤ (x12 + (1 : Int32)).toNatClampNeg then none else hx_n (hx_ex_limbs_s σ19 (x12 + (1 : Int32)).toNatClampNeg x21) (fun σ23 => (if (x12 + (2 : Int32)) < 0 ∨ 20 ≤ (x12 + (2 : Int32)).toNatClampNeg then none else hx_n ((hx_ex_limbs σ23 (x12 + (2 : Int32)).toNatClampNeg) + (x15 * (x14.toUInt64 >>> ((32 : Int32).toInt64.toUInt64 &&& Int64.toUInt64 63)).toInt64)) (fun x25 => (if (x12 + (2 : Int32)) < 0 ∨ 20 ≤ (x12 + (2 : Int32)).toNatClampNeg then none else hx_n (hx_ex_limbs_s σ23 (x12 + (2 : Int32)).toNatClampNeg x25) (fun σ27 => some σ27))))))))))))
def f_E_spread (σ : hx_S) (x1 : Int32) (x2 : Int64) (x3 : Int32) : Option hx_S := hx_n (x3 - (-320 : Int32)) (fun x4 => hx_n (x4 >>> ((5 : Int32) &&& 31)) (fun x5 => (if x5 < 0 then some σ else (if (x5 + (2 : Int32)) < (20 : Int32) then hx_n (x4 &&& (31 : Int32)) (fun x8 => hx_n ((x2 &&& (4294967295 : Int64)) <<< (x8.toInt64 &&& 63)) (fun x9 => hx_n (((x2.toUInt64 >>> ((32 : Int32).toInt64.toUInt64 &&& Int64.toUInt64 63)).toInt64 <<< (x8.toInt64 &&& 63)) + (x9.toUInt64 >>> ((32 : Int32).toInt64.toUInt64 &&& Int64.toUInt64 63)).toInt64) (fun x10 => (if x1 = 0 then (f_E_spread_72 σ x5 x9 x10 (1 : Int64)) else (f_E_spread_72 σ x5 x9 x10 (-1 : Int64)))))) else some σ))))
def f_E_addFinite_91 (σ : hx_S) (x14 : Int32) (x15 : Int64) (x16 : Int32) : Option hx_S := hx_b1 (f_E_spread σ x14 x15 x16) (fun q17 => some q17)
def f_E_addFinite_17 (σ : hx_S) (x6 : Int32) (x7 : Int64) (x8 : Int32) : Option hx_S := (if (lg_cmp x7 (0 : Int64)) = 0 then some σ else hx_n ((hx_ex_nonzero σ) + (1 : Int32)) (fun x10 => hx_n (hx_ex_nonzero_s σ x10) (fun σ11 => (if (hx_ex_nonzero σ11) = (1 : Int32) then (if x6 = 0 ∨ x6 = 1 then hx_n (hx_ex_negative_s σ11 x6) (fun σ22 => hx_n (hx_ex_whole_s σ22 x7) (fun σ23 => hx_n (hx_ex_power_s σ23 x8) (fun σ24 => some σ24))) else none) else (if (hx_ex_nonzero σ11) = (2 : Int32) then hx_b1 (f_JA_fill (hx_ex_limbs σ11) (0 : Int64)) (fun q18 => hx_n (hx_ex_limbs_all σ11 q18) (fun σ19 => hx_b1 (f_E_spread σ19 (hx_ex_negative σ19) (hx_ex_whole σ19) (hx_ex_power σ19)) (fun q20 => (f_E_addFinite_91 q20 x6 x7 x8)))) else (f_E_addFinite_91 σ11 x6 x7 x8))))))
def f_E_addFinite (σ : hx_S) (x1 : Int32) (x2 : Int64) (x3 : Int32) : Option hx_S := (if x1 = 0 then hx_n (hx_ex_plusSeen_s σ (1 : Int32)) (fun σ5 => (f_E_addFinite_17 σ5 x1 x2 x3)) else hx_n (hx_ex_minusSeen_s σ (1 : Int32)) (fun σ25 => (f_E_addFinite_17 σ25 x1 x2 x3)))
def f_E_addValue_21 (σ : hx_S) (k7 : Nat) (x8 : Int32) (x9 : Int32) (x10 : Int32) : Option hx_S := (if x9 = (4 : Int32) then hx_n (hx_ex_hasNan_s σ (1 : Int32)) (fun σ17 => some σ17) else (if x9 = (3 : Int32) then hx_b1 (f_E_noteInfinite σ x10) (fun q16 => some q16) else hx_b1 (f_F_wholeOf (hx_fm σ k7) x8) (fun r13 => hx_b1 (f_F_powerOf (hx_fm σ k7) x8) (fun r14 => hx_b1 (f_E_addFinite σ x10 r13 r14) (fun q15 => some q15)))))
def f_E_addValue (σ : hx_S) (k1 : Nat) (x2 : Int32) (x3 : Int32) : Option hx_S := hx_b1 (f_F_sortOf (hx_fm σ k1) x2) (fun r4 => hx_b1 (f_F_isNegative (hx_fm σ k1) x2) (fun r5 => (if r5 = x3 then (f_E_addValue_21 σ k1 x2 r4 (0 : Int32)) else (f_E_addValue_21 σ k1 x2 r4 (1 : Int32)))))
def f_E_addProduct_48 (σ : hx_S) : Option hx_S := hx_n (hx_ex_hasNan_s σ (1 : Int32)) (fun σ18 => some σ18)
def f_E_addProduct_111 (σ : hx_S) : Option hx_S := hx_n (hx_ex_zeroTimesInfinite_s σ (1 : Int32)) (fun σ25 => some σ25)
def f_E_addProduct_101 (σ : hx_S) (x21 : Int32) (x22 : Int32) (x23 : Int32) : Option hx_S := (if x21 = 0 then (f_E_addProduct_111 σ) else (if x22 = 0 then (f_E_addProduct_111 σ) else hx_b1 (f_E_noteInfinite σ x23) (fun q27 => some q27)))
def f_E_addProduct_34 (σ : hx_S) (k10 : Nat) (x11 : Int32) (k12 : Nat) (x13 : Int32) (x14 : Int32) (x15 : Int32) (x16 : Int32) : Option hx_S := (if x14 = (4 : Int32) then (f_E_addProduct_48 σ) else (if x15 = (4 : Int32) then (f_E_addProduct_48 σ) else (if x14 = (3 : Int32) then (f_E_addProduct_101 σ x14 x15 x16) else (if x15 = (3 : Int32) then (f_E_addProduct_101 σ x14 x15 x16) else hx_b1 (f_F_wholeOf (hx_fm σ k10) x11) (fun r29 => hx_b1 (f_F_wholeOf (hx_fm σ k12) x13) (fun r30 => hx_b1 (f_F_powerOf (hx_fm σ k10) x11) (fun r31 => hx_b1 (f_F_powerOf (hx_fm σ k12) x13) (fun r32 => hx_b1 (f_E_addFinite σ x16 (r29 * r30) (r31 + r32)) (fun q33 => some q33)))))))))
def f_E_addProduct (σ : hx_S) (k1 : Nat) (x2 : Int32) (k3 : Nat) (x4 : Int32) : Option hx_S := hx_b1 (f_F_sortOf (hx_fm σ k1) x2) (fun r5 => hx_b1 (f_F_sortOf (hx_fm σ k3) x4) (fun r6 => hx_b1 (f_F_isNegative (hx_fm σ k1) x2) (fun r7 => hx_b1 (f_F_isNegative (hx_fm σ k3) x4) (fun r8 => (if r7 = r8 then (f_E_addProduct_34 σ k1 x2 k3 x4 r5 r6 (0 : Int32)) else (f_E_addProduct_34 σ k1 x2 k3 x4 r5 r6 (1 : Int32)))))))
def f_E_carry_5 : Nat → hx_S → Int32 → Int64 → Int32 → Option (Int64 × hx_S)
  | 0, _, _, _, _ => none
  | n + 1, σ, x2, x3, x4 => (if (20 : Int32) ≤ x4 then some (x3, σ) else (if x4 < 0 ∨ 20 ≤ x4.toNatClampNeg then none else hx_n ((x2.toInt64 * (hx_ex_limbs σ x4.toNatClampNeg)) + x3) (fun x7 => hx_n (x7 &&& (4294967295 : Int64)) (fun x8 => (if x4 < 0 ∨ 20 ≤ x4.toNatClampNeg then none else hx_n (hx_ex_limbs_s σ x4.toNatClampNeg x8) (fun σ10 => hx_n (x7 >>> ((32 : Int32).toInt64 &&& 63)) (fun x11 => hx_n (x4 + 1) (fun x12 => ((f_E_carry_5 n) σ10 x2 x11 x12)))))))))
def f_E_carry (σ : hx_S) (x1 : Int32) : Option (Int64 × hx_S) := (f_E_carry_5 hx_fuel σ x1 (0 : Int64) (0 : Int32))
def f_E_take_164 (K132 : hx_S → Int32 → Int32 → Option hx_S) (σ : hx_S) (x30 : Int32) (x31 : Int32) (x32 : Int32) : Option hx_S := (if x32 = 0 ∨ x32 = 1 then hx_n (hx_ex_more_s σ x32) (fun σ34 => hx_n (x31 + 1) (fun x35 => (K132 σ34 x30 x35))) else none)
def f_E_take_159 (K132 : hx_S → Int32 → Int32 → Option hx_S) (σ : hx_S) (x28 : Int32) (x29 : Int32) : Option hx_S := (f_E_take_164 K132 σ x28 x29 (1 : Int32))
def f_E_take_132 : Nat → hx_S → Int32 → Int32 → Option hx_S
  | 0, _, _, _ => none
  | n + 1, σ, x24, x25 => (if x24 ≤ x25 then some σ else (if (hx_ex_more σ) = 0 then (if x25 < 0 ∨ 20 ≤ x25.toNatClampNeg then none else (if (lg_cmp (hx_ex_limbs σ x25.toNatClampNeg) (0 : Int64)) = 0 then (f_E_take_164 (f_E_take_132 n) σ x24 x25 (0 : Int32)) else (f_E_take_159 (f_E_take_132 n) σ x24 x25))) else (f_E_take_159 (f_E_take_132 n) σ x24 x25)))
def f_E_take_126 (σ : hx_S) (x20 : Int32) (x21 : Int32) : Option hx_S := (if x21 = 0 ∨ x21 = 1 then hx_n (hx_ex_more_s σ x21) (fun σ23 => (f_E_take_132 hx_fuel σ23 x20 (0 : Int32))) else none)
def f_E_take_54 : Nat → hx_S → Int32 → Int32 → Int32 → Int32 → Option hx_S
  | 0, _, _, _, _, _ => none
  | n + 1, σ, x11, x12, x13, x14 => (if x11 < x14 then hx_n ((-320 : Int32) + x12) (fun x16 => hx_n (hx_ex_power_s σ x16) (fun σ17 => (if x13 < 0 ∨ 20 ≤ x13.toNatClampNeg then none else (if (lg_cmp ((hx_ex_limbs σ17 x13.toNatClampNeg) &&& (((1 : Int64) <<< ((x12 &&& (31 : Int32)).toInt64 &&& 63)) - (1 : Int64))) (0 : Int64)) = 0 then (f_E_take_126 σ17 x13 (0 : Int32)) else (f_E_take_126 σ17 x13 (1 : Int32)))))) else (if x14 < 0 ∨ 20 ≤ x14.toNatClampNeg then none else hx_n ((hx_ex_whole σ) + ((hx_ex_limbs σ x14.toNatClampNeg) <<< ((((32 : Int32) * x14) - x12).toInt64 &&& 63))) (fun x39 => hx_n (hx_ex_whole_s σ x39) (fun σ40 => hx_n (x14 + 1) (fun x41 => ((f_E_take_54 n) σ40 x11 x12 x13 x41))))))
def f_E_take (σ : hx_S) (x1 : Int32) : Option hx_S := (if x1 < 0 ∨ 20 ≤ x1.toNatClampNeg then none else hx_b1 (f_JL_numberOfLeadingZeros (hx_ex_limbs σ x1.toNatClampNeg)) (fun r3 => hx_n ((((32 : Int32) * x1) + (64 : Int32)) - r3) (fun x4 => hx_n (if (x4 - (62 : Int32)) < (0 : Int32) then (0 : Int32) else (x4 - (62 : Int32))) (fun x5 => hx_n (x5 >>> ((5 : Int32) &&& 31)) (fun x6 => (if x6 < 0 ∨ 20 ≤ x6.toNatClampNeg then none else hx_n (((hx_ex_limbs σ x6.toNatClampNeg).toUInt64 >>> ((x5 &&& (31 : Int32)).toInt64.toUInt64 &&& Int64.toUInt64 63)).toInt64) (fun x8 => hx_n (hx_ex_whole_s σ x8) (fun σ9 => hx_n (x6 + (1 : Int32)) (fun x10 => (f_E_take_54 hx_fuel σ9 x1 x5 x6 x10))))))))))
def f_E_settle_65 (σ : hx_S) (x11 : Int32) : Option hx_S := hx_b1 (f_E_take σ x11) (fun q12 => some q12)
def f_E_settle_44 : Nat → hx_S → Int32 → Option hx_S
  | 0, _, _ => none
  | n + 1, σ, x9 => (if x9 ≤ 0 then (f_E_settle_65 σ x9) else (if x9 < 0 ∨ 20 ≤ x9.toNatClampNeg then none else (if (lg_cmp (hx_ex_limbs σ x9.toNatClampNeg) (0 : Int64)) = 0 then hx_n (x9 + (-1)) (fun x15 => ((f_E_settle_44 n) σ x15)) else (f_E_settle_65 σ x9))))
def f_E_settle_41 (σ : hx_S) : Option hx_S := (f_E_settle_44 hx_fuel σ (19 : Int32))
def f_E_settle_25 (σ : hx_S) (x5 : Int32) : Option hx_S := (if x5 = 0 ∨ x5 = 1 then hx_n (hx_ex_negative_s σ x5) (fun σ7 => (if (hx_ex_negative σ7) = 0 then (f_E_settle_41 σ7) else hx_b2 (f_E_carry σ7 (-1 : Int32)) (fun r17 q16 => (f_E_settle_41 q16)))) else none)
def f_E_settle (σ : hx_S) : Option hx_S := (if (2 : Int32) ≤ (hx_ex_nonzero σ) then hx_b2 (f_E_carry σ (1 : Int32)) (fun r3 q2 => (if 0 ≤ (lg_cmp r3 (0 : Int64)) then (f_E_settle_25 q2 (0 : Int32)) else (f_E_settle_25 q2 (1 : Int32)))) else some σ)
def f_E_zeroIsNegative_26 (σ : hx_S) (x3 : Int32) : Option Int32 := (if x3 = (4 : Int32) then some (1 : Int32) else some (0 : Int32))
def f_E_zeroIsNegative (σ : hx_S) (x1 : Int32) : Option Int32 := (if (hx_ex_nonzero σ) = 0 then (if (hx_ex_plusSeen σ) = 0 then (if (hx_ex_minusSeen σ) = 0 ∨ (hx_ex_minusSeen σ) = 1 then some (hx_ex_minusSeen σ) else none) else (if (hx_ex_minusSeen σ) = 0 then (if (hx_ex_minusSeen σ) = 0 ∨ (hx_ex_minusSeen σ) = 1 then some (hx_ex_minusSeen σ) else none) else (f_E_zeroIsNegative_26 σ x1))) else (f_E_zeroIsNegative_26 σ x1))
def f_E_side_26 (σ : hx_S) (x3 : Int32) : Option (Int32 × hx_S) := (if (hx_ex_minusInfinite σ) = 0 then some ((x3 - (0 : Int32)), σ) else some ((x3 - (1 : Int32)), σ))
def f_E_side_14 (σ : hx_S) : Option (Int32 × hx_S) := (if (hx_ex_plusInfinite σ) = 0 then (f_E_side_26 σ (0 : Int32)) else (f_E_side_26 σ (1 : Int32)))
def f_E_side (σ : hx_S) : Option (Int32 × hx_S) := (if (hx_ex_plusInfinite σ) = 0 then (if (hx_ex_minusInfinite σ) = 0 then hx_b1 (f_E_settle σ) (fun q6 => (if (lg_cmp (hx_ex_whole q6) (0 : Int64)) = 0 then some ((0 : Int32), q6) else (if (hx_ex_negative q6) = 0 then some ((1 : Int32), q6) else some ((-1 : Int32), q6)))) else (f_E_side_14 σ)) else (f_E_side_14 σ))
abbrev m_E_begin : Room := { frames := 0, cells := 0, slots := 0, locals := 0 }
set_option maxHeartbeats 4000000 in
set_option maxRecDepth 100000 in
theorem c_E_begin (l : Launch) (D : va_G) (T3 : hx_T3) (ad : Nat → Nat) (sz : Nat) (σ : hx_S)  (σ0 : hx_S) (h : f_E_begin σ = some σ0) : hx_Wv l D (hx_ty T3) y_E_begin w_E_begin m_E_begin [.ref (ad 10)] sz (hx_W T3 ad σ) (hx_W T3 ad σ0) := by
  refine Met.ofW (cc := b_E_begin) (maxL := 1) (ret := none) (by decide) rfl ?_
  intro p e s m args below meth c s₁ B hml hv
  obtain ⟨hargs, hsz, hP, hK, hD0⟩ := hv
  have hx := B.exec
  have hb := B.bytes
  have hr := B.returns
  have hts := atoms_spec (ws := w_E_begin) B.pre
  have hown : s.vm.findClass "HalfFloats$Exact" = some m.cls := findClass_of_methodNamed B.named
  have hlocks := B.notSynchronized
  subst hsz
  have hD := hD0.self (sz := s.heap.size)
  generalize hAe : va_A (hx_W T3 ad σ) s.heap.size = A at hD ⊢
  have hA : ∀ q : Nat, s.heap.size ≤ q → A q := fun q h => by rw [← hAe]; exact Or.inr h
  have hS : va_S A s.heap s.heap [] := va_S.rf
  refine W.eq (g2 := F0 m 0 ((lg_sl [.ref (ad 10)] ++ List.replicate (1 - (lg_sl [.ref (ad 10)]).length) Slot.unset).toArray) []) (by rw [hargs, lg_entry_eq]) ?_
  have hl := lv_entry ([.ref (ad 10)]) (n := 1) (Nat.le_of_ble_eq_true rfl)
  generalize (lg_sl ([.ref (ad 10)]) ++ List.replicate (1 - (lg_sl ([.ref (ad 10)])).length) Slot.unset).toArray = ls at hl ⊢
  have hl : lv_has ls 1 [(0, .ref (ad 10))] := hl
  rw [f_E_begin] at h
  refine lv_aload_n hx hb d_E_begin_0 rfl (lv_at hl 0 rfl) ?_
  refine lv_iconst (v := 0) hx hb d_E_begin_1 (by decide) ?_
  refine va_put (D := D) (ci := 3) (v := .int (0 : Int32)) (ty := .boolean) (C := "HalfFloats$Exact") (T := T_E) (N := 12) hx hb hts (hx_up in_E) ty_E tyok_E nm_E hown hK hP hD hS (10) hx_at_E rfl 0 (by decide) (hts _ (hx_cons _ k_142)) (fun _ h9 => h9) rfl (by decide +kernel) (hx_nb (Or.inl rfl)) (hx_fb (Or.inl rfl)) (Nat.le_of_ble_eq_true rfl) d_E_begin_2 (fun H locs hP hD hS => ?_)
  obtain ⟨σ1, eσ1⟩ : ∃ y : hx_S, y = (hx_ex_hasNan_s σ (0 : Int32)) := ⟨_, rfl⟩
  replace hP : va_P D vwCl (hx_W T3 ad σ1) H := by rw [eσ1]; exact hP
  replace hD : va_D A (hx_W T3 ad σ1) := by rw [eσ1]; exact hD
  replace h := hx_ns eσ1 h
  clear eσ1
  refine lv_aload_n hx hb d_E_begin_5 rfl (lv_at hl 0 rfl) ?_
  refine lv_iconst (v := 0) hx hb d_E_begin_6 (by decide) ?_
  refine va_put (D := D) (ci := 3) (v := .int (0 : Int32)) (ty := .boolean) (C := "HalfFloats$Exact") (T := T_E) (N := 12) hx hb hts (hx_up in_E) ty_E tyok_E nm_E hown hK hP hD hS (10) hx_at_E rfl 1 (by decide) (hts _ (hx_cons _ k_145)) (fun _ h9 => h9) rfl (by decide +kernel) (hx_nb (Or.inl rfl)) (hx_fb (Or.inl rfl)) (Nat.le_of_ble_eq_true rfl) d_E_begin_7 (fun H locs hP hD hS => ?_)
  obtain ⟨σ2, eσ2⟩ : ∃ y : hx_S, y = (hx_ex_zeroTimesInfinite_s σ1 (0 : Int32)) := ⟨_, rfl⟩
  replace hP : va_P D vwCl (hx_W T3 ad σ2) H := by rw [eσ2]; exact hP
  replace hD : va_D A (hx_W T3 ad σ2) := by rw [eσ2]; exact hD
  replace h := hx_ns eσ2 h
  clear eσ2
  refine lv_aload_n hx hb d_E_begin_10 rfl (lv_at hl 0 rfl) ?_
  refine lv_iconst (v := 0) hx hb d_E_begin_11 (by decide) ?_
  refine va_put (D := D) (ci := 3) (v := .int (0 : Int32)) (ty := .boolean) (C := "HalfFloats$Exact") (T := T_E) (N := 12) hx hb hts (hx_up in_E) ty_E tyok_E nm_E hown hK hP hD hS (10) hx_at_E rfl 2 (by decide) (hts _ (hx_cons _ k_147)) (fun _ h9 => h9) rfl (by decide +kernel) (hx_nb (Or.inl rfl)) (hx_fb (Or.inl rfl)) (Nat.le_of_ble_eq_true rfl) d_E_begin_12 (fun H locs hP hD hS => ?_)
  obtain ⟨σ3, eσ3⟩ : ∃ y : hx_S, y = (hx_ex_plusInfinite_s σ2 (0 : Int32)) := ⟨_, rfl⟩
  replace hP : va_P D vwCl (hx_W T3 ad σ3) H := by rw [eσ3]; exact hP
  replace hD : va_D A (hx_W T3 ad σ3) := by rw [eσ3]; exact hD
  replace h := hx_ns eσ3 h
  clear eσ3
  refine lv_aload_n hx hb d_E_begin_15 rfl (lv_at hl 0 rfl) ?_
  refine lv_iconst (v := 0) hx hb d_E_begin_16 (by decide) ?_
  refine va_put (D := D) (ci := 3) (v := .int (0 : Int32)) (ty := .boolean) (C := "HalfFloats$Exact") (T := T_E) (N := 12) hx hb hts (hx_up in_E) ty_E tyok_E nm_E hown hK hP hD hS (10) hx_at_E rfl 3 (by decide) (hts _ (hx_cons _ k_149)) (fun _ h9 => h9) rfl (by decide +kernel) (hx_nb (Or.inl rfl)) (hx_fb (Or.inl rfl)) (Nat.le_of_ble_eq_true rfl) d_E_begin_17 (fun H locs hP hD hS => ?_)
  obtain ⟨σ4, eσ4⟩ : ∃ y : hx_S, y = (hx_ex_minusInfinite_s σ3 (0 : Int32)) := ⟨_, rfl⟩
  replace hP : va_P D vwCl (hx_W T3 ad σ4) H := by rw [eσ4]; exact hP
  replace hD : va_D A (hx_W T3 ad σ4) := by rw [eσ4]; exact hD
  replace h := hx_ns eσ4 h
  clear eσ4
  refine lv_aload_n hx hb d_E_begin_20 rfl (lv_at hl 0 rfl) ?_
  refine lv_iconst (v := 0) hx hb d_E_begin_21 (by decide) ?_
  refine va_put (D := D) (ci := 3) (v := .int (0 : Int32)) (ty := .boolean) (C := "HalfFloats$Exact") (T := T_E) (N := 12) hx hb hts (hx_up in_E) ty_E tyok_E nm_E hown hK hP hD hS (10) hx_at_E rfl 4 (by decide) (hts _ (hx_cons _ k_151)) (fun _ h9 => h9) rfl (by decide +kernel) (hx_nb (Or.inl rfl)) (hx_fb (Or.inl rfl)) (Nat.le_of_ble_eq_true rfl) d_E_begin_22 (fun H locs hP hD hS => ?_)
  obtain ⟨σ5, eσ5⟩ : ∃ y : hx_S, y = (hx_ex_plusSeen_s σ4 (0 : Int32)) := ⟨_, rfl⟩
  replace hP : va_P D vwCl (hx_W T3 ad σ5) H := by rw [eσ5]; exact hP
  replace hD : va_D A (hx_W T3 ad σ5) := by rw [eσ5]; exact hD
  replace h := hx_ns eσ5 h
  clear eσ5
  refine lv_aload_n hx hb d_E_begin_25 rfl (lv_at hl 0 rfl) ?_
  refine lv_iconst (v := 0) hx hb d_E_begin_26 (by decide) ?_
  refine va_put (D := D) (ci := 3) (v := .int (0 : Int32)) (ty := .boolean) (C := "HalfFloats$Exact") (T := T_E) (N := 12) hx hb hts (hx_up in_E) ty_E tyok_E nm_E hown hK hP hD hS (10) hx_at_E rfl 5 (by decide) (hts _ (hx_cons _ k_152)) (fun _ h9 => h9) rfl (by decide +kernel) (hx_nb (Or.inl rfl)) (hx_fb (Or.inl rfl)) (Nat.le_of_ble_eq_true rfl) d_E_begin_27 (fun H locs hP hD hS => ?_)
  obtain ⟨σ6, eσ6⟩ : ∃ y : hx_S, y = (hx_ex_minusSeen_s σ5 (0 : Int32)) := ⟨_, rfl⟩
  replace hP : va_P D vwCl (hx_W T3 ad σ6) H := by rw [eσ6]; exact hP
  replace hD : va_D A (hx_W T3 ad σ6) := by rw [eσ6]; exact hD
  replace h := hx_ns eσ6 h
  clear eσ6
  refine lv_aload_n hx hb d_E_begin_30 rfl (lv_at hl 0 rfl) ?_
  refine lv_iconst (v := 0) hx hb d_E_begin_31 (by decide) ?_
  refine va_put (D := D) (ci := 3) (v := .int (0 : Int32)) (ty := .int) (C := "HalfFloats$Exact") (T := T_E) (N := 12) hx hb hts (hx_up in_E) ty_E tyok_E nm_E hown hK hP hD hS (10) hx_at_E rfl 6 (by decide) (hts _ (hx_cons _ k_153)) (fun _ h9 => h9) rfl (by decide +kernel) rfl rfl (Nat.le_of_ble_eq_true rfl) d_E_begin_32 (fun H locs hP hD hS => ?_)
  obtain ⟨σ7, eσ7⟩ : ∃ y : hx_S, y = (hx_ex_nonzero_s σ6 (0 : Int32)) := ⟨_, rfl⟩
  replace hP : va_P D vwCl (hx_W T3 ad σ7) H := by rw [eσ7]; exact hP
  replace hD : va_D A (hx_W T3 ad σ7) := by rw [eσ7]; exact hD
  replace h := hx_ns eσ7 h
  clear eσ7
  refine lv_aload_n hx hb d_E_begin_35 rfl (lv_at hl 0 rfl) ?_
  refine lv_iconst (v := 0) hx hb d_E_begin_36 (by decide) ?_
  refine va_put (D := D) (ci := 3) (v := .int (0 : Int32)) (ty := .boolean) (C := "HalfFloats$Exact") (T := T_E) (N := 12) hx hb hts (hx_up in_E) ty_E tyok_E nm_E hown hK hP hD hS (10) hx_at_E rfl 7 (by decide) (hts _ (hx_cons _ k_154)) (fun _ h9 => h9) rfl (by decide +kernel) (hx_nb (Or.inl rfl)) (hx_fb (Or.inl rfl)) (Nat.le_of_ble_eq_true rfl) d_E_begin_37 (fun H locs hP hD hS => ?_)
  obtain ⟨σ8, eσ8⟩ : ∃ y : hx_S, y = (hx_ex_negative_s σ7 (0 : Int32)) := ⟨_, rfl⟩
  replace hP : va_P D vwCl (hx_W T3 ad σ8) H := by rw [eσ8]; exact hP
  replace hD : va_D A (hx_W T3 ad σ8) := by rw [eσ8]; exact hD
  replace h := hx_ns eσ8 h
  clear eσ8
  refine lv_aload_n hx hb d_E_begin_40 rfl (lv_at hl 0 rfl) ?_
  refine lv_lconst (v := 0) hx hb d_E_begin_41 rfl ?_
  refine va_put (D := D) (ci := 3) (v := .long (0 : Int64)) (ty := .long) (C := "HalfFloats$Exact") (T := T_E) (N := 12) hx hb hts (hx_up in_E) ty_E tyok_E nm_E hown hK hP hD hS (10) hx_at_E rfl 8 (by decide) (hts _ (hx_cons _ k_156)) (fun _ h9 => h9) rfl (by decide +kernel) rfl rfl (Nat.le_of_ble_eq_true rfl) d_E_begin_42 (fun H locs hP hD hS => ?_)
  obtain ⟨σ9, eσ9⟩ : ∃ y : hx_S, y = (hx_ex_whole_s σ8 (0 : Int64)) := ⟨_, rfl⟩
  replace hP : va_P D vwCl (hx_W T3 ad σ9) H := by rw [eσ9]; exact hP
  replace hD : va_D A (hx_W T3 ad σ9) := by rw [eσ9]; exact hD
  replace h := hx_ns eσ9 h
  clear eσ9
  refine lv_aload_n hx hb d_E_begin_45 rfl (lv_at hl 0 rfl) ?_
  refine lv_iconst (v := 0) hx hb d_E_begin_46 (by decide) ?_
  refine va_put (D := D) (ci := 3) (v := .int (0 : Int32)) (ty := .int) (C := "HalfFloats$Exact") (T := T_E) (N := 12) hx hb hts (hx_up in_E) ty_E tyok_E nm_E hown hK hP hD hS (10) hx_at_E rfl 9 (by decide) (hts _ (hx_cons _ k_158)) (fun _ h9 => h9) rfl (by decide +kernel) rfl rfl (Nat.le_of_ble_eq_true rfl) d_E_begin_47 (fun H locs hP hD hS => ?_)
  obtain ⟨σ10, eσ10⟩ : ∃ y : hx_S, y = (hx_ex_power_s σ9 (0 : Int32)) := ⟨_, rfl⟩
  replace hP : va_P D vwCl (hx_W T3 ad σ10) H := by rw [eσ10]; exact hP
  replace hD : va_D A (hx_W T3 ad σ10) := by rw [eσ10]; exact hD
  replace h := hx_ns eσ10 h
  clear eσ10
  refine lv_aload_n hx hb d_E_begin_50 rfl (lv_at hl 0 rfl) ?_
  refine lv_iconst (v := 0) hx hb d_E_begin_51 (by decide) ?_
  refine va_put (D := D) (ci := 3) (v := .int (0 : Int32)) (ty := .boolean) (C := "HalfFloats$Exact") (T := T_E) (N := 12) hx hb hts (hx_up in_E) ty_E tyok_E nm_E hown hK hP hD hS (10) hx_at_E rfl 10 (by decide) (hts _ (hx_cons _ k_160)) (fun _ h9 => h9) rfl (by decide +kernel) (hx_nb (Or.inl rfl)) (hx_fb (Or.inl rfl)) (Nat.le_of_ble_eq_true rfl) d_E_begin_52 (fun H locs hP hD hS => ?_)
  obtain ⟨σ11, eσ11⟩ : ∃ y : hx_S, y = (hx_ex_more_s σ10 (0 : Int32)) := ⟨_, rfl⟩
  replace hP : va_P D vwCl (hx_W T3 ad σ11) H := by rw [eσ11]; exact hP
  replace hD : va_D A (hx_W T3 ad σ11) := by rw [eσ11]; exact hD
  replace h := hx_ns eσ11 h
  clear eσ11
  exact W.vret hx hb hr (fun t ht hW => hx_endv h ht hW hP hK hD hS) hS.2.2 d_E_begin_55
abbrev m_E_noteInfinite : Room := { frames := 0, cells := 0, slots := 0, locals := 0 }
set_option maxHeartbeats 4000000 in
set_option maxRecDepth 100000 in
theorem c_E_noteInfinite (l : Launch) (D : va_G) (T3 : hx_T3) (ad : Nat → Nat) (sz : Nat) (σ : hx_S) (x1 : Int32)  (σ0 : hx_S) (h : f_E_noteInfinite σ x1 = some σ0) : hx_Wv l D (hx_ty T3) y_E_noteInfinite w_E_noteInfinite m_E_noteInfinite [.ref (ad 10), .int x1] sz (hx_W T3 ad σ) (hx_W T3 ad σ0) := by
  refine Met.ofW (cc := b_E_noteInfinite) (maxL := 2) (ret := none) (by decide) rfl ?_
  intro p e s m args below meth c s₁ B hml hv
  obtain ⟨hargs, hsz, hP, hK, hD0⟩ := hv
  have hx := B.exec
  have hb := B.bytes
  have hr := B.returns
  have hts := atoms_spec (ws := w_E_noteInfinite) B.pre
  have hown : s.vm.findClass "HalfFloats$Exact" = some m.cls := findClass_of_methodNamed B.named
  have hlocks := B.notSynchronized
  subst hsz
  have hD := hD0.self (sz := s.heap.size)
  generalize hAe : va_A (hx_W T3 ad σ) s.heap.size = A at hD ⊢
  have hA : ∀ q : Nat, s.heap.size ≤ q → A q := fun q h => by rw [← hAe]; exact Or.inr h
  have hS : va_S A s.heap s.heap [] := va_S.rf
  refine W.eq (g2 := F0 m 0 ((lg_sl [.ref (ad 10), .int x1] ++ List.replicate (2 - (lg_sl [.ref (ad 10), .int x1]).length) Slot.unset).toArray) []) (by rw [hargs, lg_entry_eq]) ?_
  have hl := lv_entry ([.ref (ad 10), .int x1]) (n := 2) (Nat.le_of_ble_eq_true rfl)
  generalize (lg_sl ([.ref (ad 10), .int x1]) ++ List.replicate (2 - (lg_sl ([.ref (ad 10), .int x1])).length) Slot.unset).toArray = ls at hl ⊢
  have hl : lv_has ls 2 [(0, .ref (ad 10)), (1, .int x1)] := hl
  rw [f_E_noteInfinite] at h
  refine lv_iload_n hx hb d_E_noteInfinite_0 rfl (lv_at hl 1 rfl) ?_
  refine lv_if_eq (tgt := 12) hx hb d_E_noteInfinite_1 (by decide) (fun c2 => ?_) (fun c2 => ?_)
  · replace h := hx_ip c2 h
    refine lv_aload_n hx hb d_E_noteInfinite_12 rfl (lv_at hl 0 rfl) ?_
    refine lv_iconst (v := 1) hx hb d_E_noteInfinite_13 (by decide) ?_
    refine va_put (D := D) (ci := 3) (v := .int (1 : Int32)) (ty := .boolean) (C := "HalfFloats$Exact") (T := T_E) (N := 12) hx hb hts (hx_up in_E) ty_E tyok_E nm_E hown hK hP hD hS (10) hx_at_E rfl 2 (by decide) (hts _ (hx_cons _ k_147)) (fun _ h9 => h9) rfl (by decide +kernel) (hx_nb (Or.inr rfl)) (hx_fb (Or.inr rfl)) (Nat.le_of_ble_eq_true rfl) d_E_noteInfinite_14 (fun H locs hP hD hS => ?_)
    obtain ⟨σ3, eσ3⟩ : ∃ y : hx_S, y = (hx_ex_plusInfinite_s σ (1 : Int32)) := ⟨_, rfl⟩
    replace hP : va_P D vwCl (hx_W T3 ad σ3) H := by rw [eσ3]; exact hP
    replace hD : va_D A (hx_W T3 ad σ3) := by rw [eσ3]; exact hD
    replace h := hx_ns eσ3 h
    clear eσ3
    exact W.vret hx hb hr (fun t ht hW => hx_endv h ht hW hP hK hD hS) hS.2.2 d_E_noteInfinite_17
  · replace h := hx_in c2 h
    refine lv_aload_n hx hb d_E_noteInfinite_4 rfl (lv_at hl 0 rfl) ?_
    refine lv_iconst (v := 1) hx hb d_E_noteInfinite_5 (by decide) ?_
    refine va_put (D := D) (ci := 3) (v := .int (1 : Int32)) (ty := .boolean) (C := "HalfFloats$Exact") (T := T_E) (N := 12) hx hb hts (hx_up in_E) ty_E tyok_E nm_E hown hK hP hD hS (10) hx_at_E rfl 3 (by decide) (hts _ (hx_cons _ k_149)) (fun _ h9 => h9) rfl (by decide +kernel) (hx_nb (Or.inr rfl)) (hx_fb (Or.inr rfl)) (Nat.le_of_ble_eq_true rfl) d_E_noteInfinite_6 (fun H locs hP hD hS => ?_)
    obtain ⟨σ4, eσ4⟩ : ∃ y : hx_S, y = (hx_ex_minusInfinite_s σ (1 : Int32)) := ⟨_, rfl⟩
    replace hP : va_P D vwCl (hx_W T3 ad σ4) H := by rw [eσ4]; exact hP
    replace hD : va_D A (hx_W T3 ad σ4) := by rw [eσ4]; exact hD
    replace h := hx_ns eσ4 h
    clear eσ4
    refine lv_goto (tgt := 17) hx hb d_E_noteInfinite_9 (by decide) ?_
    exact W.vret hx hb hr (fun t ht hW => hx_endv h ht hW hP hK hD hS) hS.2.2 d_E_noteInfinite_17
abbrev m_E_spread : Room := { frames := 0, cells := 0, slots := 0, locals := 0 }
set_option maxHeartbeats 4000000 in
set_option maxRecDepth 100000 in
theorem c_E_spread (l : Launch) (D : va_G) (T3 : hx_T3) (ad : Nat → Nat) (sz : Nat) (σ : hx_S) (x1 : Int32) (x2 : Int64) (x3 : Int32)  (σ0 : hx_S) (h : f_E_spread σ x1 x2 x3 = some σ0) : hx_Wv l D (hx_ty T3) y_E_spread w_E_spread m_E_spread [.ref (ad 10), .int x1, .long x2, .int x3] sz (hx_W T3 ad σ) (hx_W T3 ad σ0) := by
  refine Met.ofW (cc := b_E_spread) (maxL := 14) (ret := none) (by decide) rfl ?_
  intro p e s m args below meth c s₁ B hml hv
  obtain ⟨hargs, hsz, hP, hK, hD0⟩ := hv
  have hx := B.exec
  have hb := B.bytes
  have hr := B.returns
  have hts := atoms_spec (ws := w_E_spread) B.pre
  have hown : s.vm.findClass "HalfFloats$Exact" = some m.cls := findClass_of_methodNamed B.named
  have hlocks := B.notSynchronized
  subst hsz
  have hD := hD0.self (sz := s.heap.size)
  generalize hAe : va_A (hx_W T3 ad σ) s.heap.size = A at hD ⊢
  have hA : ∀ q : Nat, s.heap.size ≤ q → A q := fun q h => by rw [← hAe]; exact Or.inr h
  have hS : va_S A s.heap s.heap [] := va_S.rf
  have B_72 : ∀ (σ : hx_S) (x12 : Int32) (x13 : Int64) (x14 : Int64) (x15 : Int64) (H : Heap) (locs : List Loc) (ls : Array Slot), va_P D vwCl (hx_W T3 ad σ) H → va_D A (hx_W T3 ad σ) → va_S A s.heap H locs → lv_has ls 14 [(0, .ref (ad 10)), (6, .int x12), (8, .long x13), (10, .long x14)] → f_E_spread_72 σ x12 x13 x14 x15 = some σ0 → W p l e (headSpec w_E_spread m_E_spread).room s m args below meth c H locs 0 0 (MQ below (hx_Qv D (hx_ty T3) A (hx_W T3 ad σ0)) args s 0 0 A) (F0 m 72 ls [.long x15]) := by
      intro σ x12 x13 x14 x15 H locs ls hP hD hS hl h
      rw [f_E_spread_72] at h
      refine lv_lstore (lv' := [(12, .long x15), (0, .ref (ad 10)), (6, .int x12), (8, .long x13), (10, .long x14)]) hx hb d_E_spread_72 hl (by decide) rfl (fun ls hl => ?_)
      refine lv_aload_n hx hb d_E_spread_74 rfl (lv_at hl 1 rfl) ?_
      refine va_get (D := D) (ci := 3) (v := .ref (ad 11)) (C := "HalfFloats$Exact") (T := T_E) (N := 12) hx hb hts (hx_up in_E) hown hK hP (10) hx_at_E rfl 11 (by decide) (hts _ (hx_cons _ k_162)) (fun _ h9 => h9) rfl d_E_spread_75 ?_
      refine lv_iload hx hb d_E_spread_78 (lv_at hl 2 rfl) ?_
      refine lv_dup2_11 hx hb d_E_spread_80 rfl rfl ?_
      obtain ⟨g16, h⟩ := hx_gs h
      refine va_lald hx hb hK hP (11) 2 hx_at_EL rfl g16 d_E_spread_81 ?_
      refine lv_lload hx hb d_E_spread_82 (lv_at hl 0 rfl) ?_
      refine lv_lload hx hb d_E_spread_84 (lv_at hl 3 rfl) ?_
      refine lv_ldc2 (v := 4294967295) hx hb hown (hts _ (hx_cons _ k_373)) d_E_spread_86 ?_
      refine lv_land hx hb d_E_spread_89 ?_
      refine lv_lmul hx hb d_E_spread_90 ?_
      refine lv_ladd hx hb d_E_spread_91 ?_
      refine lv_topl (fun x17 ex17 => ?_)
      replace h := hx_ns ex17 h
      clear ex17
      obtain ⟨g18, h⟩ := hx_gs h
      refine va_last hx hb hK hP hD hS (11) 2 hx_at_EL rfl g18 d_E_spread_92 (fun H locs hP hD hS => ?_)
      obtain ⟨σ19, eσ19⟩ : ∃ y : hx_S, y = (hx_ex_limbs_s σ x12.toNatClampNeg x17) := ⟨_, rfl⟩
      replace hP : va_P D vwCl (hx_W T3 ad σ19) H := by rw [eσ19]; exact hP
      replace hD : va_D A (hx_W T3 ad σ19) := by rw [eσ19]; exact hD
      replace h := hx_ns eσ19 h
      clear eσ19
      refine lv_aload_n hx hb d_E_spread_93 rfl (lv_at hl 1 rfl) ?_
      refine va_get (D := D) (ci := 3) (v := .ref (ad 11)) (C := "HalfFloats$Exact") (T := T_E) (N := 12) hx hb hts (hx_up in_E) hown hK hP (10) hx_at_E rfl 11 (by decide) (hts _ (hx_cons _ k_162)) (fun _ h9 => h9) rfl d_E_spread_94 ?_
      refine lv_iload hx hb d_E_spread_97 (lv_at hl 2 rfl) ?_
      refine lv_iconst (v := 1) hx hb d_E_spread_99 (by decide) ?_
      refine lv_iadd hx hb d_E_spread_100 ?_
      refine lv_dup2_11 hx hb d_E_spread_101 rfl rfl ?_
      obtain ⟨g20, h⟩ := hx_gs h
      refine va_lald hx hb hK hP (11) 2 hx_at_EL rfl g20 d_E_spread_102 ?_
      refine lv_lload hx hb d_E_spread_103 (lv_at hl 0 rfl) ?_
      refine lv_lload hx hb d_E_spread_105 (lv_at hl 4 rfl) ?_
      refine lv_ldc2 (v := 4294967295) hx hb hown (hts _ (hx_cons _ k_373)) d_E_spread_107 ?_
      refine lv_land hx hb d_E_spread_110 ?_
      refine lv_lmul hx hb d_E_spread_111 ?_
      refine lv_ladd hx hb d_E_spread_112 ?_
      refine lv_topl (fun x21 ex21 => ?_)
      replace h := hx_ns ex21 h
      clear ex21
      obtain ⟨g22, h⟩ := hx_gs h
      refine va_last hx hb hK hP hD hS (11) 2 hx_at_EL rfl g22 d_E_spread_113 (fun H locs hP hD hS => ?_)
      obtain ⟨σ23, eσ23⟩ : ∃ y : hx_S, y = (hx_ex_limbs_s σ19 (x12 + (1 : Int32)).toNatClampNeg x21) := ⟨_, rfl⟩
      replace hP : va_P D vwCl (hx_W T3 ad σ23) H := by rw [eσ23]; exact hP
      replace hD : va_D A (hx_W T3 ad σ23) := by rw [eσ23]; exact hD
      replace h := hx_ns eσ23 h
      clear eσ23
      refine lv_aload_n hx hb d_E_spread_114 rfl (lv_at hl 1 rfl) ?_
      refine va_get (D := D) (ci := 3) (v := .ref (ad 11)) (C := "HalfFloats$Exact") (T := T_E) (N := 12) hx hb hts (hx_up in_E) hown hK hP (10) hx_at_E rfl 11 (by decide) (hts _ (hx_cons _ k_162)) (fun _ h9 => h9) rfl d_E_spread_115 ?_
      refine lv_iload hx hb d_E_spread_118 (lv_at hl 2 rfl) ?_
      refine lv_iconst (v := 2) hx hb d_E_spread_120 (by decide) ?_
      refine lv_iadd hx hb d_E_spread_121 ?_
      refine lv_dup2_11 hx hb d_E_spread_122 rfl rfl ?_
      obtain ⟨g24, h⟩ := hx_gs h
      refine va_lald hx hb hK hP (11) 2 hx_at_EL rfl g24 d_E_spread_123 ?_
      refine lv_lload hx hb d_E_spread_124 (lv_at hl 0 rfl) ?_
      refine lv_lload hx hb d_E_spread_126 (lv_at hl 4 rfl) ?_
      refine lv_bipush (v := 32) hx hb d_E_spread_128 (by decide) ?_
      refine lv_lushr hx hb d_E_spread_130 rfl ?_
      refine lv_lmul hx hb d_E_spread_131 ?_
      refine lv_ladd hx hb d_E_spread_132 ?_
      refine lv_topl (fun x25 ex25 => ?_)
      replace h := hx_ns ex25 h
      clear ex25
      obtain ⟨g26, h⟩ := hx_gs h
      refine va_last hx hb hK hP hD hS (11) 2 hx_at_EL rfl g26 d_E_spread_133 (fun H locs hP hD hS => ?_)
      obtain ⟨σ27, eσ27⟩ : ∃ y : hx_S, y = (hx_ex_limbs_s σ23 (x12 + (2 : Int32)).toNatClampNeg x25) := ⟨_, rfl⟩
      replace hP : va_P D vwCl (hx_W T3 ad σ27) H := by rw [eσ27]; exact hP
      replace hD : va_D A (hx_W T3 ad σ27) := by rw [eσ27]; exact hD
      replace h := hx_ns eσ27 h
      clear eσ27
      exact W.vret hx hb hr (fun t ht hW => hx_endv h ht hW hP hK hD hS) hS.2.2 d_E_spread_134
  refine W.eq (g2 := F0 m 0 ((lg_sl [.ref (ad 10), .int x1, .long x2, .int x3] ++ List.replicate (14 - (lg_sl [.ref (ad 10), .int x1, .long x2, .int x3]).length) Slot.unset).toArray) []) (by rw [hargs, lg_entry_eq]) ?_
  have hl := lv_entry ([.ref (ad 10), .int x1, .long x2, .int x3]) (n := 14) (Nat.le_of_ble_eq_true rfl)
  generalize (lg_sl ([.ref (ad 10), .int x1, .long x2, .int x3]) ++ List.replicate (14 - (lg_sl ([.ref (ad 10), .int x1, .long x2, .int x3])).length) Slot.unset).toArray = ls at hl ⊢
  have hl : lv_has ls 14 [(0, .ref (ad 10)), (1, .int x1), (2, .long x2), (4, .int x3)] := hl
  rw [f_E_spread] at h
  refine lv_iload hx hb d_E_spread_0 (lv_at hl 3 rfl) ?_
  refine lv_sipush (v := -320) hx hb d_E_spread_2 (by decide) ?_
  refine lv_isub hx hb d_E_spread_5 ?_
  refine lv_topi (fun x4 ex4 => ?_)
  replace h := hx_ns ex4 h
  clear ex4
  refine lv_istore (lv' := [(5, .int x4), (0, .ref (ad 10)), (1, .int x1), (2, .long x2), (4, .int x3)]) hx hb d_E_spread_6 hl (by decide) rfl (fun ls hl => ?_)
  refine lv_iload hx hb d_E_spread_8 (lv_at hl 0 rfl) ?_
  refine lv_iconst (v := 5) hx hb d_E_spread_10 (by decide) ?_
  refine lv_ishr hx hb d_E_spread_11 ?_
  refine lv_topi (fun x5 ex5 => ?_)
  replace h := hx_ns ex5 h
  clear ex5
  refine lv_istore (lv' := [(6, .int x5), (5, .int x4), (0, .ref (ad 10)), (1, .int x1), (2, .long x2), (4, .int x3)]) hx hb d_E_spread_12 hl (by decide) rfl (fun ls hl => ?_)
  refine lv_iload hx hb d_E_spread_14 (lv_at hl 0 rfl) ?_
  refine lv_if_lt (tgt := 28) hx hb d_E_spread_16 (by decide) (fun c6 => ?_) (fun c6 => ?_)
  · replace h := hx_ip c6 h
    exact W.vret hx hb hr (fun t ht hW => hx_endv h ht hW hP hK hD hS) hS.2.2 d_E_spread_28
  · replace h := hx_in c6 h
    refine lv_iload hx hb d_E_spread_19 (lv_at hl 0 rfl) ?_
    refine lv_iconst (v := 2) hx hb d_E_spread_21 (by decide) ?_
    refine lv_iadd hx hb d_E_spread_22 ?_
    refine lv_bipush (v := 20) hx hb d_E_spread_23 (by decide) ?_
    refine lv_icmp_lt (tgt := 29) hx hb d_E_spread_25 (by decide) (fun c7 => ?_) (fun c7 => ?_)
    · replace h := hx_ip c7 h
      refine lv_iload hx hb d_E_spread_29 (lv_at hl 1 rfl) ?_
      refine lv_bipush (v := 31) hx hb d_E_spread_31 (by decide) ?_
      refine lv_iand hx hb d_E_spread_33 ?_
      refine lv_topi (fun x8 ex8 => ?_)
      replace h := hx_ns ex8 h
      clear ex8
      refine lv_istore (lv' := [(7, .int x8), (6, .int x5), (5, .int x4), (0, .ref (ad 10)), (1, .int x1), (2, .long x2), (4, .int x3)]) hx hb d_E_spread_34 hl (by decide) rfl (fun ls hl => ?_)
      refine lv_lload_n hx hb d_E_spread_36 rfl (lv_at hl 5 rfl) ?_
      refine lv_ldc2 (v := 4294967295) hx hb hown (hts _ (hx_cons _ k_373)) d_E_spread_37 ?_
      refine lv_land hx hb d_E_spread_40 ?_
      refine lv_iload hx hb d_E_spread_41 (lv_at hl 0 rfl) ?_
      refine lv_lshl hx hb d_E_spread_43 rfl ?_
      refine lv_topl (fun x9 ex9 => ?_)
      replace h := hx_ns ex9 h
      clear ex9
      refine lv_lstore (lv' := [(8, .long x9), (7, .int x8), (6, .int x5), (5, .int x4), (0, .ref (ad 10)), (1, .int x1), (2, .long x2), (4, .int x3)]) hx hb d_E_spread_44 hl (by decide) rfl (fun ls hl => ?_)
      refine lv_lload_n hx hb d_E_spread_46 rfl (lv_at hl 6 rfl) ?_
      refine lv_bipush (v := 32) hx hb d_E_spread_47 (by decide) ?_
      refine lv_lushr hx hb d_E_spread_49 rfl ?_
      refine lv_iload hx hb d_E_spread_50 (lv_at hl 1 rfl) ?_
      refine lv_lshl hx hb d_E_spread_52 rfl ?_
      refine lv_lload hx hb d_E_spread_53 (lv_at hl 0 rfl) ?_
      refine lv_bipush (v := 32) hx hb d_E_spread_55 (by decide) ?_
      refine lv_lushr hx hb d_E_spread_57 rfl ?_
      refine lv_ladd hx hb d_E_spread_58 ?_
      refine lv_topl (fun x10 ex10 => ?_)
      replace h := hx_ns ex10 h
      clear ex10
      refine lv_lstore (lv' := [(10, .long x10), (8, .long x9), (7, .int x8), (6, .int x5), (5, .int x4), (0, .ref (ad 10)), (1, .int x1), (2, .long x2), (4, .int x3)]) hx hb d_E_spread_59 hl (by decide) rfl (fun ls hl => ?_)
      refine lv_iload_n hx hb d_E_spread_61 rfl (lv_at hl 6 rfl) ?_
      refine lv_if_eq (tgt := 71) hx hb d_E_spread_62 (by decide) (fun c11 => ?_) (fun c11 => ?_)
      · replace h := hx_ip c11 h
        refine lv_lconst (v := 1) hx hb d_E_spread_71 rfl ?_
        exact B_72 σ x5 x9 x10 (1 : Int64) _ _ ls hP hD hS (lv_sub hl [5, 3, 1, 0] rfl) h
      · replace h := hx_in c11 h
        refine lv_ldc2 (v := -1) hx hb hown (hts _ (hx_cons _ k_374)) d_E_spread_65 ?_
        refine lv_goto (tgt := 72) hx hb d_E_spread_68 (by decide) ?_
        exact B_72 σ x5 x9 x10 (-1 : Int64) _ _ ls hP hD hS (lv_sub hl [5, 3, 1, 0] rfl) h
    · replace h := hx_in c7 h
      exact W.vret hx hb hr (fun t ht hW => hx_endv h ht hW hP hK hD hS) hS.2.2 d_E_spread_28
abbrev m_E_addFinite : Room := { frames := 1, cells := 0, slots := 0, locals := 33 }
set_option maxHeartbeats 4000000 in
set_option maxRecDepth 100000 in
theorem c_E_addFinite (l : Launch) (D : va_G) (T3 : hx_T3) (ad : Nat → Nat) (sz : Nat) (σ : hx_S) (x1 : Int32) (x2 : Int64) (x3 : Int32)  (σ0 : hx_S) (h : f_E_addFinite σ x1 x2 x3 = some σ0) : hx_Wv l D (hx_ty T3) y_E_addFinite w_E_addFinite m_E_addFinite [.ref (ad 10), .int x1, .long x2, .int x3] sz (hx_W T3 ad σ) (hx_W T3 ad σ0) := by
  refine Met.ofW (cc := b_E_addFinite) (maxL := 5) (ret := none) (by decide) rfl ?_
  intro p e s m args below meth c s₁ B hml hv
  obtain ⟨hargs, hsz, hP, hK, hD0⟩ := hv
  have hx := B.exec
  have hb := B.bytes
  have hr := B.returns
  have hts := atoms_spec (ws := w_E_addFinite) B.pre
  have hown : s.vm.findClass "HalfFloats$Exact" = some m.cls := findClass_of_methodNamed B.named
  have hlocks := B.notSynchronized
  subst hsz
  have hD := hD0.self (sz := s.heap.size)
  generalize hAe : va_A (hx_W T3 ad σ) s.heap.size = A at hD ⊢
  have hA : ∀ q : Nat, s.heap.size ≤ q → A q := fun q h => by rw [← hAe]; exact Or.inr h
  have hS : va_S A s.heap s.heap [] := va_S.rf
  have B_91 : ∀ (σ : hx_S) (x14 : Int32) (x15 : Int64) (x16 : Int32) (H : Heap) (locs : List Loc) (ls : Array Slot), va_P D vwCl (hx_W T3 ad σ) H → va_D A (hx_W T3 ad σ) → va_S A s.heap H locs → lv_has ls 5 [(0, .ref (ad 10)), (1, .int x14), (2, .long x15), (4, .int x16)] → f_E_addFinite_91 σ x14 x15 x16 = some σ0 → W p l e (headSpec w_E_addFinite m_E_addFinite).room s m args below meth c H locs 0 0 (MQ below (hx_Qv D (hx_ty T3) A (hx_W T3 ad σ0)) args s 0 0 A) (F0 m 91 ls []) := by
      intro σ x14 x15 x16 H locs ls hP hD hS hl h
      rw [f_E_addFinite_91] at h
      refine lv_aload_n hx hb d_E_addFinite_91 rfl (lv_at hl 0 rfl) ?_
      refine lv_iload_n hx hb d_E_addFinite_92 rfl (lv_at hl 1 rfl) ?_
      refine lv_lload_n hx hb d_E_addFinite_93 rfl (lv_at hl 2 rfl) ?_
      refine lv_iload hx hb d_E_addFinite_94 (lv_at hl 3 rfl) ?_
      obtain ⟨q17, eq17, h⟩ := hx_b1s h
      refine hx_wv (va_runV (As := [.int x14, .long x15, .int x16]) (rest := []) ⟨hx, hb, hml, hown, hts⟩ (c_E_spread l D T3 ad _ σ x14 x15 x16 _ eq17) (cwV 3 hts (hx_gV hx_cons k_369 k_371 k_5 k_53 k_372) rfl rfl rfl (by decide +kernel) ⟨Nat.le_of_ble_eq_true rfl, Nat.le_of_ble_eq_true rfl⟩) (hx_preVw (va_recv hK hP (ci := 3) (q0 := 10) rfl hx_at_E) hP hK hD) rfl rfl hl.1 rfl (lv_room (Nat.le_of_ble_eq_true rfl)) d_E_addFinite_96 ⟨Nat.zero_le _, Nat.zero_le _⟩) hD hS hA (fun H locs hP hD hS => ?_)
      exact W.vret hx hb hr (fun t ht hW => hx_endv h ht hW hP hK hD hS) hS.2.2 d_E_addFinite_99
  have B_17 : ∀ (σ : hx_S) (x6 : Int32) (x7 : Int64) (x8 : Int32) (H : Heap) (locs : List Loc) (ls : Array Slot), va_P D vwCl (hx_W T3 ad σ) H → va_D A (hx_W T3 ad σ) → va_S A s.heap H locs → lv_has ls 5 [(0, .ref (ad 10)), (1, .int x6), (2, .long x7), (4, .int x8)] → f_E_addFinite_17 σ x6 x7 x8 = some σ0 → W p l e (headSpec w_E_addFinite m_E_addFinite).room s m args below meth c H locs 0 0 (MQ below (hx_Qv D (hx_ty T3) A (hx_W T3 ad σ0)) args s 0 0 A) (F0 m 17 ls []) := by
      intro σ x6 x7 x8 H locs ls hP hD hS hl h
      rw [f_E_addFinite_17] at h
      refine lv_lload_n hx hb d_E_addFinite_17 rfl (lv_at hl 2 rfl) ?_
      refine lv_lconst (v := 0) hx hb d_E_addFinite_18 rfl ?_
      refine W.lcmp hx hb d_E_addFinite_19 ?_
      refine lv_if_ne (tgt := 24) hx hb d_E_addFinite_20 (by decide) (fun c9 => ?_) (fun c9 => ?_)
      · replace h := hx_in c9 h
        refine lv_aload_n hx hb d_E_addFinite_24 rfl (lv_at hl 0 rfl) ?_
        refine lv_dup hx hb d_E_addFinite_25 rfl ?_
        refine va_get (D := D) (ci := 3) (v := .int (hx_ex_nonzero σ)) (C := "HalfFloats$Exact") (T := T_E) (N := 12) hx hb hts (hx_up in_E) hown hK hP (10) hx_at_E rfl 6 (by decide) (hts _ (hx_cons _ k_153)) (fun _ h9 => h9) rfl d_E_addFinite_26 ?_
        refine lv_iconst (v := 1) hx hb d_E_addFinite_29 (by decide) ?_
        refine lv_iadd hx hb d_E_addFinite_30 ?_
        refine lv_topi (fun x10 ex10 => ?_)
        replace h := hx_ns ex10 h
        clear ex10
        refine va_put (D := D) (ci := 3) (v := .int x10) (ty := .int) (C := "HalfFloats$Exact") (T := T_E) (N := 12) hx hb hts (hx_up in_E) ty_E tyok_E nm_E hown hK hP hD hS (10) hx_at_E rfl 6 (by decide) (hts _ (hx_cons _ k_153)) (fun _ h9 => h9) rfl (by decide +kernel) rfl rfl (Nat.le_of_ble_eq_true rfl) d_E_addFinite_31 (fun H locs hP hD hS => ?_)
        obtain ⟨σ11, eσ11⟩ : ∃ y : hx_S, y = (hx_ex_nonzero_s σ x10) := ⟨_, rfl⟩
        replace hP : va_P D vwCl (hx_W T3 ad σ11) H := by rw [eσ11]; exact hP
        replace hD : va_D A (hx_W T3 ad σ11) := by rw [eσ11]; exact hD
        replace h := hx_ns eσ11 h
        clear eσ11
        refine lv_aload_n hx hb d_E_addFinite_34 rfl (lv_at hl 0 rfl) ?_
        refine va_get (D := D) (ci := 3) (v := .int (hx_ex_nonzero σ11)) (C := "HalfFloats$Exact") (T := T_E) (N := 12) hx hb hts (hx_up in_E) hown hK hP (10) hx_at_E rfl 6 (by decide) (hts _ (hx_cons _ k_153)) (fun _ h9 => h9) rfl d_E_addFinite_35 ?_
        refine lv_iconst (v := 1) hx hb d_E_addFinite_38 (by decide) ?_
        refine lv_icmp_ne (tgt := 59) hx hb d_E_addFinite_39 (by decide) (fun c12 => ?_) (fun c12 => ?_)
        · replace h := hx_in c12 h
          refine lv_aload_n hx hb d_E_addFinite_59 rfl (lv_at hl 0 rfl) ?_
          refine va_get (D := D) (ci := 3) (v := .int (hx_ex_nonzero σ11)) (C := "HalfFloats$Exact") (T := T_E) (N := 12) hx hb hts (hx_up in_E) hown hK hP (10) hx_at_E rfl 6 (by decide) (hts _ (hx_cons _ k_153)) (fun _ h9 => h9) rfl d_E_addFinite_60 ?_
          refine lv_iconst (v := 2) hx hb d_E_addFinite_63 (by decide) ?_
          refine lv_icmp_ne (tgt := 91) hx hb d_E_addFinite_64 (by decide) (fun c13 => ?_) (fun c13 => ?_)
          · replace h := hx_in c13 h
            exact B_91 σ11 x6 x7 x8 _ _ ls hP hD hS (lv_sub hl [0, 1, 2, 3] rfl) h
          · replace h := hx_ip c13 h
            refine lv_aload_n hx hb d_E_addFinite_67 rfl (lv_at hl 0 rfl) ?_
            refine va_get (D := D) (ci := 3) (v := .ref (ad 11)) (C := "HalfFloats$Exact") (T := T_E) (N := 12) hx hb hts (hx_up in_E) hown hK hP (10) hx_at_E rfl 11 (by decide) (hts _ (hx_cons _ k_162)) (fun _ h9 => h9) rfl d_E_addFinite_68 ?_
            refine lv_lconst (v := 0) hx hb d_E_addFinite_71 rfl ?_
            obtain ⟨q18, eq18, h⟩ := hx_b1s h
            refine hx_wv1 (va_runS (As := [.ref (ad 11), .long (0 : Int64)]) (rest := []) ⟨hx, hb, hml, hown, hts⟩ (c_JA_fill l D T3 (ad 11) _ (hx_ex_limbs σ11) (0 : Int64) _ eq18) (va_cwS 2 hts (hx_gS hx_cons k_366 k_367 k_59 k_368) rfl rfl rfl (by decide +kernel) ⟨Nat.le_of_ble_eq_true rfl, Nat.le_of_ble_eq_true rfl⟩) (hx_preSw1 hP hK hx_at_EL) rfl rfl hl.1 rfl (lv_room (Nat.le_of_ble_eq_true rfl)) d_E_addFinite_72 ⟨Nat.zero_le _, Nat.zero_le _⟩) hP hx_at_EL hD hS hA (fun H locs hP hD hS => ?_)
            obtain ⟨σ19, eσ19⟩ : ∃ y : hx_S, y = (hx_ex_limbs_all σ11 q18) := ⟨_, rfl⟩
            replace hP : va_P D vwCl (hx_W T3 ad σ19) H := by rw [eσ19]; exact hP
            replace hD : va_D A (hx_W T3 ad σ19) := by rw [eσ19]; exact hD
            replace h := hx_ns eσ19 h
            clear eσ19
            refine lv_aload_n hx hb d_E_addFinite_75 rfl (lv_at hl 0 rfl) ?_
            refine lv_aload_n hx hb d_E_addFinite_76 rfl (lv_at hl 0 rfl) ?_
            refine va_get (D := D) (ci := 3) (v := .int (hx_ex_negative σ19)) (C := "HalfFloats$Exact") (T := T_E) (N := 12) hx hb hts (hx_up in_E) hown hK hP (10) hx_at_E rfl 7 (by decide) (hts _ (hx_cons _ k_154)) (fun _ h9 => h9) rfl d_E_addFinite_77 ?_
            refine lv_aload_n hx hb d_E_addFinite_80 rfl (lv_at hl 0 rfl) ?_
            refine va_get (D := D) (ci := 3) (v := .long (hx_ex_whole σ19)) (C := "HalfFloats$Exact") (T := T_E) (N := 12) hx hb hts (hx_up in_E) hown hK hP (10) hx_at_E rfl 8 (by decide) (hts _ (hx_cons _ k_156)) (fun _ h9 => h9) rfl d_E_addFinite_81 ?_
            refine lv_aload_n hx hb d_E_addFinite_84 rfl (lv_at hl 0 rfl) ?_
            refine va_get (D := D) (ci := 3) (v := .int (hx_ex_power σ19)) (C := "HalfFloats$Exact") (T := T_E) (N := 12) hx hb hts (hx_up in_E) hown hK hP (10) hx_at_E rfl 9 (by decide) (hts _ (hx_cons _ k_158)) (fun _ h9 => h9) rfl d_E_addFinite_85 ?_
            obtain ⟨q20, eq20, h⟩ := hx_b1s h
            refine hx_wv (va_runV (As := [.int (hx_ex_negative σ19), .long (hx_ex_whole σ19), .int (hx_ex_power σ19)]) (rest := []) ⟨hx, hb, hml, hown, hts⟩ (c_E_spread l D T3 ad _ σ19 (hx_ex_negative σ19) (hx_ex_whole σ19) (hx_ex_power σ19) _ eq20) (cwV 3 hts (hx_gV hx_cons k_369 k_371 k_5 k_53 k_372) rfl rfl rfl (by decide +kernel) ⟨Nat.le_of_ble_eq_true rfl, Nat.le_of_ble_eq_true rfl⟩) (hx_preVw (va_recv hK hP (ci := 3) (q0 := 10) rfl hx_at_E) hP hK hD) rfl rfl hl.1 rfl (lv_room (Nat.le_of_ble_eq_true rfl)) d_E_addFinite_88 ⟨Nat.zero_le _, Nat.zero_le _⟩) hD hS hA (fun H locs hP hD hS => ?_)
            exact B_91 q20 x6 x7 x8 _ _ ls hP hD hS (lv_sub hl [0, 1, 2, 3] rfl) h
        · replace h := hx_ip c12 h
          refine lv_aload_n hx hb d_E_addFinite_42 rfl (lv_at hl 0 rfl) ?_
          refine lv_iload_n hx hb d_E_addFinite_43 rfl (lv_at hl 1 rfl) ?_
          obtain ⟨g21, h⟩ := hx_gt h
          refine va_put (D := D) (ci := 3) (v := .int x6) (ty := .boolean) (C := "HalfFloats$Exact") (T := T_E) (N := 12) hx hb hts (hx_up in_E) ty_E tyok_E nm_E hown hK hP hD hS (10) hx_at_E rfl 7 (by decide) (hts _ (hx_cons _ k_154)) (fun _ h9 => h9) rfl (by decide +kernel) (hx_nb g21) (hx_fb g21) (Nat.le_of_ble_eq_true rfl) d_E_addFinite_44 (fun H locs hP hD hS => ?_)
          obtain ⟨σ22, eσ22⟩ : ∃ y : hx_S, y = (hx_ex_negative_s σ11 x6) := ⟨_, rfl⟩
          replace hP : va_P D vwCl (hx_W T3 ad σ22) H := by rw [eσ22]; exact hP
          replace hD : va_D A (hx_W T3 ad σ22) := by rw [eσ22]; exact hD
          replace h := hx_ns eσ22 h
          clear eσ22
          refine lv_aload_n hx hb d_E_addFinite_47 rfl (lv_at hl 0 rfl) ?_
          refine lv_lload_n hx hb d_E_addFinite_48 rfl (lv_at hl 2 rfl) ?_
          refine va_put (D := D) (ci := 3) (v := .long x7) (ty := .long) (C := "HalfFloats$Exact") (T := T_E) (N := 12) hx hb hts (hx_up in_E) ty_E tyok_E nm_E hown hK hP hD hS (10) hx_at_E rfl 8 (by decide) (hts _ (hx_cons _ k_156)) (fun _ h9 => h9) rfl (by decide +kernel) rfl rfl (Nat.le_of_ble_eq_true rfl) d_E_addFinite_49 (fun H locs hP hD hS => ?_)
          obtain ⟨σ23, eσ23⟩ : ∃ y : hx_S, y = (hx_ex_whole_s σ22 x7) := ⟨_, rfl⟩
          replace hP : va_P D vwCl (hx_W T3 ad σ23) H := by rw [eσ23]; exact hP
          replace hD : va_D A (hx_W T3 ad σ23) := by rw [eσ23]; exact hD
          replace h := hx_ns eσ23 h
          clear eσ23
          refine lv_aload_n hx hb d_E_addFinite_52 rfl (lv_at hl 0 rfl) ?_
          refine lv_iload hx hb d_E_addFinite_53 (lv_at hl 3 rfl) ?_
          refine va_put (D := D) (ci := 3) (v := .int x8) (ty := .int) (C := "HalfFloats$Exact") (T := T_E) (N := 12) hx hb hts (hx_up in_E) ty_E tyok_E nm_E hown hK hP hD hS (10) hx_at_E rfl 9 (by decide) (hts _ (hx_cons _ k_158)) (fun _ h9 => h9) rfl (by decide +kernel) rfl rfl (Nat.le_of_ble_eq_true rfl) d_E_addFinite_55 (fun H locs hP hD hS => ?_)
          obtain ⟨σ24, eσ24⟩ : ∃ y : hx_S, y = (hx_ex_power_s σ23 x8) := ⟨_, rfl⟩
          replace hP : va_P D vwCl (hx_W T3 ad σ24) H := by rw [eσ24]; exact hP
          replace hD : va_D A (hx_W T3 ad σ24) := by rw [eσ24]; exact hD
          replace h := hx_ns eσ24 h
          clear eσ24
          exact W.vret hx hb hr (fun t ht hW => hx_endv h ht hW hP hK hD hS) hS.2.2 d_E_addFinite_58
      · replace h := hx_ip c9 h
        exact W.vret hx hb hr (fun t ht hW => hx_endv h ht hW hP hK hD hS) hS.2.2 d_E_addFinite_23
  refine W.eq (g2 := F0 m 0 ((lg_sl [.ref (ad 10), .int x1, .long x2, .int x3] ++ List.replicate (5 - (lg_sl [.ref (ad 10), .int x1, .long x2, .int x3]).length) Slot.unset).toArray) []) (by rw [hargs, lg_entry_eq]) ?_
  have hl := lv_entry ([.ref (ad 10), .int x1, .long x2, .int x3]) (n := 5) (Nat.le_of_ble_eq_true rfl)
  generalize (lg_sl ([.ref (ad 10), .int x1, .long x2, .int x3]) ++ List.replicate (5 - (lg_sl ([.ref (ad 10), .int x1, .long x2, .int x3])).length) Slot.unset).toArray = ls at hl ⊢
  have hl : lv_has ls 5 [(0, .ref (ad 10)), (1, .int x1), (2, .long x2), (4, .int x3)] := hl
  rw [f_E_addFinite] at h
  refine lv_iload_n hx hb d_E_addFinite_0 rfl (lv_at hl 1 rfl) ?_
  refine lv_if_eq (tgt := 12) hx hb d_E_addFinite_1 (by decide) (fun c4 => ?_) (fun c4 => ?_)
  · replace h := hx_ip c4 h
    refine lv_aload_n hx hb d_E_addFinite_12 rfl (lv_at hl 0 rfl) ?_
    refine lv_iconst (v := 1) hx hb d_E_addFinite_13 (by decide) ?_
    refine va_put (D := D) (ci := 3) (v := .int (1 : Int32)) (ty := .boolean) (C := "HalfFloats$Exact") (T := T_E) (N := 12) hx hb hts (hx_up in_E) ty_E tyok_E nm_E hown hK hP hD hS (10) hx_at_E rfl 4 (by decide) (hts _ (hx_cons _ k_151)) (fun _ h9 => h9) rfl (by decide +kernel) (hx_nb (Or.inr rfl)) (hx_fb (Or.inr rfl)) (Nat.le_of_ble_eq_true rfl) d_E_addFinite_14 (fun H locs hP hD hS => ?_)
    obtain ⟨σ5, eσ5⟩ : ∃ y : hx_S, y = (hx_ex_plusSeen_s σ (1 : Int32)) := ⟨_, rfl⟩
    replace hP : va_P D vwCl (hx_W T3 ad σ5) H := by rw [eσ5]; exact hP
    replace hD : va_D A (hx_W T3 ad σ5) := by rw [eσ5]; exact hD
    replace h := hx_ns eσ5 h
    clear eσ5
    exact B_17 σ5 x1 x2 x3 _ _ ls hP hD hS (lv_sub hl [0, 1, 2, 3] rfl) h
  · replace h := hx_in c4 h
    refine lv_aload_n hx hb d_E_addFinite_4 rfl (lv_at hl 0 rfl) ?_
    refine lv_iconst (v := 1) hx hb d_E_addFinite_5 (by decide) ?_
    refine va_put (D := D) (ci := 3) (v := .int (1 : Int32)) (ty := .boolean) (C := "HalfFloats$Exact") (T := T_E) (N := 12) hx hb hts (hx_up in_E) ty_E tyok_E nm_E hown hK hP hD hS (10) hx_at_E rfl 5 (by decide) (hts _ (hx_cons _ k_152)) (fun _ h9 => h9) rfl (by decide +kernel) (hx_nb (Or.inr rfl)) (hx_fb (Or.inr rfl)) (Nat.le_of_ble_eq_true rfl) d_E_addFinite_6 (fun H locs hP hD hS => ?_)
    obtain ⟨σ25, eσ25⟩ : ∃ y : hx_S, y = (hx_ex_minusSeen_s σ (1 : Int32)) := ⟨_, rfl⟩
    replace hP : va_P D vwCl (hx_W T3 ad σ25) H := by rw [eσ25]; exact hP
    replace hD : va_D A (hx_W T3 ad σ25) := by rw [eσ25]; exact hD
    replace h := hx_ns eσ25 h
    clear eσ25
    refine lv_goto (tgt := 17) hx hb d_E_addFinite_9 (by decide) ?_
    exact B_17 σ25 x1 x2 x3 _ _ ls hP hD hS (lv_sub hl [0, 1, 2, 3] rfl) h
abbrev m_E_addValue : Room := { frames := 2, cells := 0, slots := 0, locals := 57 }
set_option maxHeartbeats 4000000 in
set_option maxRecDepth 100000 in
theorem c_E_addValue (l : Launch) (D : va_G) (T3 : hx_T3) (ad : Nat → Nat) (sz : Nat) (σ : hx_S) (k1 : Nat) (x2 : Int32) (x3 : Int32) (hk1 : k1 < 4)  (σ0 : hx_S) (h : f_E_addValue σ k1 x2 x3 = some σ0) : hx_Wv l D (hx_ty T3) y_E_addValue w_E_addValue m_E_addValue [.ref (ad 10), .ref (ad (2 + k1)), .int x2, .int x3] sz (hx_W T3 ad σ) (hx_W T3 ad σ0) := by
  refine Met.ofW (cc := b_E_addValue) (maxL := 6) (ret := none) (by decide) rfl ?_
  intro p e s m args below meth c s₁ B hml hv
  obtain ⟨hargs, hsz, hP, hK, hD0⟩ := hv
  have hx := B.exec
  have hb := B.bytes
  have hr := B.returns
  have hts := atoms_spec (ws := w_E_addValue) B.pre
  have hown : s.vm.findClass "HalfFloats$Exact" = some m.cls := findClass_of_methodNamed B.named
  have hlocks := B.notSynchronized
  subst hsz
  have hD := hD0.self (sz := s.heap.size)
  generalize hAe : va_A (hx_W T3 ad σ) s.heap.size = A at hD ⊢
  have hA : ∀ q : Nat, s.heap.size ≤ q → A q := fun q h => by rw [← hAe]; exact Or.inr h
  have hS : va_S A s.heap s.heap [] := va_S.rf
  have B_21 : ∀ (σ : hx_S) (k7 : Nat) (x8 : Int32) (x9 : Int32) (x10 : Int32) (H : Heap) (locs : List Loc) (ls : Array Slot), va_P D vwCl (hx_W T3 ad σ) H → va_D A (hx_W T3 ad σ) → va_S A s.heap H locs → k7 < 4 → lv_has ls 6 [(0, .ref (ad 10)), (1, .ref (ad (2 + k7))), (2, .int x8), (4, .int x9)] → f_E_addValue_21 σ k7 x8 x9 x10 = some σ0 → W p l e (headSpec w_E_addValue m_E_addValue).room s m args below meth c H locs 0 0 (MQ below (hx_Qv D (hx_ty T3) A (hx_W T3 ad σ0)) args s 0 0 A) (F0 m 21 ls [.int x10]) := by
      intro σ k7 x8 x9 x10 H locs ls hP hD hS hk7 hl h
      rw [f_E_addValue_21] at h
      refine lv_istore (lv' := [(5, .int x10), (0, .ref (ad 10)), (1, .ref (ad (2 + k7))), (2, .int x8), (4, .int x9)]) hx hb d_E_addValue_21 hl (by decide) rfl (fun ls hl => ?_)
      refine lv_iload hx hb d_E_addValue_23 (lv_at hl 4 rfl) ?_
      refine lv_iconst (v := 4) hx hb d_E_addValue_25 (by decide) ?_
      refine lv_icmp_ne (tgt := 37) hx hb d_E_addValue_26 (by decide) (fun c11 => ?_) (fun c11 => ?_)
      · replace h := hx_in c11 h
        refine lv_iload hx hb d_E_addValue_37 (lv_at hl 4 rfl) ?_
        refine lv_iconst (v := 3) hx hb d_E_addValue_39 (by decide) ?_
        refine lv_icmp_ne (tgt := 52) hx hb d_E_addValue_40 (by decide) (fun c12 => ?_) (fun c12 => ?_)
        · replace h := hx_in c12 h
          refine lv_aload_n hx hb d_E_addValue_52 rfl (lv_at hl 1 rfl) ?_
          refine lv_iload hx hb d_E_addValue_53 (lv_at hl 0 rfl) ?_
          refine lv_aload_n hx hb d_E_addValue_55 rfl (lv_at hl 2 rfl) ?_
          refine lv_iload_n hx hb d_E_addValue_56 rfl (lv_at hl 3 rfl) ?_
          obtain ⟨r13, er13, h⟩ := hx_b1s h
          refine hx_rd (va_runV (As := [.int x8]) (rest := [.int x10, .ref (ad 10)]) ⟨hx, hb, hml, hown, hts⟩ (c_F_wholeOf l D T3 (ad (2 + k7)) (hx_fm σ k7) x8 _ er13) (cwV 1 hts (hx_gV hx_cons k_360 k_274 k_275 k_51 k_276) rfl rfl rfl (by decide +kernel) ⟨Nat.le_of_ble_eq_true rfl, Nat.le_of_ble_eq_true rfl⟩) (hx_preV (va_recv hK hP (ci := 1) (q0 := 2 + k7) rfl (hx_at_F hk7)) (hx_one hP (hx_at_F hk7)) hK) rfl rfl hl.1 rfl (lv_room (Nat.le_of_ble_eq_true rfl)) d_E_addValue_57 ⟨Nat.zero_le _, Nat.zero_le _⟩) ?_
          refine lv_aload_n hx hb d_E_addValue_60 rfl (lv_at hl 2 rfl) ?_
          refine lv_iload_n hx hb d_E_addValue_61 rfl (lv_at hl 3 rfl) ?_
          obtain ⟨r14, er14, h⟩ := hx_b1s h
          refine hx_rd (va_runV (As := [.int x8]) (rest := [.long r13, .int x10, .ref (ad 10)]) ⟨hx, hb, hml, hown, hts⟩ (c_F_powerOf l D T3 (ad (2 + k7)) (hx_fm σ k7) x8 _ er14) (cwV 1 hts (hx_gV hx_cons k_361 k_278 k_279 k_51 k_280) rfl rfl rfl (by decide +kernel) ⟨Nat.le_of_ble_eq_true rfl, Nat.le_of_ble_eq_true rfl⟩) (hx_preV (va_recv hK hP (ci := 1) (q0 := 2 + k7) rfl (hx_at_F hk7)) (hx_one hP (hx_at_F hk7)) hK) rfl rfl hl.1 rfl (lv_room (Nat.le_of_ble_eq_true rfl)) d_E_addValue_62 ⟨Nat.zero_le _, Nat.zero_le _⟩) ?_
          obtain ⟨q15, eq15, h⟩ := hx_b1s h
          refine hx_wv (va_runV (As := [.int x10, .long r13, .int r14]) (rest := []) ⟨hx, hb, hml, hown, hts⟩ (c_E_addFinite l D T3 ad _ σ x10 r13 r14 _ eq15) (cwV 3 hts (hx_gV hx_cons k_362 k_364 k_4 k_53 k_365) rfl rfl rfl (by decide +kernel) ⟨Nat.le_of_ble_eq_true rfl, Nat.le_of_ble_eq_true rfl⟩) (hx_preVw (va_recv hK hP (ci := 3) (q0 := 10) rfl hx_at_E) hP hK hD) rfl rfl hl.1 rfl (lv_room (Nat.le_of_ble_eq_true rfl)) d_E_addValue_65 ⟨Nat.zero_le _, Nat.zero_le _⟩) hD hS hA (fun H locs hP hD hS => ?_)
          exact W.vret hx hb hr (fun t ht hW => hx_endv h ht hW hP hK hD hS) hS.2.2 d_E_addValue_68
        · replace h := hx_ip c12 h
          refine lv_aload_n hx hb d_E_addValue_43 rfl (lv_at hl 1 rfl) ?_
          refine lv_iload hx hb d_E_addValue_44 (lv_at hl 0 rfl) ?_
          obtain ⟨q16, eq16, h⟩ := hx_b1s h
          refine hx_wv (va_runV (As := [.int x10]) (rest := []) ⟨hx, hb, hml, hown, hts⟩ (c_E_noteInfinite l D T3 ad _ σ x10 _ eq16) (cwV 1 hts (hx_gV hx_cons k_375 k_377 k_6 k_53 k_378) rfl rfl rfl (by decide +kernel) ⟨Nat.le_of_ble_eq_true rfl, Nat.le_of_ble_eq_true rfl⟩) (hx_preVw (va_recv hK hP (ci := 3) (q0 := 10) rfl hx_at_E) hP hK hD) rfl rfl hl.1 rfl (lv_room (Nat.le_of_ble_eq_true rfl)) d_E_addValue_46 ⟨Nat.zero_le _, Nat.zero_le _⟩) hD hS hA (fun H locs hP hD hS => ?_)
          refine lv_goto (tgt := 68) hx hb d_E_addValue_49 (by decide) ?_
          exact W.vret hx hb hr (fun t ht hW => hx_endv h ht hW hP hK hD hS) hS.2.2 d_E_addValue_68
      · replace h := hx_ip c11 h
        refine lv_aload_n hx hb d_E_addValue_29 rfl (lv_at hl 1 rfl) ?_
        refine lv_iconst (v := 1) hx hb d_E_addValue_30 (by decide) ?_
        refine va_put (D := D) (ci := 3) (v := .int (1 : Int32)) (ty := .boolean) (C := "HalfFloats$Exact") (T := T_E) (N := 12) hx hb hts (hx_up in_E) ty_E tyok_E nm_E hown hK hP hD hS (10) hx_at_E rfl 0 (by decide) (hts _ (hx_cons _ k_142)) (fun _ h9 => h9) rfl (by decide +kernel) (hx_nb (Or.inr rfl)) (hx_fb (Or.inr rfl)) (Nat.le_of_ble_eq_true rfl) d_E_addValue_31 (fun H locs hP hD hS => ?_)
        obtain ⟨σ17, eσ17⟩ : ∃ y : hx_S, y = (hx_ex_hasNan_s σ (1 : Int32)) := ⟨_, rfl⟩
        replace hP : va_P D vwCl (hx_W T3 ad σ17) H := by rw [eσ17]; exact hP
        replace hD : va_D A (hx_W T3 ad σ17) := by rw [eσ17]; exact hD
        replace h := hx_ns eσ17 h
        clear eσ17
        refine lv_goto (tgt := 68) hx hb d_E_addValue_34 (by decide) ?_
        exact W.vret hx hb hr (fun t ht hW => hx_endv h ht hW hP hK hD hS) hS.2.2 d_E_addValue_68
  refine W.eq (g2 := F0 m 0 ((lg_sl [.ref (ad 10), .ref (ad (2 + k1)), .int x2, .int x3] ++ List.replicate (6 - (lg_sl [.ref (ad 10), .ref (ad (2 + k1)), .int x2, .int x3]).length) Slot.unset).toArray) []) (by rw [hargs, lg_entry_eq]) ?_
  have hl := lv_entry ([.ref (ad 10), .ref (ad (2 + k1)), .int x2, .int x3]) (n := 6) (Nat.le_of_ble_eq_true rfl)
  generalize (lg_sl ([.ref (ad 10), .ref (ad (2 + k1)), .int x2, .int x3]) ++ List.replicate (6 - (lg_sl ([.ref (ad 10), .ref (ad (2 + k1)), .int x2, .int x3])).length) Slot.unset).toArray = ls at hl ⊢
  have hl : lv_has ls 6 [(0, .ref (ad 10)), (1, .ref (ad (2 + k1))), (2, .int x2), (3, .int x3)] := hl
  rw [f_E_addValue] at h
  refine lv_aload_n hx hb d_E_addValue_0 rfl (lv_at hl 1 rfl) ?_
  refine lv_iload_n hx hb d_E_addValue_1 rfl (lv_at hl 2 rfl) ?_
  obtain ⟨r4, er4, h⟩ := hx_b1s h
  refine hx_rd (va_runV (As := [.int x2]) (rest := []) ⟨hx, hb, hml, hown, hts⟩ (c_F_sortOf l D T3 (ad (2 + k1)) (hx_fm σ k1) x2 _ er4) (cwV 1 hts (hx_gV hx_cons k_358 k_262 k_263 k_51 k_264) rfl rfl rfl (by decide +kernel) ⟨Nat.le_of_ble_eq_true rfl, Nat.le_of_ble_eq_true rfl⟩) (hx_preV (va_recv hK hP (ci := 1) (q0 := 2 + k1) rfl (hx_at_F hk1)) (hx_one hP (hx_at_F hk1)) hK) rfl rfl hl.1 rfl (lv_room (Nat.le_of_ble_eq_true rfl)) d_E_addValue_2 ⟨Nat.zero_le _, Nat.zero_le _⟩) ?_
  refine lv_istore (lv' := [(4, .int r4), (0, .ref (ad 10)), (1, .ref (ad (2 + k1))), (2, .int x2), (3, .int x3)]) hx hb d_E_addValue_5 hl (by decide) rfl (fun ls hl => ?_)
  refine lv_aload_n hx hb d_E_addValue_7 rfl (lv_at hl 2 rfl) ?_
  refine lv_iload_n hx hb d_E_addValue_8 rfl (lv_at hl 3 rfl) ?_
  obtain ⟨r5, er5, h⟩ := hx_b1s h
  refine hx_rd (va_runV (As := [.int x2]) (rest := []) ⟨hx, hb, hml, hown, hts⟩ (c_F_isNegative l D T3 (ad (2 + k1)) (hx_fm σ k1) x2 _ er5) (cwV 1 hts (hx_gV hx_cons k_359 k_270 k_271 k_51 k_272) rfl rfl rfl (by decide +kernel) ⟨Nat.le_of_ble_eq_true rfl, Nat.le_of_ble_eq_true rfl⟩) (hx_preV (va_recv hK hP (ci := 1) (q0 := 2 + k1) rfl (hx_at_F hk1)) (hx_one hP (hx_at_F hk1)) hK) rfl rfl hl.1 rfl (lv_room (Nat.le_of_ble_eq_true rfl)) d_E_addValue_9 ⟨Nat.zero_le _, Nat.zero_le _⟩) ?_
  refine lv_iload_n hx hb d_E_addValue_12 rfl (lv_at hl 4 rfl) ?_
  refine lv_icmp_eq (tgt := 20) hx hb d_E_addValue_13 (by decide) (fun c6 => ?_) (fun c6 => ?_)
  · replace h := hx_ip c6 h
    refine lv_iconst (v := 0) hx hb d_E_addValue_20 (by decide) ?_
    exact B_21 σ k1 x2 r4 (0 : Int32) _ _ ls hP hD hS hk1 (lv_sub hl [1, 2, 3, 0] rfl) h
  · replace h := hx_in c6 h
    refine lv_iconst (v := 1) hx hb d_E_addValue_16 (by decide) ?_
    refine lv_goto (tgt := 21) hx hb d_E_addValue_17 (by decide) ?_
    exact B_21 σ k1 x2 r4 (1 : Int32) _ _ ls hP hD hS hk1 (lv_sub hl [1, 2, 3, 0] rfl) h
abbrev m_E_addProduct : Room := { frames := 2, cells := 0, slots := 0, locals := 57 }
set_option maxHeartbeats 4000000 in
set_option maxRecDepth 100000 in
theorem c_E_addProduct (l : Launch) (D : va_G) (T3 : hx_T3) (ad : Nat → Nat) (sz : Nat) (σ : hx_S) (k1 : Nat) (x2 : Int32) (k3 : Nat) (x4 : Int32) (hk1 : k1 < 4) (hk3 : k3 < 4)  (σ0 : hx_S) (h : f_E_addProduct σ k1 x2 k3 x4 = some σ0) : hx_Wv l D (hx_ty T3) y_E_addProduct w_E_addProduct m_E_addProduct [.ref (ad 10), .ref (ad (2 + k1)), .int x2, .ref (ad (2 + k3)), .int x4] sz (hx_W T3 ad σ) (hx_W T3 ad σ0) := by
  refine Met.ofW (cc := b_E_addProduct) (maxL := 8) (ret := none) (by decide) rfl ?_
  intro p e s m args below meth c s₁ B hml hv
  obtain ⟨hargs, hsz, hP, hK, hD0⟩ := hv
  have hx := B.exec
  have hb := B.bytes
  have hr := B.returns
  have hts := atoms_spec (ws := w_E_addProduct) B.pre
  have hown : s.vm.findClass "HalfFloats$Exact" = some m.cls := findClass_of_methodNamed B.named
  have hlocks := B.notSynchronized
  subst hsz
  have hD := hD0.self (sz := s.heap.size)
  generalize hAe : va_A (hx_W T3 ad σ) s.heap.size = A at hD ⊢
  have hA : ∀ q : Nat, s.heap.size ≤ q → A q := fun q h => by rw [← hAe]; exact Or.inr h
  have hS : va_S A s.heap s.heap [] := va_S.rf
  have B_48 : ∀ (σ : hx_S) (H : Heap) (locs : List Loc) (ls : Array Slot), va_P D vwCl (hx_W T3 ad σ) H → va_D A (hx_W T3 ad σ) → va_S A s.heap H locs → lv_has ls 8 [(0, .ref (ad 10))] → f_E_addProduct_48 σ  = some σ0 → W p l e (headSpec w_E_addProduct m_E_addProduct).room s m args below meth c H locs 0 0 (MQ below (hx_Qv D (hx_ty T3) A (hx_W T3 ad σ0)) args s 0 0 A) (F0 m 48 ls []) := by
      intro σ H locs ls hP hD hS hl h
      rw [f_E_addProduct_48] at h
      refine lv_aload_n hx hb d_E_addProduct_48 rfl (lv_at hl 0 rfl) ?_
      refine lv_iconst (v := 1) hx hb d_E_addProduct_49 (by decide) ?_
      refine va_put (D := D) (ci := 3) (v := .int (1 : Int32)) (ty := .boolean) (C := "HalfFloats$Exact") (T := T_E) (N := 12) hx hb hts (hx_up in_E) ty_E tyok_E nm_E hown hK hP hD hS (10) hx_at_E rfl 0 (by decide) (hts _ (hx_cons _ k_142)) (fun _ h9 => h9) rfl (by decide +kernel) (hx_nb (Or.inr rfl)) (hx_fb (Or.inr rfl)) (Nat.le_of_ble_eq_true rfl) d_E_addProduct_50 (fun H locs hP hD hS => ?_)
      obtain ⟨σ18, eσ18⟩ : ∃ y : hx_S, y = (hx_ex_hasNan_s σ (1 : Int32)) := ⟨_, rfl⟩
      replace hP : va_P D vwCl (hx_W T3 ad σ18) H := by rw [eσ18]; exact hP
      replace hD : va_D A (hx_W T3 ad σ18) := by rw [eσ18]; exact hD
      replace h := hx_ns eσ18 h
      clear eσ18
      refine lv_goto (tgt := 125) hx hb d_E_addProduct_53 (by decide) ?_
      exact W.vret hx hb hr (fun t ht hW => hx_endv h ht hW hP hK hD hS) hS.2.2 d_E_addProduct_125
  have B_111 : ∀ (σ : hx_S) (H : Heap) (locs : List Loc) (ls : Array Slot), va_P D vwCl (hx_W T3 ad σ) H → va_D A (hx_W T3 ad σ) → va_S A s.heap H locs → lv_has ls 8 [(0, .ref (ad 10))] → f_E_addProduct_111 σ  = some σ0 → W p l e (headSpec w_E_addProduct m_E_addProduct).room s m args below meth c H locs 0 0 (MQ below (hx_Qv D (hx_ty T3) A (hx_W T3 ad σ0)) args s 0 0 A) (F0 m 111 ls []) := by
      intro σ H locs ls hP hD hS hl h
      rw [f_E_addProduct_111] at h
      refine lv_aload_n hx hb d_E_addProduct_111 rfl (lv_at hl 0 rfl) ?_
      refine lv_iconst (v := 1) hx hb d_E_addProduct_112 (by decide) ?_
      refine va_put (D := D) (ci := 3) (v := .int (1 : Int32)) (ty := .boolean) (C := "HalfFloats$Exact") (T := T_E) (N := 12) hx hb hts (hx_up in_E) ty_E tyok_E nm_E hown hK hP hD hS (10) hx_at_E rfl 1 (by decide) (hts _ (hx_cons _ k_145)) (fun _ h9 => h9) rfl (by decide +kernel) (hx_nb (Or.inr rfl)) (hx_fb (Or.inr rfl)) (Nat.le_of_ble_eq_true rfl) d_E_addProduct_113 (fun H locs hP hD hS => ?_)
      obtain ⟨σ25, eσ25⟩ : ∃ y : hx_S, y = (hx_ex_zeroTimesInfinite_s σ (1 : Int32)) := ⟨_, rfl⟩
      replace hP : va_P D vwCl (hx_W T3 ad σ25) H := by rw [eσ25]; exact hP
      replace hD : va_D A (hx_W T3 ad σ25) := by rw [eσ25]; exact hD
      replace h := hx_ns eσ25 h
      clear eσ25
      refine lv_goto (tgt := 125) hx hb d_E_addProduct_116 (by decide) ?_
      exact W.vret hx hb hr (fun t ht hW => hx_endv h ht hW hP hK hD hS) hS.2.2 d_E_addProduct_125
  have B_101 : ∀ (σ : hx_S) (x21 : Int32) (x22 : Int32) (x23 : Int32) (H : Heap) (locs : List Loc) (ls : Array Slot), va_P D vwCl (hx_W T3 ad σ) H → va_D A (hx_W T3 ad σ) → va_S A s.heap H locs → lv_has ls 8 [(0, .ref (ad 10)), (5, .int x21), (6, .int x22), (7, .int x23)] → f_E_addProduct_101 σ x21 x22 x23 = some σ0 → W p l e (headSpec w_E_addProduct m_E_addProduct).room s m args below meth c H locs 0 0 (MQ below (hx_Qv D (hx_ty T3) A (hx_W T3 ad σ0)) args s 0 0 A) (F0 m 101 ls []) := by
      intro σ x21 x22 x23 H locs ls hP hD hS hl h
      rw [f_E_addProduct_101] at h
      refine lv_iload hx hb d_E_addProduct_101 (lv_at hl 1 rfl) ?_
      refine lv_if_eq (tgt := 111) hx hb d_E_addProduct_103 (by decide) (fun c24 => ?_) (fun c24 => ?_)
      · replace h := hx_ip c24 h
        exact B_111 σ _ _ ls hP hD hS (lv_sub hl [0] rfl) h
      · replace h := hx_in c24 h
        refine lv_iload hx hb d_E_addProduct_106 (lv_at hl 2 rfl) ?_
        refine lv_if_ne (tgt := 119) hx hb d_E_addProduct_108 (by decide) (fun c26 => ?_) (fun c26 => ?_)
        · replace h := hx_in c26 h
          refine lv_aload_n hx hb d_E_addProduct_119 rfl (lv_at hl 0 rfl) ?_
          refine lv_iload hx hb d_E_addProduct_120 (lv_at hl 3 rfl) ?_
          obtain ⟨q27, eq27, h⟩ := hx_b1s h
          refine hx_wv (va_runV (As := [.int x23]) (rest := []) ⟨hx, hb, hml, hown, hts⟩ (c_E_noteInfinite l D T3 ad _ σ x23 _ eq27) (cwV 1 hts (hx_gV hx_cons k_375 k_377 k_6 k_53 k_378) rfl rfl rfl (by decide +kernel) ⟨Nat.le_of_ble_eq_true rfl, Nat.le_of_ble_eq_true rfl⟩) (hx_preVw (va_recv hK hP (ci := 3) (q0 := 10) rfl hx_at_E) hP hK hD) rfl rfl hl.1 rfl (lv_room (Nat.le_of_ble_eq_true rfl)) d_E_addProduct_122 ⟨Nat.zero_le _, Nat.zero_le _⟩) hD hS hA (fun H locs hP hD hS => ?_)
          exact W.vret hx hb hr (fun t ht hW => hx_endv h ht hW hP hK hD hS) hS.2.2 d_E_addProduct_125
        · replace h := hx_ip c26 h
          exact B_111 σ _ _ ls hP hD hS (lv_sub hl [0] rfl) h
  have B_34 : ∀ (σ : hx_S) (k10 : Nat) (x11 : Int32) (k12 : Nat) (x13 : Int32) (x14 : Int32) (x15 : Int32) (x16 : Int32) (H : Heap) (locs : List Loc) (ls : Array Slot), va_P D vwCl (hx_W T3 ad σ) H → va_D A (hx_W T3 ad σ) → va_S A s.heap H locs → k10 < 4 → k12 < 4 → lv_has ls 8 [(0, .ref (ad 10)), (1, .ref (ad (2 + k10))), (2, .int x11), (3, .ref (ad (2 + k12))), (4, .int x13), (5, .int x14), (6, .int x15)] → f_E_addProduct_34 σ k10 x11 k12 x13 x14 x15 x16 = some σ0 → W p l e (headSpec w_E_addProduct m_E_addProduct).room s m args below meth c H locs 0 0 (MQ below (hx_Qv D (hx_ty T3) A (hx_W T3 ad σ0)) args s 0 0 A) (F0 m 34 ls [.int x16]) := by
      intro σ k10 x11 k12 x13 x14 x15 x16 H locs ls hP hD hS hk10 hk12 hl h
      rw [f_E_addProduct_34] at h
      refine lv_istore (lv' := [(7, .int x16), (0, .ref (ad 10)), (1, .ref (ad (2 + k10))), (2, .int x11), (3, .ref (ad (2 + k12))), (4, .int x13), (5, .int x14), (6, .int x15)]) hx hb d_E_addProduct_34 hl (by decide) rfl (fun ls hl => ?_)
      refine lv_iload hx hb d_E_addProduct_36 (lv_at hl 6 rfl) ?_
      refine lv_iconst (v := 4) hx hb d_E_addProduct_38 (by decide) ?_
      refine lv_icmp_eq (tgt := 48) hx hb d_E_addProduct_39 (by decide) (fun c17 => ?_) (fun c17 => ?_)
      · replace h := hx_ip c17 h
        exact B_48 σ _ _ ls hP hD hS (lv_sub hl [1] rfl) h
      · replace h := hx_in c17 h
        refine lv_iload hx hb d_E_addProduct_42 (lv_at hl 7 rfl) ?_
        refine lv_iconst (v := 4) hx hb d_E_addProduct_44 (by decide) ?_
        refine lv_icmp_ne (tgt := 56) hx hb d_E_addProduct_45 (by decide) (fun c19 => ?_) (fun c19 => ?_)
        · replace h := hx_in c19 h
          refine lv_iload hx hb d_E_addProduct_56 (lv_at hl 6 rfl) ?_
          refine lv_iconst (v := 3) hx hb d_E_addProduct_58 (by decide) ?_
          refine lv_icmp_eq (tgt := 101) hx hb d_E_addProduct_59 (by decide) (fun c20 => ?_) (fun c20 => ?_)
          · replace h := hx_ip c20 h
            exact B_101 σ x14 x15 x16 _ _ ls hP hD hS (lv_sub hl [1, 6, 7, 0] rfl) h
          · replace h := hx_in c20 h
            refine lv_iload hx hb d_E_addProduct_62 (lv_at hl 7 rfl) ?_
            refine lv_iconst (v := 3) hx hb d_E_addProduct_64 (by decide) ?_
            refine lv_icmp_eq (tgt := 101) hx hb d_E_addProduct_65 (by decide) (fun c28 => ?_) (fun c28 => ?_)
            · replace h := hx_ip c28 h
              exact B_101 σ x14 x15 x16 _ _ ls hP hD hS (lv_sub hl [1, 6, 7, 0] rfl) h
            · replace h := hx_in c28 h
              refine lv_aload_n hx hb d_E_addProduct_68 rfl (lv_at hl 1 rfl) ?_
              refine lv_iload hx hb d_E_addProduct_69 (lv_at hl 0 rfl) ?_
              refine lv_aload_n hx hb d_E_addProduct_71 rfl (lv_at hl 2 rfl) ?_
              refine lv_iload_n hx hb d_E_addProduct_72 rfl (lv_at hl 3 rfl) ?_
              obtain ⟨r29, er29, h⟩ := hx_b1s h
              refine hx_rd (va_runV (As := [.int x11]) (rest := [.int x16, .ref (ad 10)]) ⟨hx, hb, hml, hown, hts⟩ (c_F_wholeOf l D T3 (ad (2 + k10)) (hx_fm σ k10) x11 _ er29) (cwV 1 hts (hx_gV hx_cons k_360 k_274 k_275 k_51 k_276) rfl rfl rfl (by decide +kernel) ⟨Nat.le_of_ble_eq_true rfl, Nat.le_of_ble_eq_true rfl⟩) (hx_preV (va_recv hK hP (ci := 1) (q0 := 2 + k10) rfl (hx_at_F hk10)) (hx_one hP (hx_at_F hk10)) hK) rfl rfl hl.1 rfl (lv_room (Nat.le_of_ble_eq_true rfl)) d_E_addProduct_73 ⟨Nat.zero_le _, Nat.zero_le _⟩) ?_
              refine lv_aload_n hx hb d_E_addProduct_76 rfl (lv_at hl 4 rfl) ?_
              refine lv_iload hx hb d_E_addProduct_77 (lv_at hl 5 rfl) ?_
              obtain ⟨r30, er30, h⟩ := hx_b1s h
              refine hx_rd (va_runV (As := [.int x13]) (rest := [.long r29, .int x16, .ref (ad 10)]) ⟨hx, hb, hml, hown, hts⟩ (c_F_wholeOf l D T3 (ad (2 + k12)) (hx_fm σ k12) x13 _ er30) (cwV 1 hts (hx_gV hx_cons k_360 k_274 k_275 k_51 k_276) rfl rfl rfl (by decide +kernel) ⟨Nat.le_of_ble_eq_true rfl, Nat.le_of_ble_eq_true rfl⟩) (hx_preV (va_recv hK hP (ci := 1) (q0 := 2 + k12) rfl (hx_at_F hk12)) (hx_one hP (hx_at_F hk12)) hK) rfl rfl hl.1 rfl (lv_room (Nat.le_of_ble_eq_true rfl)) d_E_addProduct_79 ⟨Nat.zero_le _, Nat.zero_le _⟩) ?_
              refine lv_lmul hx hb d_E_addProduct_82 ?_
              refine lv_aload_n hx hb d_E_addProduct_83 rfl (lv_at hl 2 rfl) ?_
              refine lv_iload_n hx hb d_E_addProduct_84 rfl (lv_at hl 3 rfl) ?_
              obtain ⟨r31, er31, h⟩ := hx_b1s h
              refine hx_rd (va_runV (As := [.int x11]) (rest := [.long (r29 * r30), .int x16, .ref (ad 10)]) ⟨hx, hb, hml, hown, hts⟩ (c_F_powerOf l D T3 (ad (2 + k10)) (hx_fm σ k10) x11 _ er31) (cwV 1 hts (hx_gV hx_cons k_361 k_278 k_279 k_51 k_280) rfl rfl rfl (by decide +kernel) ⟨Nat.le_of_ble_eq_true rfl, Nat.le_of_ble_eq_true rfl⟩) (hx_preV (va_recv hK hP (ci := 1) (q0 := 2 + k10) rfl (hx_at_F hk10)) (hx_one hP (hx_at_F hk10)) hK) rfl rfl hl.1 rfl (lv_room (Nat.le_of_ble_eq_true rfl)) d_E_addProduct_85 ⟨Nat.zero_le _, Nat.zero_le _⟩) ?_
              refine lv_aload_n hx hb d_E_addProduct_88 rfl (lv_at hl 4 rfl) ?_
              refine lv_iload hx hb d_E_addProduct_89 (lv_at hl 5 rfl) ?_
              obtain ⟨r32, er32, h⟩ := hx_b1s h
              refine hx_rd (va_runV (As := [.int x13]) (rest := [.int r31, .long (r29 * r30), .int x16, .ref (ad 10)]) ⟨hx, hb, hml, hown, hts⟩ (c_F_powerOf l D T3 (ad (2 + k12)) (hx_fm σ k12) x13 _ er32) (cwV 1 hts (hx_gV hx_cons k_361 k_278 k_279 k_51 k_280) rfl rfl rfl (by decide +kernel) ⟨Nat.le_of_ble_eq_true rfl, Nat.le_of_ble_eq_true rfl⟩) (hx_preV (va_recv hK hP (ci := 1) (q0 := 2 + k12) rfl (hx_at_F hk12)) (hx_one hP (hx_at_F hk12)) hK) rfl rfl hl.1 rfl (lv_room (Nat.le_of_ble_eq_true rfl)) d_E_addProduct_91 ⟨Nat.zero_le _, Nat.zero_le _⟩) ?_
              refine lv_iadd hx hb d_E_addProduct_94 ?_
              obtain ⟨q33, eq33, h⟩ := hx_b1s h
              refine hx_wv (va_runV (As := [.int x16, .long (r29 * r30), .int (r31 + r32)]) (rest := []) ⟨hx, hb, hml, hown, hts⟩ (c_E_addFinite l D T3 ad _ σ x16 (r29 * r30) (r31 + r32) _ eq33) (cwV 3 hts (hx_gV hx_cons k_362 k_364 k_4 k_53 k_365) rfl rfl rfl (by decide +kernel) ⟨Nat.le_of_ble_eq_true rfl, Nat.le_of_ble_eq_true rfl⟩) (hx_preVw (va_recv hK hP (ci := 3) (q0 := 10) rfl hx_at_E) hP hK hD) rfl rfl hl.1 rfl (lv_room (Nat.le_of_ble_eq_true rfl)) d_E_addProduct_95 ⟨Nat.zero_le _, Nat.zero_le _⟩) hD hS hA (fun H locs hP hD hS => ?_)
              refine lv_goto (tgt := 125) hx hb d_E_addProduct_98 (by decide) ?_
              exact W.vret hx hb hr (fun t ht hW => hx_endv h ht hW hP hK hD hS) hS.2.2 d_E_addProduct_125
        · replace h := hx_ip c19 h
          exact B_48 σ _ _ ls hP hD hS (lv_sub hl [1] rfl) h
  refine W.eq (g2 := F0 m 0 ((lg_sl [.ref (ad 10), .ref (ad (2 + k1)), .int x2, .ref (ad (2 + k3)), .int x4] ++ List.replicate (8 - (lg_sl [.ref (ad 10), .ref (ad (2 + k1)), .int x2, .ref (ad (2 + k3)), .int x4]).length) Slot.unset).toArray) []) (by rw [hargs, lg_entry_eq]) ?_
  have hl := lv_entry ([.ref (ad 10), .ref (ad (2 + k1)), .int x2, .ref (ad (2 + k3)), .int x4]) (n := 8) (Nat.le_of_ble_eq_true rfl)
  generalize (lg_sl ([.ref (ad 10), .ref (ad (2 + k1)), .int x2, .ref (ad (2 + k3)), .int x4]) ++ List.replicate (8 - (lg_sl ([.ref (ad 10), .ref (ad (2 + k1)), .int x2, .ref (ad (2 + k3)), .int x4])).length) Slot.unset).toArray = ls at hl ⊢
  have hl : lv_has ls 8 [(0, .ref (ad 10)), (1, .ref (ad (2 + k1))), (2, .int x2), (3, .ref (ad (2 + k3))), (4, .int x4)] := hl
  rw [f_E_addProduct] at h
  refine lv_aload_n hx hb d_E_addProduct_0 rfl (lv_at hl 1 rfl) ?_
  refine lv_iload_n hx hb d_E_addProduct_1 rfl (lv_at hl 2 rfl) ?_
  obtain ⟨r5, er5, h⟩ := hx_b1s h
  refine hx_rd (va_runV (As := [.int x2]) (rest := []) ⟨hx, hb, hml, hown, hts⟩ (c_F_sortOf l D T3 (ad (2 + k1)) (hx_fm σ k1) x2 _ er5) (cwV 1 hts (hx_gV hx_cons k_358 k_262 k_263 k_51 k_264) rfl rfl rfl (by decide +kernel) ⟨Nat.le_of_ble_eq_true rfl, Nat.le_of_ble_eq_true rfl⟩) (hx_preV (va_recv hK hP (ci := 1) (q0 := 2 + k1) rfl (hx_at_F hk1)) (hx_one hP (hx_at_F hk1)) hK) rfl rfl hl.1 rfl (lv_room (Nat.le_of_ble_eq_true rfl)) d_E_addProduct_2 ⟨Nat.zero_le _, Nat.zero_le _⟩) ?_
  refine lv_istore (lv' := [(5, .int r5), (0, .ref (ad 10)), (1, .ref (ad (2 + k1))), (2, .int x2), (3, .ref (ad (2 + k3))), (4, .int x4)]) hx hb d_E_addProduct_5 hl (by decide) rfl (fun ls hl => ?_)
  refine lv_aload_n hx hb d_E_addProduct_7 rfl (lv_at hl 4 rfl) ?_
  refine lv_iload hx hb d_E_addProduct_8 (lv_at hl 5 rfl) ?_
  obtain ⟨r6, er6, h⟩ := hx_b1s h
  refine hx_rd (va_runV (As := [.int x4]) (rest := []) ⟨hx, hb, hml, hown, hts⟩ (c_F_sortOf l D T3 (ad (2 + k3)) (hx_fm σ k3) x4 _ er6) (cwV 1 hts (hx_gV hx_cons k_358 k_262 k_263 k_51 k_264) rfl rfl rfl (by decide +kernel) ⟨Nat.le_of_ble_eq_true rfl, Nat.le_of_ble_eq_true rfl⟩) (hx_preV (va_recv hK hP (ci := 1) (q0 := 2 + k3) rfl (hx_at_F hk3)) (hx_one hP (hx_at_F hk3)) hK) rfl rfl hl.1 rfl (lv_room (Nat.le_of_ble_eq_true rfl)) d_E_addProduct_10 ⟨Nat.zero_le _, Nat.zero_le _⟩) ?_
  refine lv_istore (lv' := [(6, .int r6), (5, .int r5), (0, .ref (ad 10)), (1, .ref (ad (2 + k1))), (2, .int x2), (3, .ref (ad (2 + k3))), (4, .int x4)]) hx hb d_E_addProduct_13 hl (by decide) rfl (fun ls hl => ?_)
  refine lv_aload_n hx hb d_E_addProduct_15 rfl (lv_at hl 3 rfl) ?_
  refine lv_iload_n hx hb d_E_addProduct_16 rfl (lv_at hl 4 rfl) ?_
  obtain ⟨r7, er7, h⟩ := hx_b1s h
  refine hx_rd (va_runV (As := [.int x2]) (rest := []) ⟨hx, hb, hml, hown, hts⟩ (c_F_isNegative l D T3 (ad (2 + k1)) (hx_fm σ k1) x2 _ er7) (cwV 1 hts (hx_gV hx_cons k_359 k_270 k_271 k_51 k_272) rfl rfl rfl (by decide +kernel) ⟨Nat.le_of_ble_eq_true rfl, Nat.le_of_ble_eq_true rfl⟩) (hx_preV (va_recv hK hP (ci := 1) (q0 := 2 + k1) rfl (hx_at_F hk1)) (hx_one hP (hx_at_F hk1)) hK) rfl rfl hl.1 rfl (lv_room (Nat.le_of_ble_eq_true rfl)) d_E_addProduct_17 ⟨Nat.zero_le _, Nat.zero_le _⟩) ?_
  refine lv_aload_n hx hb d_E_addProduct_20 rfl (lv_at hl 5 rfl) ?_
  refine lv_iload hx hb d_E_addProduct_21 (lv_at hl 6 rfl) ?_
  obtain ⟨r8, er8, h⟩ := hx_b1s h
  refine hx_rd (va_runV (As := [.int x4]) (rest := [.int r7]) ⟨hx, hb, hml, hown, hts⟩ (c_F_isNegative l D T3 (ad (2 + k3)) (hx_fm σ k3) x4 _ er8) (cwV 1 hts (hx_gV hx_cons k_359 k_270 k_271 k_51 k_272) rfl rfl rfl (by decide +kernel) ⟨Nat.le_of_ble_eq_true rfl, Nat.le_of_ble_eq_true rfl⟩) (hx_preV (va_recv hK hP (ci := 1) (q0 := 2 + k3) rfl (hx_at_F hk3)) (hx_one hP (hx_at_F hk3)) hK) rfl rfl hl.1 rfl (lv_room (Nat.le_of_ble_eq_true rfl)) d_E_addProduct_23 ⟨Nat.zero_le _, Nat.zero_le _⟩) ?_
  refine lv_icmp_eq (tgt := 33) hx hb d_E_addProduct_26 (by decide) (fun c9 => ?_) (fun c9 => ?_)
  · replace h := hx_ip c9 h
    refine lv_iconst (v := 0) hx hb d_E_addProduct_33 (by decide) ?_
    exact B_34 σ k1 x2 k3 x4 r5 r6 (0 : Int32) _ _ ls hP hD hS hk1 hk3 (lv_sub hl [2, 3, 4, 5, 6, 1, 0] rfl) h
  · replace h := hx_in c9 h
    refine lv_iconst (v := 1) hx hb d_E_addProduct_29 (by decide) ?_
    refine lv_goto (tgt := 34) hx hb d_E_addProduct_30 (by decide) ?_
    exact B_34 σ k1 x2 k3 x4 r5 r6 (1 : Int32) _ _ ls hP hD hS hk1 hk3 (lv_sub hl [2, 3, 4, 5, 6, 1, 0] rfl) h
abbrev m_E_carry : Room := { frames := 0, cells := 0, slots := 0, locals := 0 }
set_option maxHeartbeats 4000000 in
set_option maxRecDepth 100000 in
theorem c_E_carry (l : Launch) (D : va_G) (T3 : hx_T3) (ad : Nat → Nat) (sz : Nat) (σ : hx_S) (x1 : Int32) (r0 : Int64) (σ0 : hx_S) (h : f_E_carry σ x1 = some (r0, σ0)) : hx_Wj l D (hx_ty T3) y_E_carry w_E_carry m_E_carry [.ref (ad 10), .int x1] sz (hx_W T3 ad σ) r0 (hx_W T3 ad σ0) := by
  refine Met.ofW (cc := b_E_carry) (maxL := 7) (ret := (some .long)) (by decide) rfl ?_
  intro p e s m args below meth c s₁ B hml hv
  obtain ⟨hargs, hsz, hP, hK, hD0⟩ := hv
  have hx := B.exec
  have hb := B.bytes
  have hr := B.returns
  have hts := atoms_spec (ws := w_E_carry) B.pre
  have hown : s.vm.findClass "HalfFloats$Exact" = some m.cls := findClass_of_methodNamed B.named
  have hlocks := B.notSynchronized
  subst hsz
  have hD := hD0.self (sz := s.heap.size)
  generalize hAe : va_A (hx_W T3 ad σ) s.heap.size = A at hD ⊢
  have hA : ∀ q : Nat, s.heap.size ≤ q → A q := fun q h => by rw [← hAe]; exact Or.inr h
  have hS : va_S A s.heap s.heap [] := va_S.rf
  have B_5 : ∀ (n : Nat), ∀ (σ : hx_S) (x2 : Int32) (x3 : Int64) (x4 : Int32) (H : Heap) (locs : List Loc) (ls : Array Slot), va_P D vwCl (hx_W T3 ad σ) H → va_D A (hx_W T3 ad σ) → va_S A s.heap H locs → lv_has ls 7 [(0, .ref (ad 10)), (1, .int x2), (2, .long x3), (4, .int x4)] → f_E_carry_5 n σ x2 x3 x4 = some (r0, σ0) → W p l e (headSpec w_E_carry m_E_carry).room s m args below meth c H locs 0 0 (MQ below (hx_Qj D (hx_ty T3) A r0 (hx_W T3 ad σ0)) args s 0 0 A) (F0 m 5 ls []) := by
    intro n
    induction n with
    | zero =>
      intro σ x2 x3 x4 H locs ls hP hD hS hl h
      rw [f_E_carry_5] at h
      cases h
    | succ n ih =>
        intro σ x2 x3 x4 H locs ls hP hD hS hl h
        rw [f_E_carry_5] at h
        refine lv_iload hx hb d_E_carry_5 (lv_at hl 3 rfl) ?_
        refine lv_bipush (v := 20) hx hb d_E_carry_7 (by decide) ?_
        refine lv_icmp_ge (tgt := 51) hx hb d_E_carry_9 (by decide) (fun c5 => ?_) (fun c5 => ?_)
        · replace h := hx_ip c5 h
          refine lv_lload_n hx hb d_E_carry_51 rfl (lv_at hl 2 rfl) ?_
          exact W.lret hx hb hr (fun t ht hW => hx_endj h ht hW hP hK hD hS) hS.2.2 d_E_carry_52
        · replace h := hx_in c5 h
          refine lv_iload_n hx hb d_E_carry_12 rfl (lv_at hl 1 rfl) ?_
          refine lv_i2l hx hb d_E_carry_13 rfl ?_
          refine lv_aload_n hx hb d_E_carry_14 rfl (lv_at hl 0 rfl) ?_
          refine va_get (D := D) (ci := 3) (v := .ref (ad 11)) (C := "HalfFloats$Exact") (T := T_E) (N := 12) hx hb hts (hx_up in_E) hown hK hP (10) hx_at_E rfl 11 (by decide) (hts _ (hx_cons _ k_162)) (fun _ h9 => h9) rfl d_E_carry_15 ?_
          refine lv_iload hx hb d_E_carry_18 (lv_at hl 3 rfl) ?_
          obtain ⟨g6, h⟩ := hx_gs h
          refine va_lald hx hb hK hP (11) 2 hx_at_EL rfl g6 d_E_carry_20 ?_
          refine lv_lmul hx hb d_E_carry_21 ?_
          refine lv_lload_n hx hb d_E_carry_22 rfl (lv_at hl 2 rfl) ?_
          refine lv_ladd hx hb d_E_carry_23 ?_
          refine lv_topl (fun x7 ex7 => ?_)
          replace h := hx_ns ex7 h
          clear ex7
          refine lv_lstore (lv' := [(5, .long x7), (0, .ref (ad 10)), (1, .int x2), (2, .long x3), (4, .int x4)]) hx hb d_E_carry_24 hl (by decide) rfl (fun ls hl => ?_)
          refine lv_aload_n hx hb d_E_carry_26 rfl (lv_at hl 1 rfl) ?_
          refine va_get (D := D) (ci := 3) (v := .ref (ad 11)) (C := "HalfFloats$Exact") (T := T_E) (N := 12) hx hb hts (hx_up in_E) hown hK hP (10) hx_at_E rfl 11 (by decide) (hts _ (hx_cons _ k_162)) (fun _ h9 => h9) rfl d_E_carry_27 ?_
          refine lv_iload hx hb d_E_carry_30 (lv_at hl 4 rfl) ?_
          refine lv_lload hx hb d_E_carry_32 (lv_at hl 0 rfl) ?_
          refine lv_ldc2 (v := 4294967295) hx hb hown (hts _ (hx_cons _ k_373)) d_E_carry_34 ?_
          refine lv_land hx hb d_E_carry_37 ?_
          refine lv_topl (fun x8 ex8 => ?_)
          replace h := hx_ns ex8 h
          clear ex8
          obtain ⟨g9, h⟩ := hx_gs h
          refine va_last hx hb hK hP hD hS (11) 2 hx_at_EL rfl g9 d_E_carry_38 (fun H locs hP hD hS => ?_)
          obtain ⟨σ10, eσ10⟩ : ∃ y : hx_S, y = (hx_ex_limbs_s σ x4.toNatClampNeg x8) := ⟨_, rfl⟩
          replace hP : va_P D vwCl (hx_W T3 ad σ10) H := by rw [eσ10]; exact hP
          replace hD : va_D A (hx_W T3 ad σ10) := by rw [eσ10]; exact hD
          replace h := hx_ns eσ10 h
          clear eσ10
          refine lv_lload hx hb d_E_carry_39 (lv_at hl 0 rfl) ?_
          refine lv_bipush (v := 32) hx hb d_E_carry_41 (by decide) ?_
          refine lv_lshr hx hb d_E_carry_43 rfl ?_
          refine lv_topl (fun x11 ex11 => ?_)
          replace h := hx_ns ex11 h
          clear ex11
          refine lv_lstore_n (lv' := [(2, .long x11), (5, .long x7), (0, .ref (ad 10)), (1, .int x2), (4, .int x4)]) hx hb d_E_carry_44 rfl hl (by decide) rfl (fun ls hl => ?_)
          obtain ⟨x12, ex12⟩ : ∃ y : Int32, y = x4 + 1 := ⟨_, rfl⟩
          replace h := hx_ns ex12 h
          refine lv_iinc (v := x12) (lv' := [(4, .int x12), (2, .long x11), (5, .long x7), (0, .ref (ad 10)), (1, .int x2)]) hx hb d_E_carry_45 hl (k := 4) rfl (by rw [ex12]; rfl) (by decide) rfl (fun ls hl => ?_)
          clear ex12
          refine lv_goto (tgt := 5) hx hb d_E_carry_48 (by decide) ?_
          exact ih σ10 x2 x11 x12 _ _ ls hP hD hS (lv_sub hl [3, 4, 1, 0] rfl) h
  refine W.eq (g2 := F0 m 0 ((lg_sl [.ref (ad 10), .int x1] ++ List.replicate (7 - (lg_sl [.ref (ad 10), .int x1]).length) Slot.unset).toArray) []) (by rw [hargs, lg_entry_eq]) ?_
  have hl := lv_entry ([.ref (ad 10), .int x1]) (n := 7) (Nat.le_of_ble_eq_true rfl)
  generalize (lg_sl ([.ref (ad 10), .int x1]) ++ List.replicate (7 - (lg_sl ([.ref (ad 10), .int x1])).length) Slot.unset).toArray = ls at hl ⊢
  have hl : lv_has ls 7 [(0, .ref (ad 10)), (1, .int x1)] := hl
  rw [f_E_carry] at h
  refine lv_lconst (v := 0) hx hb d_E_carry_0 rfl ?_
  refine lv_lstore_n (lv' := [(2, .long (0 : Int64)), (0, .ref (ad 10)), (1, .int x1)]) hx hb d_E_carry_1 rfl hl (by decide) rfl (fun ls hl => ?_)
  refine lv_iconst (v := 0) hx hb d_E_carry_2 (by decide) ?_
  refine lv_istore (lv' := [(4, .int (0 : Int32)), (2, .long (0 : Int64)), (0, .ref (ad 10)), (1, .int x1)]) hx hb d_E_carry_3 hl (by decide) rfl (fun ls hl => ?_)
  exact B_5 hx_fuel σ x1 (0 : Int64) (0 : Int32) _ _ ls hP hD hS (lv_sub hl [2, 3, 1, 0] rfl) h
abbrev m_E_take : Room := { frames := 2, cells := 0, slots := 0, locals := 43 }
set_option maxHeartbeats 4000000 in
set_option maxRecDepth 100000 in
theorem c_E_take (l : Launch) (D : va_G) (T3 : hx_T3) (ad : Nat → Nat) (sz : Nat) (σ : hx_S) (x1 : Int32)  (σ0 : hx_S) (h : f_E_take σ x1 = some σ0) : hx_Wv l D (hx_ty T3) y_E_take w_E_take m_E_take [.ref (ad 10), .int x1] sz (hx_W T3 ad σ) (hx_W T3 ad σ0) := by
  refine Met.ofW (cc := b_E_take) (maxL := 6) (ret := none) (by decide) rfl ?_
  intro p e s m args below meth c s₁ B hml hv
  obtain ⟨hargs, hsz, hP, hK, hD0⟩ := hv
  have hx := B.exec
  have hb := B.bytes
  have hr := B.returns
  have hts := atoms_spec (ws := w_E_take) B.pre
  have hown : s.vm.findClass "HalfFloats$Exact" = some m.cls := findClass_of_methodNamed B.named
  have hlocks := B.notSynchronized
  subst hsz
  have hD := hD0.self (sz := s.heap.size)
  generalize hAe : va_A (hx_W T3 ad σ) s.heap.size = A at hD ⊢
  have hA : ∀ q : Nat, s.heap.size ≤ q → A q := fun q h => by rw [← hAe]; exact Or.inr h
  have hS : va_S A s.heap s.heap [] := va_S.rf
  have B_164 : ∀ (K132 : hx_S → Int32 → Int32 → Option hx_S) (hK132 : ∀ (σ : hx_S) (x24 : Int32) (x25 : Int32) (H : Heap) (locs : List Loc) (ls : Array Slot), va_P D vwCl (hx_W T3 ad σ) H → va_D A (hx_W T3 ad σ) → va_S A s.heap H locs → lv_has ls 6 [(0, .ref (ad 10)), (4, .int x24), (5, .int x25)] → K132 σ x24 x25 = some σ0 → W p l e (headSpec w_E_take m_E_take).room s m args below meth c H locs 0 0 (MQ below (hx_Qv D (hx_ty T3) A (hx_W T3 ad σ0)) args s 0 0 A) (F0 m 132 ls [])), ∀ (σ : hx_S) (x30 : Int32) (x31 : Int32) (x32 : Int32) (H : Heap) (locs : List Loc) (ls : Array Slot), va_P D vwCl (hx_W T3 ad σ) H → va_D A (hx_W T3 ad σ) → va_S A s.heap H locs → lv_has ls 6 [(0, .ref (ad 10)), (4, .int x30), (5, .int x31)] → f_E_take_164 K132 σ x30 x31 x32 = some σ0 → W p l e (headSpec w_E_take m_E_take).room s m args below meth c H locs 0 0 (MQ below (hx_Qv D (hx_ty T3) A (hx_W T3 ad σ0)) args s 0 0 A) (F0 m 164 ls [.int x32, .ref (ad 10)]) := by
      intro K132 hK132
      intro σ x30 x31 x32 H locs ls hP hD hS hl h
      rw [f_E_take_164] at h
      obtain ⟨g33, h⟩ := hx_gt h
      refine va_put (D := D) (ci := 3) (v := .int x32) (ty := .boolean) (C := "HalfFloats$Exact") (T := T_E) (N := 12) hx hb hts (hx_up in_E) ty_E tyok_E nm_E hown hK hP hD hS (10) hx_at_E rfl 10 (by decide) (hts _ (hx_cons _ k_160)) (fun _ h9 => h9) rfl (by decide +kernel) (hx_nb g33) (hx_fb g33) (Nat.le_of_ble_eq_true rfl) d_E_take_164 (fun H locs hP hD hS => ?_)
      obtain ⟨σ34, eσ34⟩ : ∃ y : hx_S, y = (hx_ex_more_s σ x32) := ⟨_, rfl⟩
      replace hP : va_P D vwCl (hx_W T3 ad σ34) H := by rw [eσ34]; exact hP
      replace hD : va_D A (hx_W T3 ad σ34) := by rw [eσ34]; exact hD
      replace h := hx_ns eσ34 h
      clear eσ34
      obtain ⟨x35, ex35⟩ : ∃ y : Int32, y = x31 + 1 := ⟨_, rfl⟩
      replace h := hx_ns ex35 h
      refine lv_iinc (v := x35) (lv' := [(5, .int x35), (0, .ref (ad 10)), (4, .int x30)]) hx hb d_E_take_167 hl (k := 2) rfl (by rw [ex35]; rfl) (by decide) rfl (fun ls hl => ?_)
      clear ex35
      refine lv_goto (tgt := 132) hx hb d_E_take_170 (by decide) ?_
      exact hK132 σ34 x30 x35 _ _ ls hP hD hS (lv_sub hl [1, 2, 0] rfl) h
  have B_159 : ∀ (K132 : hx_S → Int32 → Int32 → Option hx_S) (hK132 : ∀ (σ : hx_S) (x24 : Int32) (x25 : Int32) (H : Heap) (locs : List Loc) (ls : Array Slot), va_P D vwCl (hx_W T3 ad σ) H → va_D A (hx_W T3 ad σ) → va_S A s.heap H locs → lv_has ls 6 [(0, .ref (ad 10)), (4, .int x24), (5, .int x25)] → K132 σ x24 x25 = some σ0 → W p l e (headSpec w_E_take m_E_take).room s m args below meth c H locs 0 0 (MQ below (hx_Qv D (hx_ty T3) A (hx_W T3 ad σ0)) args s 0 0 A) (F0 m 132 ls [])), ∀ (σ : hx_S) (x28 : Int32) (x29 : Int32) (H : Heap) (locs : List Loc) (ls : Array Slot), va_P D vwCl (hx_W T3 ad σ) H → va_D A (hx_W T3 ad σ) → va_S A s.heap H locs → lv_has ls 6 [(0, .ref (ad 10)), (4, .int x28), (5, .int x29)] → f_E_take_159 K132 σ x28 x29 = some σ0 → W p l e (headSpec w_E_take m_E_take).room s m args below meth c H locs 0 0 (MQ below (hx_Qv D (hx_ty T3) A (hx_W T3 ad σ0)) args s 0 0 A) (F0 m 159 ls [.ref (ad 10)]) := by
      intro K132 hK132
      intro σ x28 x29 H locs ls hP hD hS hl h
      rw [f_E_take_159] at h
      refine lv_iconst (v := 1) hx hb d_E_take_159 (by decide) ?_
      refine lv_goto (tgt := 164) hx hb d_E_take_160 (by decide) ?_
      exact B_164 K132 hK132 σ x28 x29 (1 : Int32) _ _ ls hP hD hS (lv_sub hl [0, 1, 2] rfl) h
  have B_132 : ∀ (n : Nat), ∀ (σ : hx_S) (x24 : Int32) (x25 : Int32) (H : Heap) (locs : List Loc) (ls : Array Slot), va_P D vwCl (hx_W T3 ad σ) H → va_D A (hx_W T3 ad σ) → va_S A s.heap H locs → lv_has ls 6 [(0, .ref (ad 10)), (4, .int x24), (5, .int x25)] → f_E_take_132 n σ x24 x25 = some σ0 → W p l e (headSpec w_E_take m_E_take).room s m args below meth c H locs 0 0 (MQ below (hx_Qv D (hx_ty T3) A (hx_W T3 ad σ0)) args s 0 0 A) (F0 m 132 ls []) := by
    intro n
    induction n with
    | zero =>
      intro σ x24 x25 H locs ls hP hD hS hl h
      rw [f_E_take_132] at h
      cases h
    | succ n ih =>
        intro σ x24 x25 H locs ls hP hD hS hl h
        rw [f_E_take_132] at h
        refine lv_iload hx hb d_E_take_132 (lv_at hl 2 rfl) ?_
        refine lv_iload hx hb d_E_take_134 (lv_at hl 1 rfl) ?_
        refine lv_icmp_ge (tgt := 173) hx hb d_E_take_136 (by decide) (fun c26 => ?_) (fun c26 => ?_)
        · replace h := hx_ip c26 h
          exact W.vret hx hb hr (fun t ht hW => hx_endv h ht hW hP hK hD hS) hS.2.2 d_E_take_173
        · replace h := hx_in c26 h
          refine lv_aload_n hx hb d_E_take_139 rfl (lv_at hl 0 rfl) ?_
          refine lv_aload_n hx hb d_E_take_140 rfl (lv_at hl 0 rfl) ?_
          refine va_get (D := D) (ci := 3) (v := .int (hx_ex_more σ)) (C := "HalfFloats$Exact") (T := T_E) (N := 12) hx hb hts (hx_up in_E) hown hK hP (10) hx_at_E rfl 10 (by decide) (hts _ (hx_cons _ k_160)) (fun _ h9 => h9) rfl d_E_take_141 ?_
          refine lv_if_ne (tgt := 159) hx hb d_E_take_144 (by decide) (fun c27 => ?_) (fun c27 => ?_)
          · replace h := hx_in c27 h
            exact B_159 (f_E_take_132 n) ih σ x24 x25 _ _ ls hP hD hS (lv_sub hl [0, 1, 2] rfl) h
          · replace h := hx_ip c27 h
            refine lv_aload_n hx hb d_E_take_147 rfl (lv_at hl 0 rfl) ?_
            refine va_get (D := D) (ci := 3) (v := .ref (ad 11)) (C := "HalfFloats$Exact") (T := T_E) (N := 12) hx hb hts (hx_up in_E) hown hK hP (10) hx_at_E rfl 11 (by decide) (hts _ (hx_cons _ k_162)) (fun _ h9 => h9) rfl d_E_take_148 ?_
            refine lv_iload hx hb d_E_take_151 (lv_at hl 2 rfl) ?_
            obtain ⟨g36, h⟩ := hx_gs h
            refine va_lald hx hb hK hP (11) 2 hx_at_EL rfl g36 d_E_take_153 ?_
            refine lv_lconst (v := 0) hx hb d_E_take_154 rfl ?_
            refine W.lcmp hx hb d_E_take_155 ?_
            refine lv_if_eq (tgt := 163) hx hb d_E_take_156 (by decide) (fun c37 => ?_) (fun c37 => ?_)
            · replace h := hx_ip c37 h
              refine lv_iconst (v := 0) hx hb d_E_take_163 (by decide) ?_
              exact B_164 (f_E_take_132 n) ih σ x24 x25 (0 : Int32) _ _ ls hP hD hS (lv_sub hl [0, 1, 2] rfl) h
            · replace h := hx_in c37 h
              exact B_159 (f_E_take_132 n) ih σ x24 x25 _ _ ls hP hD hS (lv_sub hl [0, 1, 2] rfl) h
  have B_126 : ∀ (σ : hx_S) (x20 : Int32) (x21 : Int32) (H : Heap) (locs : List Loc) (ls : Array Slot), va_P D vwCl (hx_W T3 ad σ) H → va_D A (hx_W T3 ad σ) → va_S A s.heap H locs → lv_has ls 6 [(0, .ref (ad 10)), (4, .int x20)] → f_E_take_126 σ x20 x21 = some σ0 → W p l e (headSpec w_E_take m_E_take).room s m args below meth c H locs 0 0 (MQ below (hx_Qv D (hx_ty T3) A (hx_W T3 ad σ0)) args s 0 0 A) (F0 m 126 ls [.int x21, .ref (ad 10)]) := by
      intro σ x20 x21 H locs ls hP hD hS hl h
      rw [f_E_take_126] at h
      obtain ⟨g22, h⟩ := hx_gt h
      refine va_put (D := D) (ci := 3) (v := .int x21) (ty := .boolean) (C := "HalfFloats$Exact") (T := T_E) (N := 12) hx hb hts (hx_up in_E) ty_E tyok_E nm_E hown hK hP hD hS (10) hx_at_E rfl 10 (by decide) (hts _ (hx_cons _ k_160)) (fun _ h9 => h9) rfl (by decide +kernel) (hx_nb g22) (hx_fb g22) (Nat.le_of_ble_eq_true rfl) d_E_take_126 (fun H locs hP hD hS => ?_)
      obtain ⟨σ23, eσ23⟩ : ∃ y : hx_S, y = (hx_ex_more_s σ x21) := ⟨_, rfl⟩
      replace hP : va_P D vwCl (hx_W T3 ad σ23) H := by rw [eσ23]; exact hP
      replace hD : va_D A (hx_W T3 ad σ23) := by rw [eσ23]; exact hD
      replace h := hx_ns eσ23 h
      clear eσ23
      refine lv_iconst (v := 0) hx hb d_E_take_129 (by decide) ?_
      refine lv_istore (lv' := [(5, .int (0 : Int32)), (0, .ref (ad 10)), (4, .int x20)]) hx hb d_E_take_130 hl (by decide) rfl (fun ls hl => ?_)
      exact B_132 hx_fuel σ23 x20 (0 : Int32) _ _ ls hP hD hS (lv_sub hl [1, 2, 0] rfl) h
  have B_54 : ∀ (n : Nat), ∀ (σ : hx_S) (x11 : Int32) (x12 : Int32) (x13 : Int32) (x14 : Int32) (H : Heap) (locs : List Loc) (ls : Array Slot), va_P D vwCl (hx_W T3 ad σ) H → va_D A (hx_W T3 ad σ) → va_S A s.heap H locs → lv_has ls 6 [(0, .ref (ad 10)), (1, .int x11), (3, .int x12), (4, .int x13), (5, .int x14)] → f_E_take_54 n σ x11 x12 x13 x14 = some σ0 → W p l e (headSpec w_E_take m_E_take).room s m args below meth c H locs 0 0 (MQ below (hx_Qv D (hx_ty T3) A (hx_W T3 ad σ0)) args s 0 0 A) (F0 m 54 ls []) := by
    intro n
    induction n with
    | zero =>
      intro σ x11 x12 x13 x14 H locs ls hP hD hS hl h
      rw [f_E_take_54] at h
      cases h
    | succ n ih =>
        intro σ x11 x12 x13 x14 H locs ls hP hD hS hl h
        rw [f_E_take_54] at h
        refine lv_iload hx hb d_E_take_54 (lv_at hl 4 rfl) ?_
        refine lv_iload_n hx hb d_E_take_56 rfl (lv_at hl 1 rfl) ?_
        refine lv_icmp_gt (tgt := 90) hx hb d_E_take_57 (by decide) (fun c15 => ?_) (fun c15 => ?_)
        · replace h := hx_ip c15 h
          refine lv_aload_n hx hb d_E_take_90 rfl (lv_at hl 0 rfl) ?_
          refine lv_sipush (v := -320) hx hb d_E_take_91 (by decide) ?_
          refine lv_iload_n hx hb d_E_take_94 rfl (lv_at hl 2 rfl) ?_
          refine lv_iadd hx hb d_E_take_95 ?_
          refine lv_topi (fun x16 ex16 => ?_)
          replace h := hx_ns ex16 h
          clear ex16
          refine va_put (D := D) (ci := 3) (v := .int x16) (ty := .int) (C := "HalfFloats$Exact") (T := T_E) (N := 12) hx hb hts (hx_up in_E) ty_E tyok_E nm_E hown hK hP hD hS (10) hx_at_E rfl 9 (by decide) (hts _ (hx_cons _ k_158)) (fun _ h9 => h9) rfl (by decide +kernel) rfl rfl (Nat.le_of_ble_eq_true rfl) d_E_take_96 (fun H locs hP hD hS => ?_)
          obtain ⟨σ17, eσ17⟩ : ∃ y : hx_S, y = (hx_ex_power_s σ x16) := ⟨_, rfl⟩
          replace hP : va_P D vwCl (hx_W T3 ad σ17) H := by rw [eσ17]; exact hP
          replace hD : va_D A (hx_W T3 ad σ17) := by rw [eσ17]; exact hD
          replace h := hx_ns eσ17 h
          clear eσ17
          refine lv_aload_n hx hb d_E_take_99 rfl (lv_at hl 0 rfl) ?_
          refine lv_aload_n hx hb d_E_take_100 rfl (lv_at hl 0 rfl) ?_
          refine va_get (D := D) (ci := 3) (v := .ref (ad 11)) (C := "HalfFloats$Exact") (T := T_E) (N := 12) hx hb hts (hx_up in_E) hown hK hP (10) hx_at_E rfl 11 (by decide) (hts _ (hx_cons _ k_162)) (fun _ h9 => h9) rfl d_E_take_101 ?_
          refine lv_iload hx hb d_E_take_104 (lv_at hl 3 rfl) ?_
          obtain ⟨g18, h⟩ := hx_gs h
          refine va_lald hx hb hK hP (11) 2 hx_at_EL rfl g18 d_E_take_106 ?_
          refine lv_lconst (v := 1) hx hb d_E_take_107 rfl ?_
          refine lv_iload_n hx hb d_E_take_108 rfl (lv_at hl 2 rfl) ?_
          refine lv_bipush (v := 31) hx hb d_E_take_109 (by decide) ?_
          refine lv_iand hx hb d_E_take_111 ?_
          refine lv_lshl hx hb d_E_take_112 rfl ?_
          refine lv_lconst (v := 1) hx hb d_E_take_113 rfl ?_
          refine lv_lsub hx hb d_E_take_114 ?_
          refine lv_land hx hb d_E_take_115 ?_
          refine lv_lconst (v := 0) hx hb d_E_take_116 rfl ?_
          refine W.lcmp hx hb d_E_take_117 ?_
          refine lv_if_eq (tgt := 125) hx hb d_E_take_118 (by decide) (fun c19 => ?_) (fun c19 => ?_)
          · replace h := hx_ip c19 h
            refine lv_iconst (v := 0) hx hb d_E_take_125 (by decide) ?_
            exact B_126 σ17 x13 (0 : Int32) _ _ ls hP hD hS (lv_sub hl [0, 3] rfl) h
          · replace h := hx_in c19 h
            refine lv_iconst (v := 1) hx hb d_E_take_121 (by decide) ?_
            refine lv_goto (tgt := 126) hx hb d_E_take_122 (by decide) ?_
            exact B_126 σ17 x13 (1 : Int32) _ _ ls hP hD hS (lv_sub hl [0, 3] rfl) h
        · replace h := hx_in c15 h
          refine lv_aload_n hx hb d_E_take_60 rfl (lv_at hl 0 rfl) ?_
          refine lv_dup hx hb d_E_take_61 rfl ?_
          refine va_get (D := D) (ci := 3) (v := .long (hx_ex_whole σ)) (C := "HalfFloats$Exact") (T := T_E) (N := 12) hx hb hts (hx_up in_E) hown hK hP (10) hx_at_E rfl 8 (by decide) (hts _ (hx_cons _ k_156)) (fun _ h9 => h9) rfl d_E_take_62 ?_
          refine lv_aload_n hx hb d_E_take_65 rfl (lv_at hl 0 rfl) ?_
          refine va_get (D := D) (ci := 3) (v := .ref (ad 11)) (C := "HalfFloats$Exact") (T := T_E) (N := 12) hx hb hts (hx_up in_E) hown hK hP (10) hx_at_E rfl 11 (by decide) (hts _ (hx_cons _ k_162)) (fun _ h9 => h9) rfl d_E_take_66 ?_
          refine lv_iload hx hb d_E_take_69 (lv_at hl 4 rfl) ?_
          obtain ⟨g38, h⟩ := hx_gs h
          refine va_lald hx hb hK hP (11) 2 hx_at_EL rfl g38 d_E_take_71 ?_
          refine lv_bipush (v := 32) hx hb d_E_take_72 (by decide) ?_
          refine lv_iload hx hb d_E_take_74 (lv_at hl 4 rfl) ?_
          refine lv_imul hx hb d_E_take_76 ?_
          refine lv_iload_n hx hb d_E_take_77 rfl (lv_at hl 2 rfl) ?_
          refine lv_isub hx hb d_E_take_78 ?_
          refine lv_lshl hx hb d_E_take_79 rfl ?_
          refine lv_ladd hx hb d_E_take_80 ?_
          refine lv_topl (fun x39 ex39 => ?_)
          replace h := hx_ns ex39 h
          clear ex39
          refine va_put (D := D) (ci := 3) (v := .long x39) (ty := .long) (C := "HalfFloats$Exact") (T := T_E) (N := 12) hx hb hts (hx_up in_E) ty_E tyok_E nm_E hown hK hP hD hS (10) hx_at_E rfl 8 (by decide) (hts _ (hx_cons _ k_156)) (fun _ h9 => h9) rfl (by decide +kernel) rfl rfl (Nat.le_of_ble_eq_true rfl) d_E_take_81 (fun H locs hP hD hS => ?_)
          obtain ⟨σ40, eσ40⟩ : ∃ y : hx_S, y = (hx_ex_whole_s σ x39) := ⟨_, rfl⟩
          replace hP : va_P D vwCl (hx_W T3 ad σ40) H := by rw [eσ40]; exact hP
          replace hD : va_D A (hx_W T3 ad σ40) := by rw [eσ40]; exact hD
          replace h := hx_ns eσ40 h
          clear eσ40
          obtain ⟨x41, ex41⟩ : ∃ y : Int32, y = x14 + 1 := ⟨_, rfl⟩
          replace h := hx_ns ex41 h
          refine lv_iinc (v := x41) (lv' := [(5, .int x41), (0, .ref (ad 10)), (1, .int x11), (3, .int x12), (4, .int x13)]) hx hb d_E_take_84 hl (k := 4) rfl (by rw [ex41]; rfl) (by decide) rfl (fun ls hl => ?_)
          clear ex41
          refine lv_goto (tgt := 54) hx hb d_E_take_87 (by decide) ?_
          exact ih σ40 x11 x12 x13 x41 _ _ ls hP hD hS (lv_sub hl [1, 2, 3, 4, 0] rfl) h
  refine W.eq (g2 := F0 m 0 ((lg_sl [.ref (ad 10), .int x1] ++ List.replicate (6 - (lg_sl [.ref (ad 10), .int x1]).length) Slot.unset).toArray) []) (by rw [hargs, lg_entry_eq]) ?_
  have hl := lv_entry ([.ref (ad 10), .int x1]) (n := 6) (Nat.le_of_ble_eq_true rfl)
  generalize (lg_sl ([.ref (ad 10), .int x1]) ++ List.replicate (6 - (lg_sl ([.ref (ad 10), .int x1])).length) Slot.unset).toArray = ls at hl ⊢
  have hl : lv_has ls 6 [(0, .ref (ad 10)), (1, .int x1)] := hl
  rw [f_E_take] at h
  refine lv_bipush (v := 32) hx hb d_E_take_0 (by decide) ?_
  refine lv_iload_n hx hb d_E_take_2 rfl (lv_at hl 1 rfl) ?_
  refine lv_imul hx hb d_E_take_3 ?_
  refine lv_bipush (v := 64) hx hb d_E_take_4 (by decide) ?_
  refine lv_iadd hx hb d_E_take_6 ?_
  refine lv_aload_n hx hb d_E_take_7 rfl (lv_at hl 0 rfl) ?_
  refine va_get (D := D) (ci := 3) (v := .ref (ad 11)) (C := "HalfFloats$Exact") (T := T_E) (N := 12) hx hb hts (hx_up in_E) hown hK hP (10) hx_at_E rfl 11 (by decide) (hts _ (hx_cons _ k_162)) (fun _ h9 => h9) rfl d_E_take_8 ?_
  refine lv_iload_n hx hb d_E_take_11 rfl (lv_at hl 1 rfl) ?_
  obtain ⟨g2, h⟩ := hx_gs h
  refine va_lald hx hb hK hP (11) 2 hx_at_EL rfl g2 d_E_take_12 ?_
  obtain ⟨r3, er3, h⟩ := hx_b1s h
  refine hx_rd (va_runS (As := [.long (hx_ex_limbs σ x1.toNatClampNeg)]) (rest := [.int (((32 : Int32) * x1) + (64 : Int32))]) ⟨hx, hb, hml, hown, hts⟩ (c_JL_numberOfLeadingZeros l D T3 (hx_ex_limbs σ x1.toNatClampNeg) _ er3) (va_cwS 1 hts (hx_gS hx_cons k_399 k_313 k_57 k_314) rfl rfl rfl (by decide +kernel) ⟨Nat.le_of_ble_eq_true rfl, Nat.le_of_ble_eq_true rfl⟩) (hx_preS hx_nil hK) rfl rfl hl.1 rfl (lv_room (Nat.le_of_ble_eq_true rfl)) d_E_take_13 ⟨Nat.zero_le _, Nat.zero_le _⟩) ?_
  refine lv_isub hx hb d_E_take_16 ?_
  refine lv_topi (fun x4 ex4 => ?_)
  replace h := hx_ns ex4 h
  clear ex4
  refine lv_istore_n (lv' := [(2, .int x4), (0, .ref (ad 10)), (1, .int x1)]) hx hb d_E_take_17 rfl hl (by decide) rfl (fun ls hl => ?_)
  refine lv_iload_n hx hb d_E_take_18 rfl (lv_at hl 0 rfl) ?_
  refine lv_bipush (v := 62) hx hb d_E_take_19 (by decide) ?_
  refine lv_isub hx hb d_E_take_21 ?_
  refine lv_iconst (v := 0) hx hb d_E_take_22 (by decide) ?_
  refine va_mmax hx hb (hml.trans hl.1.symm) hown (hts _ (hx_cons _ k_400)) (hts _ (hx_cons _ k_282)) (hts _ (hx_cons _ k_56)) (hts _ (hx_cons _ k_283)) (Nat.le_of_ble_eq_true rfl) (Nat.le_of_ble_eq_true rfl) (Nat.zero_le _) (Nat.zero_le _) d_E_take_23 ?_
  refine lv_topi (fun x5 ex5 => ?_)
  replace h := hx_ns ex5 h
  clear ex5
  refine lv_istore_n (lv' := [(3, .int x5), (2, .int x4), (0, .ref (ad 10)), (1, .int x1)]) hx hb d_E_take_26 rfl hl (by decide) rfl (fun ls hl => ?_)
  refine lv_iload_n hx hb d_E_take_27 rfl (lv_at hl 0 rfl) ?_
  refine lv_iconst (v := 5) hx hb d_E_take_28 (by decide) ?_
  refine lv_ishr hx hb d_E_take_29 ?_
  refine lv_topi (fun x6 ex6 => ?_)
  replace h := hx_ns ex6 h
  clear ex6
  refine lv_istore (lv' := [(4, .int x6), (3, .int x5), (2, .int x4), (0, .ref (ad 10)), (1, .int x1)]) hx hb d_E_take_30 hl (by decide) rfl (fun ls hl => ?_)
  refine lv_aload_n hx hb d_E_take_32 rfl (lv_at hl 3 rfl) ?_
  refine lv_aload_n hx hb d_E_take_33 rfl (lv_at hl 3 rfl) ?_
  refine va_get (D := D) (ci := 3) (v := .ref (ad 11)) (C := "HalfFloats$Exact") (T := T_E) (N := 12) hx hb hts (hx_up in_E) hown hK hP (10) hx_at_E rfl 11 (by decide) (hts _ (hx_cons _ k_162)) (fun _ h9 => h9) rfl d_E_take_34 ?_
  refine lv_iload hx hb d_E_take_37 (lv_at hl 0 rfl) ?_
  obtain ⟨g7, h⟩ := hx_gs h
  refine va_lald hx hb hK hP (11) 2 hx_at_EL rfl g7 d_E_take_39 ?_
  refine lv_iload_n hx hb d_E_take_40 rfl (lv_at hl 1 rfl) ?_
  refine lv_bipush (v := 31) hx hb d_E_take_41 (by decide) ?_
  refine lv_iand hx hb d_E_take_43 ?_
  refine lv_lushr hx hb d_E_take_44 rfl ?_
  refine lv_topl (fun x8 ex8 => ?_)
  replace h := hx_ns ex8 h
  clear ex8
  refine va_put (D := D) (ci := 3) (v := .long x8) (ty := .long) (C := "HalfFloats$Exact") (T := T_E) (N := 12) hx hb hts (hx_up in_E) ty_E tyok_E nm_E hown hK hP hD hS (10) hx_at_E rfl 8 (by decide) (hts _ (hx_cons _ k_156)) (fun _ h9 => h9) rfl (by decide +kernel) rfl rfl (Nat.le_of_ble_eq_true rfl) d_E_take_45 (fun H locs hP hD hS => ?_)
  obtain ⟨σ9, eσ9⟩ : ∃ y : hx_S, y = (hx_ex_whole_s σ x8) := ⟨_, rfl⟩
  replace hP : va_P D vwCl (hx_W T3 ad σ9) H := by rw [eσ9]; exact hP
  replace hD : va_D A (hx_W T3 ad σ9) := by rw [eσ9]; exact hD
  replace h := hx_ns eσ9 h
  clear eσ9
  refine lv_iload hx hb d_E_take_48 (lv_at hl 0 rfl) ?_
  refine lv_iconst (v := 1) hx hb d_E_take_50 (by decide) ?_
  refine lv_iadd hx hb d_E_take_51 ?_
  refine lv_topi (fun x10 ex10 => ?_)
  replace h := hx_ns ex10 h
  clear ex10
  refine lv_istore (lv' := [(5, .int x10), (4, .int x6), (3, .int x5), (2, .int x4), (0, .ref (ad 10)), (1, .int x1)]) hx hb d_E_take_52 hl (by decide) rfl (fun ls hl => ?_)
  exact B_54 hx_fuel σ9 x1 x5 x6 x10 _ _ ls hP hD hS (lv_sub hl [4, 5, 2, 1, 0] rfl) h
abbrev m_E_settle : Room := { frames := 3, cells := 0, slots := 0, locals := 68 }
set_option maxHeartbeats 4000000 in
set_option maxRecDepth 100000 in
theorem c_E_settle (l : Launch) (D : va_G) (T3 : hx_T3) (ad : Nat → Nat) (sz : Nat) (σ : hx_S)  (σ0 : hx_S) (h : f_E_settle σ = some σ0) : hx_Wv l D (hx_ty T3) y_E_settle w_E_settle m_E_settle [.ref (ad 10)] sz (hx_W T3 ad σ) (hx_W T3 ad σ0) := by
  refine Met.ofW (cc := b_E_settle) (maxL := 2) (ret := none) (by decide) rfl ?_
  intro p e s m args below meth c s₁ B hml hv
  obtain ⟨hargs, hsz, hP, hK, hD0⟩ := hv
  have hx := B.exec
  have hb := B.bytes
  have hr := B.returns
  have hts := atoms_spec (ws := w_E_settle) B.pre
  have hown : s.vm.findClass "HalfFloats$Exact" = some m.cls := findClass_of_methodNamed B.named
  have hlocks := B.notSynchronized
  subst hsz
  have hD := hD0.self (sz := s.heap.size)
  generalize hAe : va_A (hx_W T3 ad σ) s.heap.size = A at hD ⊢
  have hA : ∀ q : Nat, s.heap.size ≤ q → A q := fun q h => by rw [← hAe]; exact Or.inr h
  have hS : va_S A s.heap s.heap [] := va_S.rf
  have B_65 : ∀ (σ : hx_S) (x11 : Int32) (H : Heap) (locs : List Loc) (ls : Array Slot), va_P D vwCl (hx_W T3 ad σ) H → va_D A (hx_W T3 ad σ) → va_S A s.heap H locs → lv_has ls 2 [(0, .ref (ad 10)), (1, .int x11)] → f_E_settle_65 σ x11 = some σ0 → W p l e (headSpec w_E_settle m_E_settle).room s m args below meth c H locs 0 0 (MQ below (hx_Qv D (hx_ty T3) A (hx_W T3 ad σ0)) args s 0 0 A) (F0 m 65 ls []) := by
      intro σ x11 H locs ls hP hD hS hl h
      rw [f_E_settle_65] at h
      refine lv_aload_n hx hb d_E_settle_65 rfl (lv_at hl 0 rfl) ?_
      refine lv_iload_n hx hb d_E_settle_66 rfl (lv_at hl 1 rfl) ?_
      obtain ⟨q12, eq12, h⟩ := hx_b1s h
      refine hx_wv (va_runV (As := [.int x11]) (rest := []) ⟨hx, hb, hml, hown, hts⟩ (c_E_take l D T3 ad _ σ x11 _ eq12) (cwV 1 hts (hx_gV hx_cons k_395 k_397 k_8 k_53 k_398) rfl rfl rfl (by decide +kernel) ⟨Nat.le_of_ble_eq_true rfl, Nat.le_of_ble_eq_true rfl⟩) (hx_preVw (va_recv hK hP (ci := 3) (q0 := 10) rfl hx_at_E) hP hK hD) rfl rfl hl.1 rfl (lv_room (Nat.le_of_ble_eq_true rfl)) d_E_settle_67 ⟨Nat.zero_le _, Nat.zero_le _⟩) hD hS hA (fun H locs hP hD hS => ?_)
      exact W.vret hx hb hr (fun t ht hW => hx_endv h ht hW hP hK hD hS) hS.2.2 d_E_settle_70
  have B_44 : ∀ (n : Nat), ∀ (σ : hx_S) (x9 : Int32) (H : Heap) (locs : List Loc) (ls : Array Slot), va_P D vwCl (hx_W T3 ad σ) H → va_D A (hx_W T3 ad σ) → va_S A s.heap H locs → lv_has ls 2 [(0, .ref (ad 10)), (1, .int x9)] → f_E_settle_44 n σ x9 = some σ0 → W p l e (headSpec w_E_settle m_E_settle).room s m args below meth c H locs 0 0 (MQ below (hx_Qv D (hx_ty T3) A (hx_W T3 ad σ0)) args s 0 0 A) (F0 m 44 ls []) := by
    intro n
    induction n with
    | zero =>
      intro σ x9 H locs ls hP hD hS hl h
      rw [f_E_settle_44] at h
      cases h
    | succ n ih =>
        intro σ x9 H locs ls hP hD hS hl h
        rw [f_E_settle_44] at h
        refine lv_iload_n hx hb d_E_settle_44 rfl (lv_at hl 1 rfl) ?_
        refine lv_if_le (tgt := 65) hx hb d_E_settle_45 (by decide) (fun c10 => ?_) (fun c10 => ?_)
        · replace h := hx_ip c10 h
          exact B_65 σ x9 _ _ ls hP hD hS (lv_sub hl [0, 1] rfl) h
        · replace h := hx_in c10 h
          refine lv_aload_n hx hb d_E_settle_48 rfl (lv_at hl 0 rfl) ?_
          refine va_get (D := D) (ci := 3) (v := .ref (ad 11)) (C := "HalfFloats$Exact") (T := T_E) (N := 12) hx hb hts (hx_up in_E) hown hK hP (10) hx_at_E rfl 11 (by decide) (hts _ (hx_cons _ k_162)) (fun _ h9 => h9) rfl d_E_settle_49 ?_
          refine lv_iload_n hx hb d_E_settle_52 rfl (lv_at hl 1 rfl) ?_
          obtain ⟨g13, h⟩ := hx_gs h
          refine va_lald hx hb hK hP (11) 2 hx_at_EL rfl g13 d_E_settle_53 ?_
          refine lv_lconst (v := 0) hx hb d_E_settle_54 rfl ?_
          refine W.lcmp hx hb d_E_settle_55 ?_
          refine lv_if_ne (tgt := 65) hx hb d_E_settle_56 (by decide) (fun c14 => ?_) (fun c14 => ?_)
          · replace h := hx_in c14 h
            exact B_65 σ x9 _ _ ls hP hD hS (lv_sub hl [0, 1] rfl) h
          · replace h := hx_ip c14 h
            obtain ⟨x15, ex15⟩ : ∃ y : Int32, y = x9 + (-1) := ⟨_, rfl⟩
            replace h := hx_ns ex15 h
            refine lv_iinc (v := x15) (lv' := [(1, .int x15), (0, .ref (ad 10))]) hx hb d_E_settle_59 hl (k := 1) rfl (by rw [ex15]; rfl) (by decide) rfl (fun ls hl => ?_)
            clear ex15
            refine lv_goto (tgt := 44) hx hb d_E_settle_62 (by decide) ?_
            exact ih σ x15 _ _ ls hP hD hS (lv_sub hl [1, 0] rfl) h
  have B_41 : ∀ (σ : hx_S) (H : Heap) (locs : List Loc) (ls : Array Slot), va_P D vwCl (hx_W T3 ad σ) H → va_D A (hx_W T3 ad σ) → va_S A s.heap H locs → lv_has ls 2 [(0, .ref (ad 10))] → f_E_settle_41 σ  = some σ0 → W p l e (headSpec w_E_settle m_E_settle).room s m args below meth c H locs 0 0 (MQ below (hx_Qv D (hx_ty T3) A (hx_W T3 ad σ0)) args s 0 0 A) (F0 m 41 ls []) := by
      intro σ H locs ls hP hD hS hl h
      rw [f_E_settle_41] at h
      refine lv_bipush (v := 19) hx hb d_E_settle_41 (by decide) ?_
      refine lv_istore_n (lv' := [(1, .int (19 : Int32)), (0, .ref (ad 10))]) hx hb d_E_settle_43 rfl hl (by decide) rfl (fun ls hl => ?_)
      exact B_44 hx_fuel σ (19 : Int32) _ _ ls hP hD hS (lv_sub hl [1, 0] rfl) h
  have B_25 : ∀ (σ : hx_S) (x5 : Int32) (H : Heap) (locs : List Loc) (ls : Array Slot), va_P D vwCl (hx_W T3 ad σ) H → va_D A (hx_W T3 ad σ) → va_S A s.heap H locs → lv_has ls 2 [(0, .ref (ad 10))] → f_E_settle_25 σ x5 = some σ0 → W p l e (headSpec w_E_settle m_E_settle).room s m args below meth c H locs 0 0 (MQ below (hx_Qv D (hx_ty T3) A (hx_W T3 ad σ0)) args s 0 0 A) (F0 m 25 ls [.int x5, .ref (ad 10)]) := by
      intro σ x5 H locs ls hP hD hS hl h
      rw [f_E_settle_25] at h
      obtain ⟨g6, h⟩ := hx_gt h
      refine va_put (D := D) (ci := 3) (v := .int x5) (ty := .boolean) (C := "HalfFloats$Exact") (T := T_E) (N := 12) hx hb hts (hx_up in_E) ty_E tyok_E nm_E hown hK hP hD hS (10) hx_at_E rfl 7 (by decide) (hts _ (hx_cons _ k_154)) (fun _ h9 => h9) rfl (by decide +kernel) (hx_nb g6) (hx_fb g6) (Nat.le_of_ble_eq_true rfl) d_E_settle_25 (fun H locs hP hD hS => ?_)
      obtain ⟨σ7, eσ7⟩ : ∃ y : hx_S, y = (hx_ex_negative_s σ x5) := ⟨_, rfl⟩
      replace hP : va_P D vwCl (hx_W T3 ad σ7) H := by rw [eσ7]; exact hP
      replace hD : va_D A (hx_W T3 ad σ7) := by rw [eσ7]; exact hD
      replace h := hx_ns eσ7 h
      clear eσ7
      refine lv_aload_n hx hb d_E_settle_28 rfl (lv_at hl 0 rfl) ?_
      refine va_get (D := D) (ci := 3) (v := .int (hx_ex_negative σ7)) (C := "HalfFloats$Exact") (T := T_E) (N := 12) hx hb hts (hx_up in_E) hown hK hP (10) hx_at_E rfl 7 (by decide) (hts _ (hx_cons _ k_154)) (fun _ h9 => h9) rfl d_E_settle_29 ?_
      refine lv_if_eq (tgt := 41) hx hb d_E_settle_32 (by decide) (fun c8 => ?_) (fun c8 => ?_)
      · replace h := hx_ip c8 h
        exact B_41 σ7 _ _ ls hP hD hS (lv_sub hl [0] rfl) h
      · replace h := hx_in c8 h
        refine lv_aload_n hx hb d_E_settle_35 rfl (lv_at hl 0 rfl) ?_
        refine lv_iconst (v := -1) hx hb d_E_settle_36 (by decide) ?_
        obtain ⟨r17, q16, eq16, h⟩ := hx_b2s h
        refine hx_wj (va_runV (As := [.int (-1 : Int32)]) (rest := []) ⟨hx, hb, hml, hown, hts⟩ (c_E_carry l D T3 ad _ σ7 (-1 : Int32) _ _ eq16) (cwV 1 hts (hx_gV hx_cons k_391 k_393 k_7 k_53 k_394) rfl rfl rfl (by decide +kernel) ⟨Nat.le_of_ble_eq_true rfl, Nat.le_of_ble_eq_true rfl⟩) (hx_preVw (va_recv hK hP (ci := 3) (q0 := 10) rfl hx_at_E) hP hK hD) rfl rfl hl.1 rfl (lv_room (Nat.le_of_ble_eq_true rfl)) d_E_settle_37 ⟨Nat.zero_le _, Nat.zero_le _⟩) hD hS hA (fun H locs hP hD hS => ?_)
        refine lv_pop2_2 hx hb d_E_settle_40 rfl ?_
        exact B_41 q16 _ _ ls hP hD hS (lv_sub hl [0] rfl) h
  refine W.eq (g2 := F0 m 0 ((lg_sl [.ref (ad 10)] ++ List.replicate (2 - (lg_sl [.ref (ad 10)]).length) Slot.unset).toArray) []) (by rw [hargs, lg_entry_eq]) ?_
  have hl := lv_entry ([.ref (ad 10)]) (n := 2) (Nat.le_of_ble_eq_true rfl)
  generalize (lg_sl ([.ref (ad 10)]) ++ List.replicate (2 - (lg_sl ([.ref (ad 10)])).length) Slot.unset).toArray = ls at hl ⊢
  have hl : lv_has ls 2 [(0, .ref (ad 10))] := hl
  rw [f_E_settle] at h
  refine lv_aload_n hx hb d_E_settle_0 rfl (lv_at hl 0 rfl) ?_
  refine va_get (D := D) (ci := 3) (v := .int (hx_ex_nonzero σ)) (C := "HalfFloats$Exact") (T := T_E) (N := 12) hx hb hts (hx_up in_E) hown hK hP (10) hx_at_E rfl 6 (by decide) (hts _ (hx_cons _ k_153)) (fun _ h9 => h9) rfl d_E_settle_1 ?_
  refine lv_iconst (v := 2) hx hb d_E_settle_4 (by decide) ?_
  refine lv_icmp_ge (tgt := 9) hx hb d_E_settle_5 (by decide) (fun c1 => ?_) (fun c1 => ?_)
  · replace h := hx_ip c1 h
    refine lv_aload_n hx hb d_E_settle_9 rfl (lv_at hl 0 rfl) ?_
    refine lv_aload_n hx hb d_E_settle_10 rfl (lv_at hl 0 rfl) ?_
    refine lv_iconst (v := 1) hx hb d_E_settle_11 (by decide) ?_
    obtain ⟨r3, q2, eq2, h⟩ := hx_b2s h
    refine hx_wj (va_runV (As := [.int (1 : Int32)]) (rest := [.ref (ad 10)]) ⟨hx, hb, hml, hown, hts⟩ (c_E_carry l D T3 ad _ σ (1 : Int32) _ _ eq2) (cwV 1 hts (hx_gV hx_cons k_391 k_393 k_7 k_53 k_394) rfl rfl rfl (by decide +kernel) ⟨Nat.le_of_ble_eq_true rfl, Nat.le_of_ble_eq_true rfl⟩) (hx_preVw (va_recv hK hP (ci := 3) (q0 := 10) rfl hx_at_E) hP hK hD) rfl rfl hl.1 rfl (lv_room (Nat.le_of_ble_eq_true rfl)) d_E_settle_12 ⟨Nat.zero_le _, Nat.zero_le _⟩) hD hS hA (fun H locs hP hD hS => ?_)
    refine lv_lconst (v := 0) hx hb d_E_settle_15 rfl ?_
    refine W.lcmp hx hb d_E_settle_16 ?_
    refine lv_if_ge (tgt := 24) hx hb d_E_settle_17 (by decide) (fun c4 => ?_) (fun c4 => ?_)
    · replace h := hx_ip c4 h
      refine lv_iconst (v := 0) hx hb d_E_settle_24 (by decide) ?_
      exact B_25 q2 (0 : Int32) _ _ ls hP hD hS (lv_sub hl [0] rfl) h
    · replace h := hx_in c4 h
      refine lv_iconst (v := 1) hx hb d_E_settle_20 (by decide) ?_
      refine lv_goto (tgt := 25) hx hb d_E_settle_21 (by decide) ?_
      exact B_25 q2 (1 : Int32) _ _ ls hP hD hS (lv_sub hl [0] rfl) h
  · replace h := hx_in c1 h
    exact W.vret hx hb hr (fun t ht hW => hx_endv h ht hW hP hK hD hS) hS.2.2 d_E_settle_8
abbrev m_E_zeroIsNegative : Room := { frames := 0, cells := 0, slots := 0, locals := 0 }
set_option maxHeartbeats 4000000 in
set_option maxRecDepth 100000 in
theorem c_E_zeroIsNegative (l : Launch) (D : va_G) (T3 : hx_T3) (ad : Nat → Nat) (σ : hx_S) (x1 : Int32) (r0 : Int32) (h : f_E_zeroIsNegative σ x1 = some r0) : hx_R l D (hx_ty T3) (hx_W T3 ad σ) y_E_zeroIsNegative w_E_zeroIsNegative m_E_zeroIsNegative [.ref (ad 10), .int x1] (.int r0) := by
  refine Met.ofW (cc := b_E_zeroIsNegative) (maxL := 2) (ret := (some .boolean)) (by decide) rfl ?_
  intro p e s m args below meth c s₁ B hml hv
  obtain ⟨hargs, hP, hK⟩ := hv
  have hx := B.exec
  have hb := B.bytes
  have hr := B.returns
  have hts := atoms_spec (ws := w_E_zeroIsNegative) B.pre
  have hown : s.vm.findClass "HalfFloats$Exact" = some m.cls := findClass_of_methodNamed B.named
  have hlocks := B.notSynchronized
  have B_26 : ∀ (x3 : Int32) (ls : Array Slot), lv_has ls 2 [(1, .int x3)] → f_E_zeroIsNegative_26 σ x3 = some r0 → W p l e (headSpec w_E_zeroIsNegative m_E_zeroIsNegative).room s m args below meth c s.heap [] 0 0 (MQ below (hx_Q (.int r0)) args s 0 0 (fun _ => False)) (F0 m 26 ls []) := by
      intro x3 ls hl h
      rw [f_E_zeroIsNegative_26] at h
      refine lv_iload_n hx hb d_E_zeroIsNegative_26 rfl (lv_at hl 0 rfl) ?_
      refine lv_iconst (v := 4) hx hb d_E_zeroIsNegative_27 (by decide) ?_
      refine lv_icmp_ne (tgt := 35) hx hb d_E_zeroIsNegative_28 (by decide) (fun c4 => ?_) (fun c4 => ?_)
      · replace h := hx_in c4 h
        refine lv_iconst (v := 0) hx hb d_E_zeroIsNegative_35 (by decide) ?_
        exact W.zret hx hb hr (hx_nb (Or.inl rfl)) (fun t ht hW => ⟨by rw [Option.some.inj h], ht⟩) (fun q hq => nomatch hq) d_E_zeroIsNegative_36
      · replace h := hx_ip c4 h
        refine lv_iconst (v := 1) hx hb d_E_zeroIsNegative_31 (by decide) ?_
        refine lv_goto (tgt := 36) hx hb d_E_zeroIsNegative_32 (by decide) ?_
        exact W.zret hx hb hr (hx_nb (Or.inr rfl)) (fun t ht hW => ⟨by rw [Option.some.inj h], ht⟩) (fun q hq => nomatch hq) d_E_zeroIsNegative_36
  refine W.eq (g2 := F0 m 0 ((lg_sl [.ref (ad 10), .int x1] ++ List.replicate (2 - (lg_sl [.ref (ad 10), .int x1]).length) Slot.unset).toArray) []) (by rw [hargs, lg_entry_eq]) ?_
  have hl := lv_entry ([.ref (ad 10), .int x1]) (n := 2) (Nat.le_of_ble_eq_true rfl)
  generalize (lg_sl ([.ref (ad 10), .int x1]) ++ List.replicate (2 - (lg_sl ([.ref (ad 10), .int x1])).length) Slot.unset).toArray = ls at hl ⊢
  have hl : lv_has ls 2 [(0, .ref (ad 10)), (1, .int x1)] := hl
  rw [f_E_zeroIsNegative] at h
  refine lv_aload_n hx hb d_E_zeroIsNegative_0 rfl (lv_at hl 0 rfl) ?_
  refine va_get (D := D) (ci := 3) (v := .int (hx_ex_nonzero σ)) (C := "HalfFloats$Exact") (T := T_E) (N := 12) hx hb hts (hx_up in_E) hown hK hP (10) hx_at_E rfl 6 (by decide) (hts _ (hx_cons _ k_153)) (fun _ h9 => h9) rfl d_E_zeroIsNegative_1 ?_
  refine lv_if_ne (tgt := 26) hx hb d_E_zeroIsNegative_4 (by decide) (fun c2 => ?_) (fun c2 => ?_)
  · replace h := hx_in c2 h
    exact B_26 x1 ls (lv_sub hl [1] rfl) h
  · replace h := hx_ip c2 h
    refine lv_aload_n hx hb d_E_zeroIsNegative_7 rfl (lv_at hl 0 rfl) ?_
    refine va_get (D := D) (ci := 3) (v := .int (hx_ex_plusSeen σ)) (C := "HalfFloats$Exact") (T := T_E) (N := 12) hx hb hts (hx_up in_E) hown hK hP (10) hx_at_E rfl 4 (by decide) (hts _ (hx_cons _ k_151)) (fun _ h9 => h9) rfl d_E_zeroIsNegative_8 ?_
    refine lv_if_eq (tgt := 21) hx hb d_E_zeroIsNegative_11 (by decide) (fun c5 => ?_) (fun c5 => ?_)
    · replace h := hx_ip c5 h
      refine lv_aload_n hx hb d_E_zeroIsNegative_21 rfl (lv_at hl 0 rfl) ?_
      refine va_get (D := D) (ci := 3) (v := .int (hx_ex_minusSeen σ)) (C := "HalfFloats$Exact") (T := T_E) (N := 12) hx hb hts (hx_up in_E) hown hK hP (10) hx_at_E rfl 5 (by decide) (hts _ (hx_cons _ k_152)) (fun _ h9 => h9) rfl d_E_zeroIsNegative_22 ?_
      obtain ⟨g6, h⟩ := hx_gt h
      exact W.zret hx hb hr (hx_nb g6) (fun t ht hW => ⟨by rw [Option.some.inj h], ht⟩) (fun q hq => nomatch hq) d_E_zeroIsNegative_25
    · replace h := hx_in c5 h
      refine lv_aload_n hx hb d_E_zeroIsNegative_14 rfl (lv_at hl 0 rfl) ?_
      refine va_get (D := D) (ci := 3) (v := .int (hx_ex_minusSeen σ)) (C := "HalfFloats$Exact") (T := T_E) (N := 12) hx hb hts (hx_up in_E) hown hK hP (10) hx_at_E rfl 5 (by decide) (hts _ (hx_cons _ k_152)) (fun _ h9 => h9) rfl d_E_zeroIsNegative_15 ?_
      refine lv_if_ne (tgt := 26) hx hb d_E_zeroIsNegative_18 (by decide) (fun c7 => ?_) (fun c7 => ?_)
      · replace h := hx_in c7 h
        exact B_26 x1 ls (lv_sub hl [1] rfl) h
      · replace h := hx_ip c7 h
        refine lv_aload_n hx hb d_E_zeroIsNegative_21 rfl (lv_at hl 0 rfl) ?_
        refine va_get (D := D) (ci := 3) (v := .int (hx_ex_minusSeen σ)) (C := "HalfFloats$Exact") (T := T_E) (N := 12) hx hb hts (hx_up in_E) hown hK hP (10) hx_at_E rfl 5 (by decide) (hts _ (hx_cons _ k_152)) (fun _ h9 => h9) rfl d_E_zeroIsNegative_22 ?_
        obtain ⟨g8, h⟩ := hx_gt h
        exact W.zret hx hb hr (hx_nb g8) (fun t ht hW => ⟨by rw [Option.some.inj h], ht⟩) (fun q hq => nomatch hq) d_E_zeroIsNegative_25
abbrev m_E_side : Room := { frames := 4, cells := 0, slots := 0, locals := 89 }
set_option maxHeartbeats 4000000 in
set_option maxRecDepth 100000 in
theorem c_E_side (l : Launch) (D : va_G) (T3 : hx_T3) (ad : Nat → Nat) (sz : Nat) (σ : hx_S) (r0 : Int32) (σ0 : hx_S) (h : f_E_side σ = some (r0, σ0)) : hx_Wi l D (hx_ty T3) y_E_side w_E_side m_E_side [.ref (ad 10)] sz (hx_W T3 ad σ) r0 (hx_W T3 ad σ0) := by
  refine Met.ofW (cc := b_E_side) (maxL := 1) (ret := (some .int)) (by decide) rfl ?_
  intro p e s m args below meth c s₁ B hml hv
  obtain ⟨hargs, hsz, hP, hK, hD0⟩ := hv
  have hx := B.exec
  have hb := B.bytes
  have hr := B.returns
  have hts := atoms_spec (ws := w_E_side) B.pre
  have hown : s.vm.findClass "HalfFloats$Exact" = some m.cls := findClass_of_methodNamed B.named
  have hlocks := B.notSynchronized
  subst hsz
  have hD := hD0.self (sz := s.heap.size)
  generalize hAe : va_A (hx_W T3 ad σ) s.heap.size = A at hD ⊢
  have hA : ∀ q : Nat, s.heap.size ≤ q → A q := fun q h => by rw [← hAe]; exact Or.inr h
  have hS : va_S A s.heap s.heap [] := va_S.rf
  have B_26 : ∀ (σ : hx_S) (x3 : Int32) (H : Heap) (locs : List Loc) (ls : Array Slot), va_P D vwCl (hx_W T3 ad σ) H → va_D A (hx_W T3 ad σ) → va_S A s.heap H locs → lv_has ls 1 [(0, .ref (ad 10))] → f_E_side_26 σ x3 = some (r0, σ0) → W p l e (headSpec w_E_side m_E_side).room s m args below meth c H locs 0 0 (MQ below (hx_Qi D (hx_ty T3) A r0 (hx_W T3 ad σ0)) args s 0 0 A) (F0 m 26 ls [.int x3]) := by
      intro σ x3 H locs ls hP hD hS hl h
      rw [f_E_side_26] at h
      refine lv_aload_n hx hb d_E_side_26 rfl (lv_at hl 0 rfl) ?_
      refine va_get (D := D) (ci := 3) (v := .int (hx_ex_minusInfinite σ)) (C := "HalfFloats$Exact") (T := T_E) (N := 12) hx hb hts (hx_up in_E) hown hK hP (10) hx_at_E rfl 3 (by decide) (hts _ (hx_cons _ k_149)) (fun _ h9 => h9) rfl d_E_side_27 ?_
      refine lv_if_eq (tgt := 37) hx hb d_E_side_30 (by decide) (fun c4 => ?_) (fun c4 => ?_)
      · replace h := hx_ip c4 h
        refine lv_iconst (v := 0) hx hb d_E_side_37 (by decide) ?_
        refine lv_isub hx hb d_E_side_38 ?_
        exact W.iret hx hb hr (fun t ht hW => hx_endi h ht hW hP hK hD hS) hS.2.2 d_E_side_39
      · replace h := hx_in c4 h
        refine lv_iconst (v := 1) hx hb d_E_side_33 (by decide) ?_
        refine lv_goto (tgt := 38) hx hb d_E_side_34 (by decide) ?_
        refine lv_isub hx hb d_E_side_38 ?_
        exact W.iret hx hb hr (fun t ht hW => hx_endi h ht hW hP hK hD hS) hS.2.2 d_E_side_39
  have B_14 : ∀ (σ : hx_S) (H : Heap) (locs : List Loc) (ls : Array Slot), va_P D vwCl (hx_W T3 ad σ) H → va_D A (hx_W T3 ad σ) → va_S A s.heap H locs → lv_has ls 1 [(0, .ref (ad 10))] → f_E_side_14 σ  = some (r0, σ0) → W p l e (headSpec w_E_side m_E_side).room s m args below meth c H locs 0 0 (MQ below (hx_Qi D (hx_ty T3) A r0 (hx_W T3 ad σ0)) args s 0 0 A) (F0 m 14 ls []) := by
      intro σ H locs ls hP hD hS hl h
      rw [f_E_side_14] at h
      refine lv_aload_n hx hb d_E_side_14 rfl (lv_at hl 0 rfl) ?_
      refine va_get (D := D) (ci := 3) (v := .int (hx_ex_plusInfinite σ)) (C := "HalfFloats$Exact") (T := T_E) (N := 12) hx hb hts (hx_up in_E) hown hK hP (10) hx_at_E rfl 2 (by decide) (hts _ (hx_cons _ k_147)) (fun _ h9 => h9) rfl d_E_side_15 ?_
      refine lv_if_eq (tgt := 25) hx hb d_E_side_18 (by decide) (fun c2 => ?_) (fun c2 => ?_)
      · replace h := hx_ip c2 h
        refine lv_iconst (v := 0) hx hb d_E_side_25 (by decide) ?_
        exact B_26 σ (0 : Int32) _ _ ls hP hD hS (lv_sub hl [0] rfl) h
      · replace h := hx_in c2 h
        refine lv_iconst (v := 1) hx hb d_E_side_21 (by decide) ?_
        refine lv_goto (tgt := 26) hx hb d_E_side_22 (by decide) ?_
        exact B_26 σ (1 : Int32) _ _ ls hP hD hS (lv_sub hl [0] rfl) h
  refine W.eq (g2 := F0 m 0 ((lg_sl [.ref (ad 10)] ++ List.replicate (1 - (lg_sl [.ref (ad 10)]).length) Slot.unset).toArray) []) (by rw [hargs, lg_entry_eq]) ?_
  have hl := lv_entry ([.ref (ad 10)]) (n := 1) (Nat.le_of_ble_eq_true rfl)
  generalize (lg_sl ([.ref (ad 10)]) ++ List.replicate (1 - (lg_sl ([.ref (ad 10)])).length) Slot.unset).toArray = ls at hl ⊢
  have hl : lv_has ls 1 [(0, .ref (ad 10))] := hl
  rw [f_E_side] at h
  refine lv_aload_n hx hb d_E_side_0 rfl (lv_at hl 0 rfl) ?_
  refine va_get (D := D) (ci := 3) (v := .int (hx_ex_plusInfinite σ)) (C := "HalfFloats$Exact") (T := T_E) (N := 12) hx hb hts (hx_up in_E) hown hK hP (10) hx_at_E rfl 2 (by decide) (hts _ (hx_cons _ k_147)) (fun _ h9 => h9) rfl d_E_side_1 ?_
  refine lv_if_ne (tgt := 14) hx hb d_E_side_4 (by decide) (fun c1 => ?_) (fun c1 => ?_)
  · replace h := hx_in c1 h
    exact B_14 σ _ _ ls hP hD hS (lv_sub hl [0] rfl) h
  · replace h := hx_ip c1 h
    refine lv_aload_n hx hb d_E_side_7 rfl (lv_at hl 0 rfl) ?_
    refine va_get (D := D) (ci := 3) (v := .int (hx_ex_minusInfinite σ)) (C := "HalfFloats$Exact") (T := T_E) (N := 12) hx hb hts (hx_up in_E) hown hK hP (10) hx_at_E rfl 3 (by decide) (hts _ (hx_cons _ k_149)) (fun _ h9 => h9) rfl d_E_side_8 ?_
    refine lv_if_eq (tgt := 40) hx hb d_E_side_11 (by decide) (fun c5 => ?_) (fun c5 => ?_)
    · replace h := hx_ip c5 h
      refine lv_aload_n hx hb d_E_side_40 rfl (lv_at hl 0 rfl) ?_
      obtain ⟨q6, eq6, h⟩ := hx_b1s h
      refine hx_wv (va_runV (As := []) (rest := []) ⟨hx, hb, hml, hown, hts⟩ (c_E_settle l D T3 ad _ σ _ eq6) (cwV 0 hts (hx_gV hx_cons k_417 k_388 k_389 k_53 k_390) rfl rfl rfl (by decide +kernel) ⟨Nat.le_of_ble_eq_true rfl, Nat.le_of_ble_eq_true rfl⟩) (hx_preVw (va_recv hK hP (ci := 3) (q0 := 10) rfl hx_at_E) hP hK hD) rfl rfl hl.1 rfl (lv_room (Nat.le_of_ble_eq_true rfl)) d_E_side_41 ⟨Nat.zero_le _, Nat.zero_le _⟩) hD hS hA (fun H locs hP hD hS => ?_)
      refine lv_aload_n hx hb d_E_side_44 rfl (lv_at hl 0 rfl) ?_
      refine va_get (D := D) (ci := 3) (v := .long (hx_ex_whole q6)) (C := "HalfFloats$Exact") (T := T_E) (N := 12) hx hb hts (hx_up in_E) hown hK hP (10) hx_at_E rfl 8 (by decide) (hts _ (hx_cons _ k_156)) (fun _ h9 => h9) rfl d_E_side_45 ?_
      refine lv_lconst (v := 0) hx hb d_E_side_48 rfl ?_
      refine W.lcmp hx hb d_E_side_49 ?_
      refine lv_if_ne (tgt := 55) hx hb d_E_side_50 (by decide) (fun c7 => ?_) (fun c7 => ?_)
      · replace h := hx_in c7 h
        refine lv_aload_n hx hb d_E_side_55 rfl (lv_at hl 0 rfl) ?_
        refine va_get (D := D) (ci := 3) (v := .int (hx_ex_negative q6)) (C := "HalfFloats$Exact") (T := T_E) (N := 12) hx hb hts (hx_up in_E) hown hK hP (10) hx_at_E rfl 7 (by decide) (hts _ (hx_cons _ k_154)) (fun _ h9 => h9) rfl d_E_side_56 ?_
        refine lv_if_eq (tgt := 66) hx hb d_E_side_59 (by decide) (fun c8 => ?_) (fun c8 => ?_)
        · replace h := hx_ip c8 h
          refine lv_iconst (v := 1) hx hb d_E_side_66 (by decide) ?_
          exact W.iret hx hb hr (fun t ht hW => hx_endi h ht hW hP hK hD hS) hS.2.2 d_E_side_67
        · replace h := hx_in c8 h
          refine lv_iconst (v := -1) hx hb d_E_side_62 (by decide) ?_
          refine lv_goto (tgt := 67) hx hb d_E_side_63 (by decide) ?_
          exact W.iret hx hb hr (fun t ht hW => hx_endi h ht hW hP hK hD hS) hS.2.2 d_E_side_67
      · replace h := hx_ip c7 h
        refine lv_iconst (v := 0) hx hb d_E_side_53 (by decide) ?_
        exact W.iret hx hb hr (fun t ht hW => hx_endi h ht hW hP hK hD hS) hS.2.2 d_E_side_54
    · replace h := hx_in c5 h
      exact B_14 σ _ _ ls hP hD hS (lv_sub hl [0] rfl) h
