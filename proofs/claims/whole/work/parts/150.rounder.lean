def f_D_infinite (σ : hx_S) (x1 : Int32) (k2 : Nat) : Option Int32 := (if (hx_fm_kind (hx_fm σ k2)) = 0 then hx_b1 (f_F_signed (hx_fm σ k2) x1 (hx_fm_limit (hx_fm σ k2))) (fun r4 => some r4) else (if (hx_fm_kind (hx_fm σ k2)) = 1 then hx_b1 (f_F_signed (hx_fm σ k2) x1 ((hx_fm_limit (hx_fm σ k2)) - (1 : Int32))) (fun r6 => some r6) else some (hx_fm_theNan (hx_fm σ k2))))
def f_D_shifted (x1 : Int64) (x2 : Int32) : Option Int64 := (if x2 ≤ (62 : Int32) then (if x2 < 0 then some (x1 <<< ((-x2).toInt64 &&& 63)) else some ((x1.toUInt64 >>> (x2.toInt64.toUInt64 &&& Int64.toUInt64 63)).toInt64)) else some (0 : Int64))
def f_D_draw (σ : hx_S) : Option (Int64 × hx_S) := hx_n (((hx_rd_state σ) * (48271 : Int64)) - ((hx_rd_state σ) * (48271 : Int64)) / (2147483647 : Int64) * (2147483647 : Int64)) (fun x1 => hx_n (hx_rd_state_s σ x1) (fun σ2 => some ((((hx_rd_state σ2) >>> ((4 : Int32).toInt64 &&& 63)) &&& (65535 : Int64)), σ2)))
def f_D_againstHalf (x1 : Int64) (x2 : Int32) (x3 : Int32) : Option Int32 := (if x2 ≤ (62 : Int32) then hx_b1 (f_JL_compare x1 ((1 : Int64) <<< ((x2 - (1 : Int32)).toInt64 &&& 63))) (fun r5 => (if r5 = 0 then (if x3 = 0 then some r5 else some (1 : Int32)) else some r5)) else some (-1 : Int32))
def f_D_goesFar (x1 : Int32) (x2 : Int32) (x3 : Int32) (x4 : Int32) : Option Int32 := (if x4 = 0 then (if 0 < x3 then some (1 : Int32) else (if x3 = 0 then (if x2 = 0 then some (0 : Int32) else some (1 : Int32)) else some (0 : Int32))) else (if x4 = 1 then (if x3 < 0 then some (0 : Int32) else some (1 : Int32)) else (if x4 = 2 then some (0 : Int32) else (if x4 = 3 then (if x1 = 0 then some (1 : Int32) else some (0 : Int32)) else (if x4 = 4 then (if x1 = 0 ∨ x1 = 1 then some x1 else none) else some (0 : Int32))))))
def f_D_stopsShort_14 (x5 : Int32) (x6 : Int32) : Option Int32 := (if x6 = (4 : Int32) then (if x5 = 0 then some (1 : Int32) else some (0 : Int32)) else some (0 : Int32))
def f_D_stopsShort (x1 : Int32) (x2 : Int32) : Option Int32 := (if x2 = (2 : Int32) then some (1 : Int32) else (if x2 = (3 : Int32) then (if x1 = 0 then (f_D_stopsShort_14 x1 x2) else some (1 : Int32)) else (f_D_stopsShort_14 x1 x2)))
def f_D_finite_247 (σ : hx_S) (x82 : Int32) (k83 : Nat) (x84 : Int32) : Option (Int32 × hx_S) := (if x84 = 0 then hx_b1 (f_D_infinite σ x82 k83) (fun r86 => some (r86, σ)) else hx_b1 (f_F_signed (hx_fm σ k83) x82 ((hx_fm_limit (hx_fm σ k83)) - (1 : Int32))) (fun r87 => some (r87, σ)))
def f_D_finite_246 (σ : hx_S) (x80 : Int32) (k81 : Nat) : Option (Int32 × hx_S) := (f_D_finite_247 σ x80 k81 (0 : Int32))
def f_D_finite_202 (σ : hx_S) (x71 : Int32) (k72 : Nat) (x73 : Int32) (x74 : Int64) : Option (Int32 × hx_S) := (if (lg_cmp x74 ((hx_fm_limit (hx_fm σ k72)).toInt64)) < 0 then hx_b1 (f_F_signed (hx_fm σ k72) x71 x74.toInt32) (fun r76 => some (r76, σ)) else hx_n ((hx_rd_raised σ) ||| (10 : Int32)) (fun x77 => hx_n (hx_rd_raised_s σ x77) (fun σ78 => (if (hx_fm_kind (hx_fm σ78 k72)) = 0 then hx_b1 (f_D_stopsShort x71 x73) (fun r88 => (if r88 = 0 then (f_D_finite_246 σ78 x71 k72) else (f_D_finite_247 σ78 x71 k72 (1 : Int32)))) else (f_D_finite_246 σ78 x71 k72)))))
def f_D_finite_199 (σ : hx_S) (x65 : Int32) (k66 : Nat) (x67 : Int32) (x68 : Int64) (x69 : Int64) : Option (Int32 × hx_S) := hx_n (x68 + x69) (fun x70 => (f_D_finite_202 σ x65 k66 x67 x70))
def f_D_finite_185 (σ : hx_S) (x59 : Int32) (k60 : Nat) (x61 : Int32) (x62 : Int64) (x63 : Int32) : Option (Int32 × hx_S) := (if x63 = 0 then (f_D_finite_199 σ x59 k60 x61 x62 (0 : Int64)) else (f_D_finite_199 σ x59 k60 x61 x62 (1 : Int64)))
def f_D_finite_171 (σ : hx_S) (x48 : Int32) (x49 : Int32) (k50 : Nat) (x51 : Int32) (x52 : Int32) (x53 : Int64) (x54 : Int64) (x55 : Int32) (x56 : Int32) : Option (Int32 × hx_S) := hx_b1 (f_D_againstHalf x53 x52 x49) (fun r57 => hx_b1 (f_D_goesFar x55 x56 r57 x51) (fun r58 => (f_D_finite_185 σ x48 k50 x51 x54 r58)))
def f_D_finite_120 (σ : hx_S) (x34 : Int32) (x35 : Int32) (k36 : Nat) (x37 : Int32) (x38 : Int32) (x39 : Int64) (x40 : Int64) (x41 : Int64) (x42 : Int32) (x43 : Int32) : Option (Int32 × hx_S) := hx_n (x42 ||| x43) (fun x44 => hx_n (hx_rd_raised_s σ x44) (fun σ45 => (if x37 = (5 : Int32) then hx_b2 (f_D_draw σ45) (fun r91 q90 => hx_b1 (f_D_shifted x40 (x38 - (16 : Int32))) (fun r92 => (if 0 ≤ (lg_cmp r91 r92) then (f_D_finite_185 q90 x34 k36 x37 x41 (0 : Int32)) else (f_D_finite_185 q90 x34 k36 x37 x41 (1 : Int32))))) else (if (lg_cmp (x39 &&& (1 : Int64)) (1 : Int64)) = 0 then (f_D_finite_171 σ45 x34 x35 k36 x37 x38 x40 x41 x34 (1 : Int32)) else (f_D_finite_171 σ45 x34 x35 k36 x37 x38 x40 x41 x34 (0 : Int32))))))
def f_D_finite_98 (σ : hx_S) (x24 : Int32) (x25 : Int32) (k26 : Nat) (x27 : Int32) (x28 : Int32) (x29 : Int32) (x30 : Int64) (x31 : Int64) (x32 : Int64) : Option (Int32 × hx_S) := (if (hx_fm_leastTop (hx_fm σ k26)) ≤ x28 then (f_D_finite_120 σ x24 x25 k26 x27 x29 x30 x31 x32 (hx_rd_raised σ) (8 : Int32)) else (f_D_finite_120 σ x24 x25 k26 x27 x29 x30 x31 x32 (hx_rd_raised σ) (12 : Int32)))
def f_D_finite_64 (σ : hx_S) (x13 : Int32) (x14 : Int32) (k15 : Nat) (x16 : Int32) (x17 : Int32) (x18 : Int32) (x19 : Int32) (x20 : Int64) (x21 : Int64) : Option (Int32 × hx_S) := hx_n (((x18 - (hx_fm_leastPower (hx_fm σ k15))).toInt64 <<< ((hx_fm_fracBits (hx_fm σ k15)).toInt64 &&& 63)) + x20) (fun x22 => (if (lg_cmp x21 (0 : Int64)) = 0 then (if x14 = 0 then (f_D_finite_202 σ x13 k15 x16 x22) else (f_D_finite_98 σ x13 x14 k15 x16 x17 x19 x20 x21 x22)) else (f_D_finite_98 σ x13 x14 k15 x16 x17 x19 x20 x21 x22)))
def f_D_finite (σ : hx_S) (x1 : Int32) (x2 : Int64) (x3 : Int32) (x4 : Int32) (k5 : Nat) (x6 : Int32) : Option (Int32 × hx_S) := hx_b1 (f_JL_numberOfLeadingZeros x2) (fun r7 => hx_n ((x3 + (63 : Int32)) - r7) (fun x8 => hx_n ((if x8 < (hx_fm_leastTop (hx_fm σ k5)) then (hx_fm_leastTop (hx_fm σ k5)) else x8) - (hx_fm_fracBits (hx_fm σ k5))) (fun x9 => hx_n (x9 - x3) (fun x10 => hx_b1 (f_D_shifted x2 x10) (fun r11 => (if x10 ≤ 0 then (f_D_finite_64 σ x1 x4 k5 x6 x8 x9 x10 r11 (0 : Int64)) else hx_b1 (f_D_shifted r11 (-x10)) (fun r95 => (f_D_finite_64 σ x1 x4 k5 x6 x8 x9 x10 r11 (x2 - r95)))))))))
def f_D_turned_76 (σ : hx_S) (k11 : Nat) (x12 : Int32) (x13 : Int32) (k14 : Nat) (x15 : Int32) (x16 : Int32) : Option (Int32 × hx_S) := hx_b1 (f_F_wholeOf (hx_fm σ k11) x12) (fun r17 => hx_b1 (f_F_powerOf (hx_fm σ k11) x12) (fun r18 => hx_b2 (f_D_finite σ x16 r17 (r18 + x13) (0 : Int32) k14 x15) (fun r20 q19 => some (r20, q19))))
def f_D_turned (σ : hx_S) (k1 : Nat) (x2 : Int32) (x3 : Int32) (k4 : Nat) (x5 : Int32) : Option (Int32 × hx_S) := hx_b1 (f_F_sortOf (hx_fm σ k1) x2) (fun r6 => hx_b1 (f_F_isNegative (hx_fm σ k1) x2) (fun r7 => (if r6 = 0 then hx_b1 (f_F_signed (hx_fm σ k4) r7 (0 : Int32)) (fun r9 => some (r9, σ)) else (if r6 = 1 then (f_D_turned_76 σ k1 x2 x3 k4 x5 r7) else (if r6 = 2 then (f_D_turned_76 σ k1 x2 x3 k4 x5 r7) else (if r6 = 3 then hx_b1 (f_D_infinite σ r7 k4) (fun r23 => some (r23, σ)) else (if r6 = 4 then some ((hx_fm_theNan (hx_fm σ k4)), σ) else (f_D_turned_76 σ k1 x2 x3 k4 x5 r7))))))))
def f_D_rounded_33 (σ : hx_S) (k5 : Nat) : Option (Int32 × hx_S) := hx_n ((hx_rd_raised σ) ||| (1 : Int32)) (fun x6 => hx_n (hx_rd_raised_s σ x6) (fun σ7 => some ((hx_fm_theNan (hx_fm σ7 k5)), σ7)))
def f_D_rounded_62 (σ : hx_S) (k12 : Nat) : Option (Int32 × hx_S) := hx_b1 (f_D_infinite σ (hx_ex_minusInfinite σ) k12) (fun r13 => some (r13, σ))
def f_D_rounded_48 (σ : hx_S) (k9 : Nat) (x10 : Int32) : Option (Int32 × hx_S) := (if (hx_ex_plusInfinite σ) = 0 then (if (hx_ex_minusInfinite σ) = 0 then hx_b1 (f_E_settle σ) (fun q15 => (if (lg_cmp (hx_ex_whole q15) (0 : Int64)) = 0 then hx_b1 (f_E_zeroIsNegative q15 x10) (fun r19 => hx_b1 (f_F_signed (hx_fm q15 k9) r19 (0 : Int32)) (fun r20 => some (r20, q15))) else hx_b2 (f_D_finite q15 (hx_ex_negative q15) (hx_ex_whole q15) (hx_ex_power q15) (hx_ex_more q15) k9 x10) (fun r18 q17 => some (r18, q17)))) else (f_D_rounded_62 σ k9)) else (f_D_rounded_62 σ k9))
def f_D_rounded (σ : hx_S) (k1 : Nat) (x2 : Int32) : Option (Int32 × hx_S) := (if (hx_ex_hasNan σ) = 0 then (if (hx_ex_zeroTimesInfinite σ) = 0 then (if (hx_ex_plusInfinite σ) = 0 then (f_D_rounded_48 σ k1 x2) else (if (hx_ex_minusInfinite σ) = 0 then (f_D_rounded_48 σ k1 x2) else (f_D_rounded_33 σ k1))) else (f_D_rounded_33 σ k1)) else some ((hx_fm_theNan (hx_fm σ k1)), σ))
abbrev m_D_infinite : Room := { frames := 1, cells := 0, slots := 0, locals := 22 }
set_option maxHeartbeats 4000000 in
set_option maxRecDepth 100000 in
theorem c_D_infinite (l : Launch) (D : va_G) (T3 : hx_T3) (ad : Nat → Nat) (σ : hx_S) (x1 : Int32) (k2 : Nat) (hk2 : k2 < 4) (r0 : Int32) (h : f_D_infinite σ x1 k2 = some r0) : hx_R l D (hx_ty T3) (hx_W T3 ad σ) y_D_infinite w_D_infinite m_D_infinite [.ref (ad 12), .int x1, .ref (ad (2 + k2))] (.int r0) := by
  refine Met.ofW (cc := b_D_infinite) (maxL := 3) (ret := (some .int)) (by decide) rfl ?_
  intro p e s m args below meth c s₁ B hml hv
  obtain ⟨hargs, hP, hK⟩ := hv
  have hx := B.exec
  have hb := B.bytes
  have hr := B.returns
  have hts := atoms_spec (ws := w_D_infinite) B.pre
  have hown : s.vm.findClass "HalfFloats$Rounder" = some m.cls := findClass_of_methodNamed B.named
  have hlocks := B.notSynchronized
  refine W.eq (g2 := F0 m 0 ((lg_sl [.ref (ad 12), .int x1, .ref (ad (2 + k2))] ++ List.replicate (3 - (lg_sl [.ref (ad 12), .int x1, .ref (ad (2 + k2))]).length) Slot.unset).toArray) []) (by rw [hargs, lg_entry_eq]) ?_
  have hl := lv_entry ([.ref (ad 12), .int x1, .ref (ad (2 + k2))]) (n := 3) (Nat.le_of_ble_eq_true rfl)
  generalize (lg_sl ([.ref (ad 12), .int x1, .ref (ad (2 + k2))]) ++ List.replicate (3 - (lg_sl ([.ref (ad 12), .int x1, .ref (ad (2 + k2))])).length) Slot.unset).toArray = ls at hl ⊢
  have hl : lv_has ls 3 [(0, .ref (ad 12)), (1, .int x1), (2, .ref (ad (2 + k2)))] := hl
  rw [f_D_infinite] at h
  refine lv_aload_n hx hb d_D_infinite_0 rfl (lv_at hl 2 rfl) ?_
  refine va_get (D := D) (ci := 1) (v := .int (hx_fm_kind (hx_fm σ k2))) (C := "HalfFloats$Format") (T := T_F) (N := 8) hx hb hts (hx_up in_F) hown hK hP (2 + k2) (hx_at_F hk2) rfl 2 (by decide) (hts _ (hx_cons _ k_86)) (fun _ h9 => h9) rfl d_D_infinite_1 ?_
  by_cases c3 : (hx_fm_kind (hx_fm σ k2)) = 0
  · replace h := hx_ip c3 h
    refine lv_lookup (off := 28) (tgt := 32) hx hb d_D_infinite_4 (by decide) (by rw [c3] <;> rfl) (by decide) ?_
    refine lv_aload_n hx hb d_D_infinite_32 rfl (lv_at hl 2 rfl) ?_
    refine lv_iload_n hx hb d_D_infinite_33 rfl (lv_at hl 1 rfl) ?_
    refine lv_aload_n hx hb d_D_infinite_34 rfl (lv_at hl 2 rfl) ?_
    refine va_get (D := D) (ci := 1) (v := .int (hx_fm_limit (hx_fm σ k2))) (C := "HalfFloats$Format") (T := T_F) (N := 8) hx hb hts (hx_up in_F) hown hK hP (2 + k2) (hx_at_F hk2) rfl 4 (by decide) (hts _ (hx_cons _ k_91)) (fun _ h9 => h9) rfl d_D_infinite_35 ?_
    obtain ⟨r4, er4, h⟩ := hx_b1s h
    refine hx_rd (va_runV (As := [.int x1, .int (hx_fm_limit (hx_fm σ k2))]) (rest := []) ⟨hx, hb, hml, hown, hts⟩ (c_F_signed l D T3 (ad (2 + k2)) (hx_fm σ k2) x1 (hx_fm_limit (hx_fm σ k2)) _ er4) (cwV 2 hts (hx_gV hx_cons k_302 k_303 k_304 k_51 k_305) rfl rfl rfl (by decide +kernel) ⟨Nat.le_of_ble_eq_true rfl, Nat.le_of_ble_eq_true rfl⟩) (hx_preV (va_recv hK hP (ci := 1) (q0 := 2 + k2) rfl (hx_at_F hk2)) (hx_one hP (hx_at_F hk2)) hK) rfl rfl hl.1 rfl (lv_room (Nat.le_of_ble_eq_true rfl)) d_D_infinite_38 ⟨Nat.zero_le _, Nat.zero_le _⟩) ?_
    exact W.iret hx hb hr (fun t ht hW => ⟨by rw [Option.some.inj h], ht⟩) (fun q hq => nomatch hq) d_D_infinite_41
  · replace h := hx_in c3 h
    by_cases c5 : (hx_fm_kind (hx_fm σ k2)) = 1
    · replace h := hx_ip c5 h
      refine lv_lookup (off := 38) (tgt := 42) hx hb d_D_infinite_4 (by decide) (by rw [c5] <;> rfl) (by decide) ?_
      refine lv_aload_n hx hb d_D_infinite_42 rfl (lv_at hl 2 rfl) ?_
      refine lv_iload_n hx hb d_D_infinite_43 rfl (lv_at hl 1 rfl) ?_
      refine lv_aload_n hx hb d_D_infinite_44 rfl (lv_at hl 2 rfl) ?_
      refine va_get (D := D) (ci := 1) (v := .int (hx_fm_limit (hx_fm σ k2))) (C := "HalfFloats$Format") (T := T_F) (N := 8) hx hb hts (hx_up in_F) hown hK hP (2 + k2) (hx_at_F hk2) rfl 4 (by decide) (hts _ (hx_cons _ k_91)) (fun _ h9 => h9) rfl d_D_infinite_45 ?_
      refine lv_iconst (v := 1) hx hb d_D_infinite_48 (by decide) ?_
      refine lv_isub hx hb d_D_infinite_49 ?_
      obtain ⟨r6, er6, h⟩ := hx_b1s h
      refine hx_rd (va_runV (As := [.int x1, .int ((hx_fm_limit (hx_fm σ k2)) - (1 : Int32))]) (rest := []) ⟨hx, hb, hml, hown, hts⟩ (c_F_signed l D T3 (ad (2 + k2)) (hx_fm σ k2) x1 ((hx_fm_limit (hx_fm σ k2)) - (1 : Int32)) _ er6) (cwV 2 hts (hx_gV hx_cons k_302 k_303 k_304 k_51 k_305) rfl rfl rfl (by decide +kernel) ⟨Nat.le_of_ble_eq_true rfl, Nat.le_of_ble_eq_true rfl⟩) (hx_preV (va_recv hK hP (ci := 1) (q0 := 2 + k2) rfl (hx_at_F hk2)) (hx_one hP (hx_at_F hk2)) hK) rfl rfl hl.1 rfl (lv_room (Nat.le_of_ble_eq_true rfl)) d_D_infinite_50 ⟨Nat.zero_le _, Nat.zero_le _⟩) ?_
      exact W.iret hx hb hr (fun t ht hW => ⟨by rw [Option.some.inj h], ht⟩) (fun q hq => nomatch hq) d_D_infinite_53
    · replace h := hx_in c5 h
      refine lv_lookup (off := 50) (tgt := 54) hx hb d_D_infinite_4 (by decide) (by rw [lv_osw c3 (by decide), lv_osw c5 (by decide)] <;> rfl) (by decide) ?_
      refine lv_aload_n hx hb d_D_infinite_54 rfl (lv_at hl 2 rfl) ?_
      refine va_get (D := D) (ci := 1) (v := .int (hx_fm_theNan (hx_fm σ k2))) (C := "HalfFloats$Format") (T := T_F) (N := 8) hx hb hts (hx_up in_F) hown hK hP (2 + k2) (hx_at_F hk2) rfl 5 (by decide) (hts _ (hx_cons _ k_92)) (fun _ h9 => h9) rfl d_D_infinite_55 ?_
      exact W.iret hx hb hr (fun t ht hW => ⟨by rw [Option.some.inj h], ht⟩) (fun q hq => nomatch hq) d_D_infinite_58
abbrev m_D_shifted : Room := { frames := 0, cells := 0, slots := 0, locals := 0 }
set_option maxHeartbeats 4000000 in
set_option maxRecDepth 100000 in
theorem c_D_shifted (l : Launch) (D : va_G) (T3 : hx_T3)  (x1 : Int64) (x2 : Int32) (r0 : Int64) (h : f_D_shifted x1 x2 = some r0) : hx_R l D (hx_ty T3) [] y_D_shifted w_D_shifted m_D_shifted [.long x1, .int x2] (.long r0) := by
  refine Met.ofW (cc := b_D_shifted) (maxL := 3) (ret := (some .long)) (by decide) rfl ?_
  intro p e s m args below meth c s₁ B hml hv
  obtain ⟨hargs, hP, hK⟩ := hv
  have hx := B.exec
  have hb := B.bytes
  have hr := B.returns
  have hts := atoms_spec (ws := w_D_shifted) B.pre
  have hown : s.vm.findClass "HalfFloats$Rounder" = some m.cls := findClass_of_methodNamed B.named
  have hlocks := B.notSynchronized
  refine W.eq (g2 := F0 m 0 ((lg_sl [.long x1, .int x2] ++ List.replicate (3 - (lg_sl [.long x1, .int x2]).length) Slot.unset).toArray) []) (by rw [hargs, lg_entry_eq]) ?_
  have hl := lv_entry ([.long x1, .int x2]) (n := 3) (Nat.le_of_ble_eq_true rfl)
  generalize (lg_sl ([.long x1, .int x2]) ++ List.replicate (3 - (lg_sl ([.long x1, .int x2])).length) Slot.unset).toArray = ls at hl ⊢
  have hl : lv_has ls 3 [(0, .long x1), (2, .int x2)] := hl
  rw [f_D_shifted] at h
  refine lv_iload_n hx hb d_D_shifted_0 rfl (lv_at hl 1 rfl) ?_
  refine lv_bipush (v := 62) hx hb d_D_shifted_1 (by decide) ?_
  refine lv_icmp_le (tgt := 8) hx hb d_D_shifted_3 (by decide) (fun c3 => ?_) (fun c3 => ?_)
  · replace h := hx_ip c3 h
    refine lv_iload_n hx hb d_D_shifted_8 rfl (lv_at hl 1 rfl) ?_
    refine lv_if_lt (tgt := 18) hx hb d_D_shifted_9 (by decide) (fun c4 => ?_) (fun c4 => ?_)
    · replace h := hx_ip c4 h
      refine lv_lload_n hx hb d_D_shifted_18 rfl (lv_at hl 0 rfl) ?_
      refine lv_iload_n hx hb d_D_shifted_19 rfl (lv_at hl 1 rfl) ?_
      refine lv_ineg hx hb d_D_shifted_20 ?_
      refine lv_lshl hx hb d_D_shifted_21 rfl ?_
      exact W.lret hx hb hr (fun t ht hW => ⟨by rw [Option.some.inj h], ht⟩) (fun q hq => nomatch hq) d_D_shifted_22
    · replace h := hx_in c4 h
      refine lv_lload_n hx hb d_D_shifted_12 rfl (lv_at hl 0 rfl) ?_
      refine lv_iload_n hx hb d_D_shifted_13 rfl (lv_at hl 1 rfl) ?_
      refine lv_lushr hx hb d_D_shifted_14 rfl ?_
      refine lv_goto (tgt := 22) hx hb d_D_shifted_15 (by decide) ?_
      exact W.lret hx hb hr (fun t ht hW => ⟨by rw [Option.some.inj h], ht⟩) (fun q hq => nomatch hq) d_D_shifted_22
  · replace h := hx_in c3 h
    refine lv_lconst (v := 0) hx hb d_D_shifted_6 rfl ?_
    exact W.lret hx hb hr (fun t ht hW => ⟨by rw [Option.some.inj h], ht⟩) (fun q hq => nomatch hq) d_D_shifted_7
abbrev m_D_draw : Room := { frames := 0, cells := 0, slots := 0, locals := 0 }
set_option maxHeartbeats 4000000 in
set_option maxRecDepth 100000 in
theorem c_D_draw (l : Launch) (D : va_G) (T3 : hx_T3) (ad : Nat → Nat) (sz : Nat) (σ : hx_S) (r0 : Int64) (σ0 : hx_S) (h : f_D_draw σ = some (r0, σ0)) : hx_Wj l D (hx_ty T3) y_D_draw w_D_draw m_D_draw [.ref (ad 12)] sz (hx_W T3 ad σ) r0 (hx_W T3 ad σ0) := by
  refine Met.ofW (cc := b_D_draw) (maxL := 1) (ret := (some .long)) (by decide) rfl ?_
  intro p e s m args below meth c s₁ B hml hv
  obtain ⟨hargs, hsz, hP, hK, hD0⟩ := hv
  have hx := B.exec
  have hb := B.bytes
  have hr := B.returns
  have hts := atoms_spec (ws := w_D_draw) B.pre
  have hown : s.vm.findClass "HalfFloats$Rounder" = some m.cls := findClass_of_methodNamed B.named
  have hlocks := B.notSynchronized
  subst hsz
  have hD := hD0.self (sz := s.heap.size)
  generalize hAe : va_A (hx_W T3 ad σ) s.heap.size = A at hD ⊢
  have hA : ∀ q : Nat, s.heap.size ≤ q → A q := fun q h => by rw [← hAe]; exact Or.inr h
  have hS : va_S A s.heap s.heap [] := va_S.rf
  refine W.eq (g2 := F0 m 0 ((lg_sl [.ref (ad 12)] ++ List.replicate (1 - (lg_sl [.ref (ad 12)]).length) Slot.unset).toArray) []) (by rw [hargs, lg_entry_eq]) ?_
  have hl := lv_entry ([.ref (ad 12)]) (n := 1) (Nat.le_of_ble_eq_true rfl)
  generalize (lg_sl ([.ref (ad 12)]) ++ List.replicate (1 - (lg_sl ([.ref (ad 12)])).length) Slot.unset).toArray = ls at hl ⊢
  have hl : lv_has ls 1 [(0, .ref (ad 12))] := hl
  rw [f_D_draw] at h
  refine lv_aload_n hx hb d_D_draw_0 rfl (lv_at hl 0 rfl) ?_
  refine lv_aload_n hx hb d_D_draw_1 rfl (lv_at hl 0 rfl) ?_
  refine va_get (D := D) (ci := 4) (v := .long (hx_rd_state σ)) (C := "HalfFloats$Rounder") (T := T_D) (N := 2) hx hb hts (hx_up in_D) hown hK hP (12) hx_at_D rfl 1 (by decide) (hts _ (hx_cons _ k_197)) (fun _ h9 => h9) rfl d_D_draw_2 ?_
  refine lv_ldc2 (v := 48271) hx hb hown (hts _ (hx_cons _ k_327)) d_D_draw_5 ?_
  refine lv_lmul hx hb d_D_draw_8 ?_
  refine lv_ldc2 (v := 2147483647) hx hb hown (hts _ (hx_cons _ k_328)) d_D_draw_9 ?_
  refine lv_lrem hx hb d_D_draw_12 (by decide) ?_
  refine lv_topl (fun x1 ex1 => ?_)
  replace h := hx_ns ex1 h
  clear ex1
  refine va_put (D := D) (ci := 4) (v := .long x1) (ty := .long) (C := "HalfFloats$Rounder") (T := T_D) (N := 2) hx hb hts (hx_up in_D) ty_D tyok_D nm_D hown hK hP hD hS (12) hx_at_D rfl 1 (by decide) (hts _ (hx_cons _ k_197)) (fun _ h9 => h9) rfl (by decide +kernel) rfl rfl (Nat.le_of_ble_eq_true rfl) d_D_draw_13 (fun H locs hP hD hS => ?_)
  obtain ⟨σ2, eσ2⟩ : ∃ y : hx_S, y = (hx_rd_state_s σ x1) := ⟨_, rfl⟩
  replace hP : va_P D vwCl (hx_W T3 ad σ2) H := by rw [eσ2]; exact hP
  replace hD : va_D A (hx_W T3 ad σ2) := by rw [eσ2]; exact hD
  replace h := hx_ns eσ2 h
  clear eσ2
  refine lv_aload_n hx hb d_D_draw_16 rfl (lv_at hl 0 rfl) ?_
  refine va_get (D := D) (ci := 4) (v := .long (hx_rd_state σ2)) (C := "HalfFloats$Rounder") (T := T_D) (N := 2) hx hb hts (hx_up in_D) hown hK hP (12) hx_at_D rfl 1 (by decide) (hts _ (hx_cons _ k_197)) (fun _ h9 => h9) rfl d_D_draw_17 ?_
  refine lv_iconst (v := 4) hx hb d_D_draw_20 (by decide) ?_
  refine lv_lshr hx hb d_D_draw_21 rfl ?_
  refine lv_ldc2 (v := 65535) hx hb hown (hts _ (hx_cons _ k_329)) d_D_draw_22 ?_
  refine lv_land hx hb d_D_draw_25 ?_
  exact W.lret hx hb hr (fun t ht hW => hx_endj h ht hW hP hK hD hS) hS.2.2 d_D_draw_26
abbrev m_D_againstHalf : Room := { frames := 1, cells := 0, slots := 0, locals := 23 }
set_option maxHeartbeats 4000000 in
set_option maxRecDepth 100000 in
theorem c_D_againstHalf (l : Launch) (D : va_G) (T3 : hx_T3)  (x1 : Int64) (x2 : Int32) (x3 : Int32) (r0 : Int32) (h : f_D_againstHalf x1 x2 x3 = some r0) : hx_R l D (hx_ty T3) [] y_D_againstHalf w_D_againstHalf m_D_againstHalf [.long x1, .int x2, .int x3] (.int r0) := by
  refine Met.ofW (cc := b_D_againstHalf) (maxL := 5) (ret := (some .int)) (by decide) rfl ?_
  intro p e s m args below meth c s₁ B hml hv
  obtain ⟨hargs, hP, hK⟩ := hv
  have hx := B.exec
  have hb := B.bytes
  have hr := B.returns
  have hts := atoms_spec (ws := w_D_againstHalf) B.pre
  have hown : s.vm.findClass "HalfFloats$Rounder" = some m.cls := findClass_of_methodNamed B.named
  have hlocks := B.notSynchronized
  refine W.eq (g2 := F0 m 0 ((lg_sl [.long x1, .int x2, .int x3] ++ List.replicate (5 - (lg_sl [.long x1, .int x2, .int x3]).length) Slot.unset).toArray) []) (by rw [hargs, lg_entry_eq]) ?_
  have hl := lv_entry ([.long x1, .int x2, .int x3]) (n := 5) (Nat.le_of_ble_eq_true rfl)
  generalize (lg_sl ([.long x1, .int x2, .int x3]) ++ List.replicate (5 - (lg_sl ([.long x1, .int x2, .int x3])).length) Slot.unset).toArray = ls at hl ⊢
  have hl : lv_has ls 5 [(0, .long x1), (2, .int x2), (3, .int x3)] := hl
  rw [f_D_againstHalf] at h
  refine lv_iload_n hx hb d_D_againstHalf_0 rfl (lv_at hl 1 rfl) ?_
  refine lv_bipush (v := 62) hx hb d_D_againstHalf_1 (by decide) ?_
  refine lv_icmp_le (tgt := 8) hx hb d_D_againstHalf_3 (by decide) (fun c4 => ?_) (fun c4 => ?_)
  · replace h := hx_ip c4 h
    refine lv_lload_n hx hb d_D_againstHalf_8 rfl (lv_at hl 0 rfl) ?_
    refine lv_lconst (v := 1) hx hb d_D_againstHalf_9 rfl ?_
    refine lv_iload_n hx hb d_D_againstHalf_10 rfl (lv_at hl 1 rfl) ?_
    refine lv_iconst (v := 1) hx hb d_D_againstHalf_11 (by decide) ?_
    refine lv_isub hx hb d_D_againstHalf_12 ?_
    refine lv_lshl hx hb d_D_againstHalf_13 rfl ?_
    obtain ⟨r5, er5, h⟩ := hx_b1s h
    refine hx_rd (va_runS (As := [.long x1, .long ((1 : Int64) <<< ((x2 - (1 : Int32)).toInt64 &&& 63))]) (rest := []) ⟨hx, hb, hml, hown, hts⟩ (c_JL_compare l D T3 x1 ((1 : Int64) <<< ((x2 - (1 : Int32)).toInt64 &&& 63)) _ er5) (va_cwS 2 hts (hx_gS hx_cons k_333 k_334 k_57 k_335) rfl rfl rfl (by decide +kernel) ⟨Nat.le_of_ble_eq_true rfl, Nat.le_of_ble_eq_true rfl⟩) (hx_preS hx_nil hK) rfl rfl hl.1 rfl (lv_room (Nat.le_of_ble_eq_true rfl)) d_D_againstHalf_14 ⟨Nat.zero_le _, Nat.zero_le _⟩) ?_
    refine lv_istore (lv' := [(4, .int r5), (0, .long x1), (2, .int x2), (3, .int x3)]) hx hb d_D_againstHalf_17 hl (by decide) rfl (fun ls hl => ?_)
    refine lv_iload hx hb d_D_againstHalf_19 (lv_at hl 0 rfl) ?_
    refine lv_if_ne (tgt := 32) hx hb d_D_againstHalf_21 (by decide) (fun c6 => ?_) (fun c6 => ?_)
    · replace h := hx_in c6 h
      refine lv_iload hx hb d_D_againstHalf_32 (lv_at hl 0 rfl) ?_
      exact W.iret hx hb hr (fun t ht hW => ⟨by rw [Option.some.inj h], ht⟩) (fun q hq => nomatch hq) d_D_againstHalf_34
    · replace h := hx_ip c6 h
      refine lv_iload_n hx hb d_D_againstHalf_24 rfl (lv_at hl 3 rfl) ?_
      refine lv_if_eq (tgt := 32) hx hb d_D_againstHalf_25 (by decide) (fun c7 => ?_) (fun c7 => ?_)
      · replace h := hx_ip c7 h
        refine lv_iload hx hb d_D_againstHalf_32 (lv_at hl 0 rfl) ?_
        exact W.iret hx hb hr (fun t ht hW => ⟨by rw [Option.some.inj h], ht⟩) (fun q hq => nomatch hq) d_D_againstHalf_34
      · replace h := hx_in c7 h
        refine lv_iconst (v := 1) hx hb d_D_againstHalf_28 (by decide) ?_
        refine lv_goto (tgt := 34) hx hb d_D_againstHalf_29 (by decide) ?_
        exact W.iret hx hb hr (fun t ht hW => ⟨by rw [Option.some.inj h], ht⟩) (fun q hq => nomatch hq) d_D_againstHalf_34
  · replace h := hx_in c4 h
    refine lv_iconst (v := -1) hx hb d_D_againstHalf_6 (by decide) ?_
    exact W.iret hx hb hr (fun t ht hW => ⟨by rw [Option.some.inj h], ht⟩) (fun q hq => nomatch hq) d_D_againstHalf_7
abbrev m_D_goesFar : Room := { frames := 0, cells := 0, slots := 0, locals := 0 }
set_option maxHeartbeats 4000000 in
set_option maxRecDepth 100000 in
theorem c_D_goesFar (l : Launch) (D : va_G) (T3 : hx_T3)  (x1 : Int32) (x2 : Int32) (x3 : Int32) (x4 : Int32) (r0 : Int32) (h : f_D_goesFar x1 x2 x3 x4 = some r0) : hx_R l D (hx_ty T3) [] y_D_goesFar w_D_goesFar m_D_goesFar [.int x1, .int x2, .int x3, .int x4] (.int r0) := by
  refine Met.ofW (cc := b_D_goesFar) (maxL := 4) (ret := (some .boolean)) (by decide) rfl ?_
  intro p e s m args below meth c s₁ B hml hv
  obtain ⟨hargs, hP, hK⟩ := hv
  have hx := B.exec
  have hb := B.bytes
  have hr := B.returns
  have hts := atoms_spec (ws := w_D_goesFar) B.pre
  have hown : s.vm.findClass "HalfFloats$Rounder" = some m.cls := findClass_of_methodNamed B.named
  have hlocks := B.notSynchronized
  refine W.eq (g2 := F0 m 0 ((lg_sl [.int x1, .int x2, .int x3, .int x4] ++ List.replicate (4 - (lg_sl [.int x1, .int x2, .int x3, .int x4]).length) Slot.unset).toArray) []) (by rw [hargs, lg_entry_eq]) ?_
  have hl := lv_entry ([.int x1, .int x2, .int x3, .int x4]) (n := 4) (Nat.le_of_ble_eq_true rfl)
  generalize (lg_sl ([.int x1, .int x2, .int x3, .int x4]) ++ List.replicate (4 - (lg_sl ([.int x1, .int x2, .int x3, .int x4])).length) Slot.unset).toArray = ls at hl ⊢
  have hl : lv_has ls 4 [(0, .int x1), (1, .int x2), (2, .int x3), (3, .int x4)] := hl
  rw [f_D_goesFar] at h
  refine lv_iload_n hx hb d_D_goesFar_0 rfl (lv_at hl 3 rfl) ?_
  by_cases c5 : x4 = 0
  · replace h := hx_ip c5 h
    refine lv_tableIn (tgt := 36) hx hb d_D_goesFar_1 (by rw [c5]; decide) (by rw [c5]; decide) (by rw [c5]; rfl) (by decide) ?_
    refine lv_iload_n hx hb d_D_goesFar_36 rfl (lv_at hl 2 rfl) ?_
    refine lv_if_gt (tgt := 48) hx hb d_D_goesFar_37 (by decide) (fun c6 => ?_) (fun c6 => ?_)
    · replace h := hx_ip c6 h
      refine lv_iconst (v := 1) hx hb d_D_goesFar_48 (by decide) ?_
      refine lv_goto (tgt := 53) hx hb d_D_goesFar_49 (by decide) ?_
      exact W.zret hx hb hr (hx_nb (Or.inr rfl)) (fun t ht hW => ⟨by rw [Option.some.inj h], ht⟩) (fun q hq => nomatch hq) d_D_goesFar_53
    · replace h := hx_in c6 h
      refine lv_iload_n hx hb d_D_goesFar_40 rfl (lv_at hl 2 rfl) ?_
      refine lv_if_ne (tgt := 52) hx hb d_D_goesFar_41 (by decide) (fun c7 => ?_) (fun c7 => ?_)
      · replace h := hx_in c7 h
        refine lv_iconst (v := 0) hx hb d_D_goesFar_52 (by decide) ?_
        exact W.zret hx hb hr (hx_nb (Or.inl rfl)) (fun t ht hW => ⟨by rw [Option.some.inj h], ht⟩) (fun q hq => nomatch hq) d_D_goesFar_53
      · replace h := hx_ip c7 h
        refine lv_iload_n hx hb d_D_goesFar_44 rfl (lv_at hl 1 rfl) ?_
        refine lv_if_eq (tgt := 52) hx hb d_D_goesFar_45 (by decide) (fun c8 => ?_) (fun c8 => ?_)
        · replace h := hx_ip c8 h
          refine lv_iconst (v := 0) hx hb d_D_goesFar_52 (by decide) ?_
          exact W.zret hx hb hr (hx_nb (Or.inl rfl)) (fun t ht hW => ⟨by rw [Option.some.inj h], ht⟩) (fun q hq => nomatch hq) d_D_goesFar_53
        · replace h := hx_in c8 h
          refine lv_iconst (v := 1) hx hb d_D_goesFar_48 (by decide) ?_
          refine lv_goto (tgt := 53) hx hb d_D_goesFar_49 (by decide) ?_
          exact W.zret hx hb hr (hx_nb (Or.inr rfl)) (fun t ht hW => ⟨by rw [Option.some.inj h], ht⟩) (fun q hq => nomatch hq) d_D_goesFar_53
  · replace h := hx_in c5 h
    by_cases c9 : x4 = 1
    · replace h := hx_ip c9 h
      refine lv_tableIn (tgt := 54) hx hb d_D_goesFar_1 (by rw [c9]; decide) (by rw [c9]; decide) (by rw [c9]; rfl) (by decide) ?_
      refine lv_iload_n hx hb d_D_goesFar_54 rfl (lv_at hl 2 rfl) ?_
      refine lv_if_lt (tgt := 62) hx hb d_D_goesFar_55 (by decide) (fun c10 => ?_) (fun c10 => ?_)
      · replace h := hx_ip c10 h
        refine lv_iconst (v := 0) hx hb d_D_goesFar_62 (by decide) ?_
        exact W.zret hx hb hr (hx_nb (Or.inl rfl)) (fun t ht hW => ⟨by rw [Option.some.inj h], ht⟩) (fun q hq => nomatch hq) d_D_goesFar_63
      · replace h := hx_in c10 h
        refine lv_iconst (v := 1) hx hb d_D_goesFar_58 (by decide) ?_
        refine lv_goto (tgt := 63) hx hb d_D_goesFar_59 (by decide) ?_
        exact W.zret hx hb hr (hx_nb (Or.inr rfl)) (fun t ht hW => ⟨by rw [Option.some.inj h], ht⟩) (fun q hq => nomatch hq) d_D_goesFar_63
    · replace h := hx_in c9 h
      by_cases c11 : x4 = 2
      · replace h := hx_ip c11 h
        refine lv_tableIn (tgt := 76) hx hb d_D_goesFar_1 (by rw [c11]; decide) (by rw [c11]; decide) (by rw [c11]; rfl) (by decide) ?_
        refine lv_iconst (v := 0) hx hb d_D_goesFar_76 (by decide) ?_
        exact W.zret hx hb hr (hx_nb (Or.inl rfl)) (fun t ht hW => ⟨by rw [Option.some.inj h], ht⟩) (fun q hq => nomatch hq) d_D_goesFar_77
      · replace h := hx_in c11 h
        by_cases c12 : x4 = 3
        · replace h := hx_ip c12 h
          refine lv_tableIn (tgt := 64) hx hb d_D_goesFar_1 (by rw [c12]; decide) (by rw [c12]; decide) (by rw [c12]; rfl) (by decide) ?_
          refine lv_iload_n hx hb d_D_goesFar_64 rfl (lv_at hl 0 rfl) ?_
          refine lv_if_ne (tgt := 72) hx hb d_D_goesFar_65 (by decide) (fun c13 => ?_) (fun c13 => ?_)
          · replace h := hx_in c13 h
            refine lv_iconst (v := 0) hx hb d_D_goesFar_72 (by decide) ?_
            exact W.zret hx hb hr (hx_nb (Or.inl rfl)) (fun t ht hW => ⟨by rw [Option.some.inj h], ht⟩) (fun q hq => nomatch hq) d_D_goesFar_73
          · replace h := hx_ip c13 h
            refine lv_iconst (v := 1) hx hb d_D_goesFar_68 (by decide) ?_
            refine lv_goto (tgt := 73) hx hb d_D_goesFar_69 (by decide) ?_
            exact W.zret hx hb hr (hx_nb (Or.inr rfl)) (fun t ht hW => ⟨by rw [Option.some.inj h], ht⟩) (fun q hq => nomatch hq) d_D_goesFar_73
        · replace h := hx_in c12 h
          by_cases c14 : x4 = 4
          · replace h := hx_ip c14 h
            refine lv_tableIn (tgt := 74) hx hb d_D_goesFar_1 (by rw [c14]; decide) (by rw [c14]; decide) (by rw [c14]; rfl) (by decide) ?_
            refine lv_iload_n hx hb d_D_goesFar_74 rfl (lv_at hl 0 rfl) ?_
            obtain ⟨g15, h⟩ := hx_gt h
            exact W.zret hx hb hr (hx_nb g15) (fun t ht hW => ⟨by rw [Option.some.inj h], ht⟩) (fun q hq => nomatch hq) d_D_goesFar_75
          · replace h := hx_in c14 h
            have tc5 := lv_neT (a := 0) c5 (by decide)
            have tc9 := lv_neT (a := 1) c9 (by decide)
            have tc11 := lv_neT (a := 2) c11 (by decide)
            have tc12 := lv_neT (a := 3) c12 (by decide)
            have tc14 := lv_neT (a := 4) c14 (by decide)
            refine lv_tableOut (tgt := 76) hx hb d_D_goesFar_1 (by omega) (by decide) ?_
            refine lv_iconst (v := 0) hx hb d_D_goesFar_76 (by decide) ?_
            exact W.zret hx hb hr (hx_nb (Or.inl rfl)) (fun t ht hW => ⟨by rw [Option.some.inj h], ht⟩) (fun q hq => nomatch hq) d_D_goesFar_77
abbrev m_D_stopsShort : Room := { frames := 0, cells := 0, slots := 0, locals := 0 }
set_option maxHeartbeats 4000000 in
set_option maxRecDepth 100000 in
theorem c_D_stopsShort (l : Launch) (D : va_G) (T3 : hx_T3)  (x1 : Int32) (x2 : Int32) (r0 : Int32) (h : f_D_stopsShort x1 x2 = some r0) : hx_R l D (hx_ty T3) [] y_D_stopsShort w_D_stopsShort m_D_stopsShort [.int x1, .int x2] (.int r0) := by
  refine Met.ofW (cc := b_D_stopsShort) (maxL := 2) (ret := (some .boolean)) (by decide) rfl ?_
  intro p e s m args below meth c s₁ B hml hv
  obtain ⟨hargs, hP, hK⟩ := hv
  have hx := B.exec
  have hb := B.bytes
  have hr := B.returns
  have hts := atoms_spec (ws := w_D_stopsShort) B.pre
  have hown : s.vm.findClass "HalfFloats$Rounder" = some m.cls := findClass_of_methodNamed B.named
  have hlocks := B.notSynchronized
  have B_14 : ∀ (x5 : Int32) (x6 : Int32) (ls : Array Slot), lv_has ls 2 [(0, .int x5), (1, .int x6)] → f_D_stopsShort_14 x5 x6 = some r0 → W p l e (headSpec w_D_stopsShort m_D_stopsShort).room s m args below meth c s.heap [] 0 0 (MQ below (hx_Q (.int r0)) args s 0 0 (fun _ => False)) (F0 m 14 ls []) := by
      intro x5 x6 ls hl h
      rw [f_D_stopsShort_14] at h
      refine lv_iload_n hx hb d_D_stopsShort_14 rfl (lv_at hl 1 rfl) ?_
      refine lv_iconst (v := 4) hx hb d_D_stopsShort_15 (by decide) ?_
      refine lv_icmp_ne (tgt := 27) hx hb d_D_stopsShort_16 (by decide) (fun c7 => ?_) (fun c7 => ?_)
      · replace h := hx_in c7 h
        refine lv_iconst (v := 0) hx hb d_D_stopsShort_27 (by decide) ?_
        exact W.zret hx hb hr (hx_nb (Or.inl rfl)) (fun t ht hW => ⟨by rw [Option.some.inj h], ht⟩) (fun q hq => nomatch hq) d_D_stopsShort_28
      · replace h := hx_ip c7 h
        refine lv_iload_n hx hb d_D_stopsShort_19 rfl (lv_at hl 0 rfl) ?_
        refine lv_if_ne (tgt := 27) hx hb d_D_stopsShort_20 (by decide) (fun c8 => ?_) (fun c8 => ?_)
        · replace h := hx_in c8 h
          refine lv_iconst (v := 0) hx hb d_D_stopsShort_27 (by decide) ?_
          exact W.zret hx hb hr (hx_nb (Or.inl rfl)) (fun t ht hW => ⟨by rw [Option.some.inj h], ht⟩) (fun q hq => nomatch hq) d_D_stopsShort_28
        · replace h := hx_ip c8 h
          refine lv_iconst (v := 1) hx hb d_D_stopsShort_23 (by decide) ?_
          refine lv_goto (tgt := 28) hx hb d_D_stopsShort_24 (by decide) ?_
          exact W.zret hx hb hr (hx_nb (Or.inr rfl)) (fun t ht hW => ⟨by rw [Option.some.inj h], ht⟩) (fun q hq => nomatch hq) d_D_stopsShort_28
  refine W.eq (g2 := F0 m 0 ((lg_sl [.int x1, .int x2] ++ List.replicate (2 - (lg_sl [.int x1, .int x2]).length) Slot.unset).toArray) []) (by rw [hargs, lg_entry_eq]) ?_
  have hl := lv_entry ([.int x1, .int x2]) (n := 2) (Nat.le_of_ble_eq_true rfl)
  generalize (lg_sl ([.int x1, .int x2]) ++ List.replicate (2 - (lg_sl ([.int x1, .int x2])).length) Slot.unset).toArray = ls at hl ⊢
  have hl : lv_has ls 2 [(0, .int x1), (1, .int x2)] := hl
  rw [f_D_stopsShort] at h
  refine lv_iload_n hx hb d_D_stopsShort_0 rfl (lv_at hl 1 rfl) ?_
  refine lv_iconst (v := 2) hx hb d_D_stopsShort_1 (by decide) ?_
  refine lv_icmp_eq (tgt := 23) hx hb d_D_stopsShort_2 (by decide) (fun c3 => ?_) (fun c3 => ?_)
  · replace h := hx_ip c3 h
    refine lv_iconst (v := 1) hx hb d_D_stopsShort_23 (by decide) ?_
    refine lv_goto (tgt := 28) hx hb d_D_stopsShort_24 (by decide) ?_
    exact W.zret hx hb hr (hx_nb (Or.inr rfl)) (fun t ht hW => ⟨by rw [Option.some.inj h], ht⟩) (fun q hq => nomatch hq) d_D_stopsShort_28
  · replace h := hx_in c3 h
    refine lv_iload_n hx hb d_D_stopsShort_5 rfl (lv_at hl 1 rfl) ?_
    refine lv_iconst (v := 3) hx hb d_D_stopsShort_6 (by decide) ?_
    refine lv_icmp_ne (tgt := 14) hx hb d_D_stopsShort_7 (by decide) (fun c4 => ?_) (fun c4 => ?_)
    · replace h := hx_in c4 h
      exact B_14 x1 x2 ls (lv_sub hl [0, 1] rfl) h
    · replace h := hx_ip c4 h
      refine lv_iload_n hx hb d_D_stopsShort_10 rfl (lv_at hl 0 rfl) ?_
      refine lv_if_ne (tgt := 23) hx hb d_D_stopsShort_11 (by decide) (fun c9 => ?_) (fun c9 => ?_)
      · replace h := hx_in c9 h
        refine lv_iconst (v := 1) hx hb d_D_stopsShort_23 (by decide) ?_
        refine lv_goto (tgt := 28) hx hb d_D_stopsShort_24 (by decide) ?_
        exact W.zret hx hb hr (hx_nb (Or.inr rfl)) (fun t ht hW => ⟨by rw [Option.some.inj h], ht⟩) (fun q hq => nomatch hq) d_D_stopsShort_28
      · replace h := hx_ip c9 h
        exact B_14 x1 x2 ls (lv_sub hl [0, 1] rfl) h
abbrev m_D_finite : Room := { frames := 2, cells := 0, slots := 0, locals := 47 }
set_option maxHeartbeats 4000000 in
set_option maxRecDepth 100000 in
theorem c_D_finite (l : Launch) (D : va_G) (T3 : hx_T3) (ad : Nat → Nat) (sz : Nat) (σ : hx_S) (x1 : Int32) (x2 : Int64) (x3 : Int32) (x4 : Int32) (k5 : Nat) (x6 : Int32) (hk5 : k5 < 4) (r0 : Int32) (σ0 : hx_S) (h : f_D_finite σ x1 x2 x3 x4 k5 x6 = some (r0, σ0)) : hx_Wi l D (hx_ty T3) y_D_finite w_D_finite m_D_finite [.ref (ad 12), .int x1, .long x2, .int x3, .int x4, .ref (ad (2 + k5)), .int x6] sz (hx_W T3 ad σ) r0 (hx_W T3 ad σ0) := by
  refine Met.ofW (cc := b_D_finite) (maxL := 18) (ret := (some .int)) (by decide) rfl ?_
  intro p e s m args below meth c s₁ B hml hv
  obtain ⟨hargs, hsz, hP, hK, hD0⟩ := hv
  have hx := B.exec
  have hb := B.bytes
  have hr := B.returns
  have hts := atoms_spec (ws := w_D_finite) B.pre
  have hown : s.vm.findClass "HalfFloats$Rounder" = some m.cls := findClass_of_methodNamed B.named
  have hlocks := B.notSynchronized
  subst hsz
  have hD := hD0.self (sz := s.heap.size)
  generalize hAe : va_A (hx_W T3 ad σ) s.heap.size = A at hD ⊢
  have hA : ∀ q : Nat, s.heap.size ≤ q → A q := fun q h => by rw [← hAe]; exact Or.inr h
  have hS : va_S A s.heap s.heap [] := va_S.rf
  have B_247 : ∀ (σ : hx_S) (x82 : Int32) (k83 : Nat) (x84 : Int32) (H : Heap) (locs : List Loc) (ls : Array Slot), va_P D vwCl (hx_W T3 ad σ) H → va_D A (hx_W T3 ad σ) → va_S A s.heap H locs → k83 < 4 → lv_has ls 18 [(0, .ref (ad 12)), (1, .int x82), (6, .ref (ad (2 + k83)))] → f_D_finite_247 σ x82 k83 x84 = some (r0, σ0) → W p l e (headSpec w_D_finite m_D_finite).room s m args below meth c H locs 0 0 (MQ below (hx_Qi D (hx_ty T3) A r0 (hx_W T3 ad σ0)) args s 0 0 A) (F0 m 247 ls [.int x84]) := by
      intro σ x82 k83 x84 H locs ls hP hD hS hk83 hl h
      rw [f_D_finite_247] at h
      refine lv_istore (lv' := [(17, .int x84), (0, .ref (ad 12)), (1, .int x82), (6, .ref (ad (2 + k83)))]) hx hb d_D_finite_247 hl (by decide) rfl (fun ls hl => ?_)
      refine lv_iload hx hb d_D_finite_249 (lv_at hl 0 rfl) ?_
      refine lv_if_eq (tgt := 270) hx hb d_D_finite_251 (by decide) (fun c85 => ?_) (fun c85 => ?_)
      · replace h := hx_ip c85 h
        refine lv_aload_n hx hb d_D_finite_270 rfl (lv_at hl 1 rfl) ?_
        refine lv_iload_n hx hb d_D_finite_271 rfl (lv_at hl 2 rfl) ?_
        refine lv_aload hx hb d_D_finite_272 (lv_at hl 3 rfl) ?_
        obtain ⟨r86, er86, h⟩ := hx_b1s h
        refine hx_rd (va_runV (As := [.int x82, .ref (ad (2 + k83))]) (rest := []) ⟨hx, hb, hml, hown, hts⟩ (c_D_infinite l D T3 ad σ x82 k83 hk83 _ er86) (cwV 2 hts (hx_gV hx_cons k_298 k_300 k_1 k_54 k_301) rfl rfl rfl (by decide +kernel) ⟨Nat.le_of_ble_eq_true rfl, Nat.le_of_ble_eq_true rfl⟩) (hx_preV (va_recv hK hP (ci := 4) (q0 := 12) rfl hx_at_D) hP hK) rfl rfl hl.1 rfl (lv_room (Nat.le_of_ble_eq_true rfl)) d_D_finite_274 ⟨Nat.zero_le _, Nat.zero_le _⟩) ?_
        exact W.iret hx hb hr (fun t ht hW => hx_endi h ht hW hP hK hD hS) hS.2.2 d_D_finite_277
      · replace h := hx_in c85 h
        refine lv_aload hx hb d_D_finite_254 (lv_at hl 3 rfl) ?_
        refine lv_iload_n hx hb d_D_finite_256 rfl (lv_at hl 2 rfl) ?_
        refine lv_aload hx hb d_D_finite_257 (lv_at hl 3 rfl) ?_
        refine va_get (D := D) (ci := 1) (v := .int (hx_fm_limit (hx_fm σ k83))) (C := "HalfFloats$Format") (T := T_F) (N := 8) hx hb hts (hx_up in_F) hown hK hP (2 + k83) (hx_at_F hk83) rfl 4 (by decide) (hts _ (hx_cons _ k_91)) (fun _ h9 => h9) rfl d_D_finite_259 ?_
        refine lv_iconst (v := 1) hx hb d_D_finite_262 (by decide) ?_
        refine lv_isub hx hb d_D_finite_263 ?_
        obtain ⟨r87, er87, h⟩ := hx_b1s h
        refine hx_rd (va_runV (As := [.int x82, .int ((hx_fm_limit (hx_fm σ k83)) - (1 : Int32))]) (rest := []) ⟨hx, hb, hml, hown, hts⟩ (c_F_signed l D T3 (ad (2 + k83)) (hx_fm σ k83) x82 ((hx_fm_limit (hx_fm σ k83)) - (1 : Int32)) _ er87) (cwV 2 hts (hx_gV hx_cons k_302 k_303 k_304 k_51 k_305) rfl rfl rfl (by decide +kernel) ⟨Nat.le_of_ble_eq_true rfl, Nat.le_of_ble_eq_true rfl⟩) (hx_preV (va_recv hK hP (ci := 1) (q0 := 2 + k83) rfl (hx_at_F hk83)) (hx_one hP (hx_at_F hk83)) hK) rfl rfl hl.1 rfl (lv_room (Nat.le_of_ble_eq_true rfl)) d_D_finite_264 ⟨Nat.zero_le _, Nat.zero_le _⟩) ?_
        refine lv_goto (tgt := 277) hx hb d_D_finite_267 (by decide) ?_
        exact W.iret hx hb hr (fun t ht hW => hx_endi h ht hW hP hK hD hS) hS.2.2 d_D_finite_277
  have B_246 : ∀ (σ : hx_S) (x80 : Int32) (k81 : Nat) (H : Heap) (locs : List Loc) (ls : Array Slot), va_P D vwCl (hx_W T3 ad σ) H → va_D A (hx_W T3 ad σ) → va_S A s.heap H locs → k81 < 4 → lv_has ls 18 [(0, .ref (ad 12)), (1, .int x80), (6, .ref (ad (2 + k81)))] → f_D_finite_246 σ x80 k81 = some (r0, σ0) → W p l e (headSpec w_D_finite m_D_finite).room s m args below meth c H locs 0 0 (MQ below (hx_Qi D (hx_ty T3) A r0 (hx_W T3 ad σ0)) args s 0 0 A) (F0 m 246 ls []) := by
      intro σ x80 k81 H locs ls hP hD hS hk81 hl h
      rw [f_D_finite_246] at h
      refine lv_iconst (v := 0) hx hb d_D_finite_246 (by decide) ?_
      exact B_247 σ x80 k81 (0 : Int32) _ _ ls hP hD hS hk81 (lv_sub hl [0, 1, 2] rfl) h
  have B_202 : ∀ (σ : hx_S) (x71 : Int32) (k72 : Nat) (x73 : Int32) (x74 : Int64) (H : Heap) (locs : List Loc) (ls : Array Slot), va_P D vwCl (hx_W T3 ad σ) H → va_D A (hx_W T3 ad σ) → va_S A s.heap H locs → k72 < 4 → lv_has ls 18 [(0, .ref (ad 12)), (1, .int x71), (6, .ref (ad (2 + k72))), (7, .int x73), (15, .long x74)] → f_D_finite_202 σ x71 k72 x73 x74 = some (r0, σ0) → W p l e (headSpec w_D_finite m_D_finite).room s m args below meth c H locs 0 0 (MQ below (hx_Qi D (hx_ty T3) A r0 (hx_W T3 ad σ0)) args s 0 0 A) (F0 m 202 ls []) := by
      intro σ x71 k72 x73 x74 H locs ls hP hD hS hk72 hl h
      rw [f_D_finite_202] at h
      refine lv_lload hx hb d_D_finite_202 (lv_at hl 4 rfl) ?_
      refine lv_aload hx hb d_D_finite_204 (lv_at hl 2 rfl) ?_
      refine va_get (D := D) (ci := 1) (v := .int (hx_fm_limit (hx_fm σ k72))) (C := "HalfFloats$Format") (T := T_F) (N := 8) hx hb hts (hx_up in_F) hown hK hP (2 + k72) (hx_at_F hk72) rfl 4 (by decide) (hts _ (hx_cons _ k_91)) (fun _ h9 => h9) rfl d_D_finite_206 ?_
      refine lv_i2l hx hb d_D_finite_209 rfl ?_
      refine W.lcmp hx hb d_D_finite_210 ?_
      refine lv_if_lt (tgt := 278) hx hb d_D_finite_211 (by decide) (fun c75 => ?_) (fun c75 => ?_)
      · replace h := hx_ip c75 h
        refine lv_aload hx hb d_D_finite_278 (lv_at hl 2 rfl) ?_
        refine lv_iload_n hx hb d_D_finite_280 rfl (lv_at hl 1 rfl) ?_
        refine lv_lload hx hb d_D_finite_281 (lv_at hl 4 rfl) ?_
        refine lv_l2i hx hb d_D_finite_283 rfl ?_
        obtain ⟨r76, er76, h⟩ := hx_b1s h
        refine hx_rd (va_runV (As := [.int x71, .int x74.toInt32]) (rest := []) ⟨hx, hb, hml, hown, hts⟩ (c_F_signed l D T3 (ad (2 + k72)) (hx_fm σ k72) x71 x74.toInt32 _ er76) (cwV 2 hts (hx_gV hx_cons k_302 k_303 k_304 k_51 k_305) rfl rfl rfl (by decide +kernel) ⟨Nat.le_of_ble_eq_true rfl, Nat.le_of_ble_eq_true rfl⟩) (hx_preV (va_recv hK hP (ci := 1) (q0 := 2 + k72) rfl (hx_at_F hk72)) (hx_one hP (hx_at_F hk72)) hK) rfl rfl hl.1 rfl (lv_room (Nat.le_of_ble_eq_true rfl)) d_D_finite_284 ⟨Nat.zero_le _, Nat.zero_le _⟩) ?_
        exact W.iret hx hb hr (fun t ht hW => hx_endi h ht hW hP hK hD hS) hS.2.2 d_D_finite_287
      · replace h := hx_in c75 h
        refine lv_aload_n hx hb d_D_finite_214 rfl (lv_at hl 0 rfl) ?_
        refine lv_dup hx hb d_D_finite_215 rfl ?_
        refine va_get (D := D) (ci := 4) (v := .int (hx_rd_raised σ)) (C := "HalfFloats$Rounder") (T := T_D) (N := 2) hx hb hts (hx_up in_D) hown hK hP (12) hx_at_D rfl 0 (by decide) (hts _ (hx_cons _ k_195)) (fun _ h9 => h9) rfl d_D_finite_216 ?_
        refine lv_bipush (v := 10) hx hb d_D_finite_219 (by decide) ?_
        refine lv_ior hx hb d_D_finite_221 ?_
        refine lv_topi (fun x77 ex77 => ?_)
        replace h := hx_ns ex77 h
        clear ex77
        refine va_put (D := D) (ci := 4) (v := .int x77) (ty := .int) (C := "HalfFloats$Rounder") (T := T_D) (N := 2) hx hb hts (hx_up in_D) ty_D tyok_D nm_D hown hK hP hD hS (12) hx_at_D rfl 0 (by decide) (hts _ (hx_cons _ k_195)) (fun _ h9 => h9) rfl (by decide +kernel) rfl rfl (Nat.le_of_ble_eq_true rfl) d_D_finite_222 (fun H locs hP hD hS => ?_)
        obtain ⟨σ78, eσ78⟩ : ∃ y : hx_S, y = (hx_rd_raised_s σ x77) := ⟨_, rfl⟩
        replace hP : va_P D vwCl (hx_W T3 ad σ78) H := by rw [eσ78]; exact hP
        replace hD : va_D A (hx_W T3 ad σ78) := by rw [eσ78]; exact hD
        replace h := hx_ns eσ78 h
        clear eσ78
        refine lv_aload hx hb d_D_finite_225 (lv_at hl 2 rfl) ?_
        refine va_get (D := D) (ci := 1) (v := .int (hx_fm_kind (hx_fm σ78 k72))) (C := "HalfFloats$Format") (T := T_F) (N := 8) hx hb hts (hx_up in_F) hown hK hP (2 + k72) (hx_at_F hk72) rfl 2 (by decide) (hts _ (hx_cons _ k_86)) (fun _ h9 => h9) rfl d_D_finite_227 ?_
        refine lv_if_ne (tgt := 246) hx hb d_D_finite_230 (by decide) (fun c79 => ?_) (fun c79 => ?_)
        · replace h := hx_in c79 h
          exact B_246 σ78 x71 k72 _ _ ls hP hD hS hk72 (lv_sub hl [0, 1, 2] rfl) h
        · replace h := hx_ip c79 h
          refine lv_iload_n hx hb d_D_finite_233 rfl (lv_at hl 1 rfl) ?_
          refine lv_iload hx hb d_D_finite_234 (lv_at hl 3 rfl) ?_
          obtain ⟨r88, er88, h⟩ := hx_b1s h
          refine hx_rd (va_runS (As := [.int x71, .int x73]) (rest := []) ⟨hx, hb, hml, hown, hts⟩ (c_D_stopsShort l D T3 x71 x73 _ er88) (va_cwS 2 hts (hx_gS hx_cons k_339 k_340 k_54 k_341) rfl rfl rfl (by decide +kernel) ⟨Nat.le_of_ble_eq_true rfl, Nat.le_of_ble_eq_true rfl⟩) (hx_preS hx_nil hK) rfl rfl hl.1 rfl (lv_room (Nat.le_of_ble_eq_true rfl)) d_D_finite_236 ⟨Nat.zero_le _, Nat.zero_le _⟩) ?_
          refine lv_if_eq (tgt := 246) hx hb d_D_finite_239 (by decide) (fun c89 => ?_) (fun c89 => ?_)
          · replace h := hx_ip c89 h
            exact B_246 σ78 x71 k72 _ _ ls hP hD hS hk72 (lv_sub hl [0, 1, 2] rfl) h
          · replace h := hx_in c89 h
            refine lv_iconst (v := 1) hx hb d_D_finite_242 (by decide) ?_
            refine lv_goto (tgt := 247) hx hb d_D_finite_243 (by decide) ?_
            exact B_247 σ78 x71 k72 (1 : Int32) _ _ ls hP hD hS hk72 (lv_sub hl [0, 1, 2] rfl) h
  have B_199 : ∀ (σ : hx_S) (x65 : Int32) (k66 : Nat) (x67 : Int32) (x68 : Int64) (x69 : Int64) (H : Heap) (locs : List Loc) (ls : Array Slot), va_P D vwCl (hx_W T3 ad σ) H → va_D A (hx_W T3 ad σ) → va_S A s.heap H locs → k66 < 4 → lv_has ls 18 [(0, .ref (ad 12)), (1, .int x65), (6, .ref (ad (2 + k66))), (7, .int x67)] → f_D_finite_199 σ x65 k66 x67 x68 x69 = some (r0, σ0) → W p l e (headSpec w_D_finite m_D_finite).room s m args below meth c H locs 0 0 (MQ below (hx_Qi D (hx_ty T3) A r0 (hx_W T3 ad σ0)) args s 0 0 A) (F0 m 199 ls [.long x69, .long x68]) := by
      intro σ x65 k66 x67 x68 x69 H locs ls hP hD hS hk66 hl h
      rw [f_D_finite_199] at h
      refine lv_ladd hx hb d_D_finite_199 ?_
      refine lv_topl (fun x70 ex70 => ?_)
      replace h := hx_ns ex70 h
      clear ex70
      refine lv_lstore (lv' := [(15, .long x70), (0, .ref (ad 12)), (1, .int x65), (6, .ref (ad (2 + k66))), (7, .int x67)]) hx hb d_D_finite_200 hl (by decide) rfl (fun ls hl => ?_)
      exact B_202 σ x65 k66 x67 x70 _ _ ls hP hD hS hk66 (lv_sub hl [1, 2, 3, 4, 0] rfl) h
  have B_185 : ∀ (σ : hx_S) (x59 : Int32) (k60 : Nat) (x61 : Int32) (x62 : Int64) (x63 : Int32) (H : Heap) (locs : List Loc) (ls : Array Slot), va_P D vwCl (hx_W T3 ad σ) H → va_D A (hx_W T3 ad σ) → va_S A s.heap H locs → k60 < 4 → lv_has ls 18 [(0, .ref (ad 12)), (1, .int x59), (6, .ref (ad (2 + k60))), (7, .int x61), (15, .long x62)] → f_D_finite_185 σ x59 k60 x61 x62 x63 = some (r0, σ0) → W p l e (headSpec w_D_finite m_D_finite).room s m args below meth c H locs 0 0 (MQ below (hx_Qi D (hx_ty T3) A r0 (hx_W T3 ad σ0)) args s 0 0 A) (F0 m 185 ls [.int x63]) := by
      intro σ x59 k60 x61 x62 x63 H locs ls hP hD hS hk60 hl h
      rw [f_D_finite_185] at h
      refine lv_istore (lv' := [(17, .int x63), (0, .ref (ad 12)), (1, .int x59), (6, .ref (ad (2 + k60))), (7, .int x61), (15, .long x62)]) hx hb d_D_finite_185 hl (by decide) rfl (fun ls hl => ?_)
      refine lv_lload hx hb d_D_finite_187 (lv_at hl 5 rfl) ?_
      refine lv_iload hx hb d_D_finite_189 (lv_at hl 0 rfl) ?_
      refine lv_if_eq (tgt := 198) hx hb d_D_finite_191 (by decide) (fun c64 => ?_) (fun c64 => ?_)
      · replace h := hx_ip c64 h
        refine lv_lconst (v := 0) hx hb d_D_finite_198 rfl ?_
        exact B_199 σ x59 k60 x61 x62 (0 : Int64) _ _ ls hP hD hS hk60 (lv_sub hl [1, 2, 3, 4] rfl) h
      · replace h := hx_in c64 h
        refine lv_lconst (v := 1) hx hb d_D_finite_194 rfl ?_
        refine lv_goto (tgt := 199) hx hb d_D_finite_195 (by decide) ?_
        exact B_199 σ x59 k60 x61 x62 (1 : Int64) _ _ ls hP hD hS hk60 (lv_sub hl [1, 2, 3, 4] rfl) h
  have B_171 : ∀ (σ : hx_S) (x48 : Int32) (x49 : Int32) (k50 : Nat) (x51 : Int32) (x52 : Int32) (x53 : Int64) (x54 : Int64) (x55 : Int32) (x56 : Int32) (H : Heap) (locs : List Loc) (ls : Array Slot), va_P D vwCl (hx_W T3 ad σ) H → va_D A (hx_W T3 ad σ) → va_S A s.heap H locs → k50 < 4 → lv_has ls 18 [(0, .ref (ad 12)), (1, .int x48), (5, .int x49), (6, .ref (ad (2 + k50))), (7, .int x51), (10, .int x52), (13, .long x53), (15, .long x54)] → f_D_finite_171 σ x48 x49 k50 x51 x52 x53 x54 x55 x56 = some (r0, σ0) → W p l e (headSpec w_D_finite m_D_finite).room s m args below meth c H locs 0 0 (MQ below (hx_Qi D (hx_ty T3) A r0 (hx_W T3 ad σ0)) args s 0 0 A) (F0 m 171 ls [.int x56, .int x55]) := by
      intro σ x48 x49 k50 x51 x52 x53 x54 x55 x56 H locs ls hP hD hS hk50 hl h
      rw [f_D_finite_171] at h
      refine lv_lload hx hb d_D_finite_171 (lv_at hl 6 rfl) ?_
      refine lv_iload hx hb d_D_finite_173 (lv_at hl 5 rfl) ?_
      refine lv_iload hx hb d_D_finite_175 (lv_at hl 2 rfl) ?_
      obtain ⟨r57, er57, h⟩ := hx_b1s h
      refine hx_rd (va_runS (As := [.long x53, .int x52, .int x49]) (rest := [.int x56, .int x55]) ⟨hx, hb, hml, hown, hts⟩ (c_D_againstHalf l D T3 x53 x52 x49 _ er57) (va_cwS 3 hts (hx_gS hx_cons k_330 k_331 k_54 k_332) rfl rfl rfl (by decide +kernel) ⟨Nat.le_of_ble_eq_true rfl, Nat.le_of_ble_eq_true rfl⟩) (hx_preS hx_nil hK) rfl rfl hl.1 rfl (lv_room (Nat.le_of_ble_eq_true rfl)) d_D_finite_177 ⟨Nat.zero_le _, Nat.zero_le _⟩) ?_
      refine lv_iload hx hb d_D_finite_180 (lv_at hl 4 rfl) ?_
      obtain ⟨r58, er58, h⟩ := hx_b1s h
      refine hx_rd (va_runS (As := [.int x55, .int x56, .int r57, .int x51]) (rest := []) ⟨hx, hb, hml, hown, hts⟩ (c_D_goesFar l D T3 x55 x56 r57 x51 _ er58) (va_cwS 4 hts (hx_gS hx_cons k_336 k_337 k_54 k_338) rfl rfl rfl (by decide +kernel) ⟨Nat.le_of_ble_eq_true rfl, Nat.le_of_ble_eq_true rfl⟩) (hx_preS hx_nil hK) rfl rfl hl.1 rfl (lv_room (Nat.le_of_ble_eq_true rfl)) d_D_finite_182 ⟨Nat.zero_le _, Nat.zero_le _⟩) ?_
      exact B_185 σ x48 k50 x51 x54 r58 _ _ ls hP hD hS hk50 (lv_sub hl [0, 1, 3, 4, 7] rfl) h
  have B_120 : ∀ (σ : hx_S) (x34 : Int32) (x35 : Int32) (k36 : Nat) (x37 : Int32) (x38 : Int32) (x39 : Int64) (x40 : Int64) (x41 : Int64) (x42 : Int32) (x43 : Int32) (H : Heap) (locs : List Loc) (ls : Array Slot), va_P D vwCl (hx_W T3 ad σ) H → va_D A (hx_W T3 ad σ) → va_S A s.heap H locs → k36 < 4 → lv_has ls 18 [(0, .ref (ad 12)), (1, .int x34), (5, .int x35), (6, .ref (ad (2 + k36))), (7, .int x37), (10, .int x38), (11, .long x39), (13, .long x40), (15, .long x41)] → f_D_finite_120 σ x34 x35 k36 x37 x38 x39 x40 x41 x42 x43 = some (r0, σ0) → W p l e (headSpec w_D_finite m_D_finite).room s m args below meth c H locs 0 0 (MQ below (hx_Qi D (hx_ty T3) A r0 (hx_W T3 ad σ0)) args s 0 0 A) (F0 m 120 ls [.int x43, .int x42, .ref (ad 12)]) := by
      intro σ x34 x35 k36 x37 x38 x39 x40 x41 x42 x43 H locs ls hP hD hS hk36 hl h
      rw [f_D_finite_120] at h
      refine lv_ior hx hb d_D_finite_120 ?_
      refine lv_topi (fun x44 ex44 => ?_)
      replace h := hx_ns ex44 h
      clear ex44
      refine va_put (D := D) (ci := 4) (v := .int x44) (ty := .int) (C := "HalfFloats$Rounder") (T := T_D) (N := 2) hx hb hts (hx_up in_D) ty_D tyok_D nm_D hown hK hP hD hS (12) hx_at_D rfl 0 (by decide) (hts _ (hx_cons _ k_195)) (fun _ h9 => h9) rfl (by decide +kernel) rfl rfl (Nat.le_of_ble_eq_true rfl) d_D_finite_121 (fun H locs hP hD hS => ?_)
      obtain ⟨σ45, eσ45⟩ : ∃ y : hx_S, y = (hx_rd_raised_s σ x44) := ⟨_, rfl⟩
      replace hP : va_P D vwCl (hx_W T3 ad σ45) H := by rw [eσ45]; exact hP
      replace hD : va_D A (hx_W T3 ad σ45) := by rw [eσ45]; exact hD
      replace h := hx_ns eσ45 h
      clear eσ45
      refine lv_iload hx hb d_D_finite_124 (lv_at hl 4 rfl) ?_
      refine lv_iconst (v := 5) hx hb d_D_finite_126 (by decide) ?_
      refine lv_icmp_ne (tgt := 156) hx hb d_D_finite_127 (by decide) (fun c46 => ?_) (fun c46 => ?_)
      · replace h := hx_in c46 h
        refine lv_iload_n hx hb d_D_finite_156 rfl (lv_at hl 1 rfl) ?_
        refine lv_lload hx hb d_D_finite_157 (lv_at hl 6 rfl) ?_
        refine lv_lconst (v := 1) hx hb d_D_finite_159 rfl ?_
        refine lv_land hx hb d_D_finite_160 ?_
        refine lv_lconst (v := 1) hx hb d_D_finite_161 rfl ?_
        refine W.lcmp hx hb d_D_finite_162 ?_
        refine lv_if_ne (tgt := 170) hx hb d_D_finite_163 (by decide) (fun c47 => ?_) (fun c47 => ?_)
        · replace h := hx_in c47 h
          refine lv_iconst (v := 0) hx hb d_D_finite_170 (by decide) ?_
          exact B_171 σ45 x34 x35 k36 x37 x38 x40 x41 x34 (0 : Int32) _ _ ls hP hD hS hk36 (lv_sub hl [0, 1, 2, 3, 4, 5, 7, 8] rfl) h
        · replace h := hx_ip c47 h
          refine lv_iconst (v := 1) hx hb d_D_finite_166 (by decide) ?_
          refine lv_goto (tgt := 171) hx hb d_D_finite_167 (by decide) ?_
          exact B_171 σ45 x34 x35 k36 x37 x38 x40 x41 x34 (1 : Int32) _ _ ls hP hD hS hk36 (lv_sub hl [0, 1, 2, 3, 4, 5, 7, 8] rfl) h
      · replace h := hx_ip c46 h
        refine lv_aload_n hx hb d_D_finite_130 rfl (lv_at hl 0 rfl) ?_
        obtain ⟨r91, q90, eq90, h⟩ := hx_b2s h
        refine hx_wj (va_runV (As := []) (rest := []) ⟨hx, hb, hml, hown, hts⟩ (c_D_draw l D T3 ad _ σ45 _ _ eq90) (cwV 0 hts (hx_gV hx_cons k_323 k_325 k_3 k_54 k_326) rfl rfl rfl (by decide +kernel) ⟨Nat.le_of_ble_eq_true rfl, Nat.le_of_ble_eq_true rfl⟩) (hx_preVw (va_recv hK hP (ci := 4) (q0 := 12) rfl hx_at_D) hP hK hD) rfl rfl hl.1 rfl (lv_room (Nat.le_of_ble_eq_true rfl)) d_D_finite_131 ⟨Nat.zero_le _, Nat.zero_le _⟩) hD hS hA (fun H locs hP hD hS => ?_)
        refine lv_lload hx hb d_D_finite_134 (lv_at hl 7 rfl) ?_
        refine lv_iload hx hb d_D_finite_136 (lv_at hl 5 rfl) ?_
        refine lv_bipush (v := 16) hx hb d_D_finite_138 (by decide) ?_
        refine lv_isub hx hb d_D_finite_140 ?_
        obtain ⟨r92, er92, h⟩ := hx_b1s h
        refine hx_rd (va_runS (As := [.long x40, .int (x38 - (16 : Int32))]) (rest := [.long r91]) ⟨hx, hb, hml, hown, hts⟩ (c_D_shifted l D T3 x40 (x38 - (16 : Int32)) _ er92) (va_cwS 2 hts (hx_gS hx_cons k_320 k_321 k_54 k_322) rfl rfl rfl (by decide +kernel) ⟨Nat.le_of_ble_eq_true rfl, Nat.le_of_ble_eq_true rfl⟩) (hx_preS hx_nil hK) rfl rfl hl.1 rfl (lv_room (Nat.le_of_ble_eq_true rfl)) d_D_finite_141 ⟨Nat.zero_le _, Nat.zero_le _⟩) ?_
        refine W.lcmp hx hb d_D_finite_144 ?_
        refine lv_if_ge (tgt := 152) hx hb d_D_finite_145 (by decide) (fun c93 => ?_) (fun c93 => ?_)
        · replace h := hx_ip c93 h
          refine lv_iconst (v := 0) hx hb d_D_finite_152 (by decide) ?_
          refine lv_goto (tgt := 185) hx hb d_D_finite_153 (by decide) ?_
          exact B_185 q90 x34 k36 x37 x41 (0 : Int32) _ _ ls hP hD hS hk36 (lv_sub hl [0, 1, 3, 4, 8] rfl) h
        · replace h := hx_in c93 h
          refine lv_iconst (v := 1) hx hb d_D_finite_148 (by decide) ?_
          refine lv_goto (tgt := 185) hx hb d_D_finite_149 (by decide) ?_
          exact B_185 q90 x34 k36 x37 x41 (1 : Int32) _ _ ls hP hD hS hk36 (lv_sub hl [0, 1, 3, 4, 8] rfl) h
  have B_98 : ∀ (σ : hx_S) (x24 : Int32) (x25 : Int32) (k26 : Nat) (x27 : Int32) (x28 : Int32) (x29 : Int32) (x30 : Int64) (x31 : Int64) (x32 : Int64) (H : Heap) (locs : List Loc) (ls : Array Slot), va_P D vwCl (hx_W T3 ad σ) H → va_D A (hx_W T3 ad σ) → va_S A s.heap H locs → k26 < 4 → lv_has ls 18 [(0, .ref (ad 12)), (1, .int x24), (5, .int x25), (6, .ref (ad (2 + k26))), (7, .int x27), (8, .int x28), (10, .int x29), (11, .long x30), (13, .long x31), (15, .long x32)] → f_D_finite_98 σ x24 x25 k26 x27 x28 x29 x30 x31 x32 = some (r0, σ0) → W p l e (headSpec w_D_finite m_D_finite).room s m args below meth c H locs 0 0 (MQ below (hx_Qi D (hx_ty T3) A r0 (hx_W T3 ad σ0)) args s 0 0 A) (F0 m 98 ls []) := by
      intro σ x24 x25 k26 x27 x28 x29 x30 x31 x32 H locs ls hP hD hS hk26 hl h
      rw [f_D_finite_98] at h
      refine lv_aload_n hx hb d_D_finite_98 rfl (lv_at hl 0 rfl) ?_
      refine lv_dup hx hb d_D_finite_99 rfl ?_
      refine va_get (D := D) (ci := 4) (v := .int (hx_rd_raised σ)) (C := "HalfFloats$Rounder") (T := T_D) (N := 2) hx hb hts (hx_up in_D) hown hK hP (12) hx_at_D rfl 0 (by decide) (hts _ (hx_cons _ k_195)) (fun _ h9 => h9) rfl d_D_finite_100 ?_
      refine lv_iload hx hb d_D_finite_103 (lv_at hl 5 rfl) ?_
      refine lv_aload hx hb d_D_finite_105 (lv_at hl 3 rfl) ?_
      refine va_get (D := D) (ci := 1) (v := .int (hx_fm_leastTop (hx_fm σ k26))) (C := "HalfFloats$Format") (T := T_F) (N := 8) hx hb hts (hx_up in_F) hown hK hP (2 + k26) (hx_at_F hk26) rfl 6 (by decide) (hts _ (hx_cons _ k_96)) (fun _ h9 => h9) rfl d_D_finite_107 ?_
      refine lv_icmp_ge (tgt := 118) hx hb d_D_finite_110 (by decide) (fun c33 => ?_) (fun c33 => ?_)
      · replace h := hx_ip c33 h
        refine lv_bipush (v := 8) hx hb d_D_finite_118 (by decide) ?_
        exact B_120 σ x24 x25 k26 x27 x29 x30 x31 x32 (hx_rd_raised σ) (8 : Int32) _ _ ls hP hD hS hk26 (lv_sub hl [0, 1, 2, 3, 4, 6, 7, 8, 9] rfl) h
      · replace h := hx_in c33 h
        refine lv_bipush (v := 12) hx hb d_D_finite_113 (by decide) ?_
        refine lv_goto (tgt := 120) hx hb d_D_finite_115 (by decide) ?_
        exact B_120 σ x24 x25 k26 x27 x29 x30 x31 x32 (hx_rd_raised σ) (12 : Int32) _ _ ls hP hD hS hk26 (lv_sub hl [0, 1, 2, 3, 4, 6, 7, 8, 9] rfl) h
  have B_64 : ∀ (σ : hx_S) (x13 : Int32) (x14 : Int32) (k15 : Nat) (x16 : Int32) (x17 : Int32) (x18 : Int32) (x19 : Int32) (x20 : Int64) (x21 : Int64) (H : Heap) (locs : List Loc) (ls : Array Slot), va_P D vwCl (hx_W T3 ad σ) H → va_D A (hx_W T3 ad σ) → va_S A s.heap H locs → k15 < 4 → lv_has ls 18 [(0, .ref (ad 12)), (1, .int x13), (5, .int x14), (6, .ref (ad (2 + k15))), (7, .int x16), (8, .int x17), (9, .int x18), (10, .int x19), (11, .long x20)] → f_D_finite_64 σ x13 x14 k15 x16 x17 x18 x19 x20 x21 = some (r0, σ0) → W p l e (headSpec w_D_finite m_D_finite).room s m args below meth c H locs 0 0 (MQ below (hx_Qi D (hx_ty T3) A r0 (hx_W T3 ad σ0)) args s 0 0 A) (F0 m 64 ls [.long x21]) := by
      intro σ x13 x14 k15 x16 x17 x18 x19 x20 x21 H locs ls hP hD hS hk15 hl h
      rw [f_D_finite_64] at h
      refine lv_lstore (lv' := [(13, .long x21), (0, .ref (ad 12)), (1, .int x13), (5, .int x14), (6, .ref (ad (2 + k15))), (7, .int x16), (8, .int x17), (9, .int x18), (10, .int x19), (11, .long x20)]) hx hb d_D_finite_64 hl (by decide) rfl (fun ls hl => ?_)
      refine lv_iload hx hb d_D_finite_66 (lv_at hl 7 rfl) ?_
      refine lv_aload hx hb d_D_finite_68 (lv_at hl 4 rfl) ?_
      refine va_get (D := D) (ci := 1) (v := .int (hx_fm_leastPower (hx_fm σ k15))) (C := "HalfFloats$Format") (T := T_F) (N := 8) hx hb hts (hx_up in_F) hown hK hP (2 + k15) (hx_at_F hk15) rfl 7 (by decide) (hts _ (hx_cons _ k_98)) (fun _ h9 => h9) rfl d_D_finite_70 ?_
      refine lv_isub hx hb d_D_finite_73 ?_
      refine lv_i2l hx hb d_D_finite_74 rfl ?_
      refine lv_aload hx hb d_D_finite_75 (lv_at hl 4 rfl) ?_
      refine va_get (D := D) (ci := 1) (v := .int (hx_fm_fracBits (hx_fm σ k15))) (C := "HalfFloats$Format") (T := T_F) (N := 8) hx hb hts (hx_up in_F) hown hK hP (2 + k15) (hx_at_F hk15) rfl 1 (by decide) (hts _ (hx_cons _ k_83)) (fun _ h9 => h9) rfl d_D_finite_77 ?_
      refine lv_lshl hx hb d_D_finite_80 rfl ?_
      refine lv_lload hx hb d_D_finite_81 (lv_at hl 9 rfl) ?_
      refine lv_ladd hx hb d_D_finite_83 ?_
      refine lv_topl (fun x22 ex22 => ?_)
      replace h := hx_ns ex22 h
      clear ex22
      refine lv_lstore (lv' := [(15, .long x22), (13, .long x21), (0, .ref (ad 12)), (1, .int x13), (5, .int x14), (6, .ref (ad (2 + k15))), (7, .int x16), (8, .int x17), (9, .int x18), (10, .int x19), (11, .long x20)]) hx hb d_D_finite_84 hl (by decide) rfl (fun ls hl => ?_)
      refine lv_lload hx hb d_D_finite_86 (lv_at hl 1 rfl) ?_
      refine lv_lconst (v := 0) hx hb d_D_finite_88 rfl ?_
      refine W.lcmp hx hb d_D_finite_89 ?_
      refine lv_if_ne (tgt := 98) hx hb d_D_finite_90 (by decide) (fun c23 => ?_) (fun c23 => ?_)
      · replace h := hx_in c23 h
        exact B_98 σ x13 x14 k15 x16 x17 x19 x20 x21 x22 _ _ ls hP hD hS hk15 (lv_sub hl [2, 3, 4, 5, 6, 7, 9, 10, 1, 0] rfl) h
      · replace h := hx_ip c23 h
        refine lv_iload hx hb d_D_finite_93 (lv_at hl 4 rfl) ?_
        refine lv_if_eq (tgt := 202) hx hb d_D_finite_95 (by decide) (fun c94 => ?_) (fun c94 => ?_)
        · replace h := hx_ip c94 h
          exact B_202 σ x13 k15 x16 x22 _ _ ls hP hD hS hk15 (lv_sub hl [2, 3, 5, 6, 0] rfl) h
        · replace h := hx_in c94 h
          exact B_98 σ x13 x14 k15 x16 x17 x19 x20 x21 x22 _ _ ls hP hD hS hk15 (lv_sub hl [2, 3, 4, 5, 6, 7, 9, 10, 1, 0] rfl) h
  refine W.eq (g2 := F0 m 0 ((lg_sl [.ref (ad 12), .int x1, .long x2, .int x3, .int x4, .ref (ad (2 + k5)), .int x6] ++ List.replicate (18 - (lg_sl [.ref (ad 12), .int x1, .long x2, .int x3, .int x4, .ref (ad (2 + k5)), .int x6]).length) Slot.unset).toArray) []) (by rw [hargs, lg_entry_eq]) ?_
  have hl := lv_entry ([.ref (ad 12), .int x1, .long x2, .int x3, .int x4, .ref (ad (2 + k5)), .int x6]) (n := 18) (Nat.le_of_ble_eq_true rfl)
  generalize (lg_sl ([.ref (ad 12), .int x1, .long x2, .int x3, .int x4, .ref (ad (2 + k5)), .int x6]) ++ List.replicate (18 - (lg_sl ([.ref (ad 12), .int x1, .long x2, .int x3, .int x4, .ref (ad (2 + k5)), .int x6])).length) Slot.unset).toArray = ls at hl ⊢
  have hl : lv_has ls 18 [(0, .ref (ad 12)), (1, .int x1), (2, .long x2), (4, .int x3), (5, .int x4), (6, .ref (ad (2 + k5))), (7, .int x6)] := hl
  rw [f_D_finite] at h
  refine lv_iload hx hb d_D_finite_0 (lv_at hl 3 rfl) ?_
  refine lv_bipush (v := 63) hx hb d_D_finite_2 (by decide) ?_
  refine lv_iadd hx hb d_D_finite_4 ?_
  refine lv_lload_n hx hb d_D_finite_5 rfl (lv_at hl 2 rfl) ?_
  obtain ⟨r7, er7, h⟩ := hx_b1s h
  refine hx_rd (va_runS (As := [.long x2]) (rest := [.int (x3 + (63 : Int32))]) ⟨hx, hb, hml, hown, hts⟩ (c_JL_numberOfLeadingZeros l D T3 x2 _ er7) (va_cwS 1 hts (hx_gS hx_cons k_312 k_313 k_57 k_314) rfl rfl rfl (by decide +kernel) ⟨Nat.le_of_ble_eq_true rfl, Nat.le_of_ble_eq_true rfl⟩) (hx_preS hx_nil hK) rfl rfl hl.1 rfl (lv_room (Nat.le_of_ble_eq_true rfl)) d_D_finite_6 ⟨Nat.zero_le _, Nat.zero_le _⟩) ?_
  refine lv_isub hx hb d_D_finite_9 ?_
  refine lv_topi (fun x8 ex8 => ?_)
  replace h := hx_ns ex8 h
  clear ex8
  refine lv_istore (lv' := [(8, .int x8), (0, .ref (ad 12)), (1, .int x1), (2, .long x2), (4, .int x3), (5, .int x4), (6, .ref (ad (2 + k5))), (7, .int x6)]) hx hb d_D_finite_10 hl (by decide) rfl (fun ls hl => ?_)
  refine lv_iload hx hb d_D_finite_12 (lv_at hl 0 rfl) ?_
  refine lv_aload hx hb d_D_finite_14 (lv_at hl 6 rfl) ?_
  refine va_get (D := D) (ci := 1) (v := .int (hx_fm_leastTop (hx_fm σ k5))) (C := "HalfFloats$Format") (T := T_F) (N := 8) hx hb hts (hx_up in_F) hown hK hP (2 + k5) (hx_at_F hk5) rfl 6 (by decide) (hts _ (hx_cons _ k_96)) (fun _ h9 => h9) rfl d_D_finite_16 ?_
  refine va_mmax hx hb (hml.trans hl.1.symm) hown (hts _ (hx_cons _ k_319)) (hts _ (hx_cons _ k_282)) (hts _ (hx_cons _ k_56)) (hts _ (hx_cons _ k_283)) (Nat.le_of_ble_eq_true rfl) (Nat.le_of_ble_eq_true rfl) (Nat.zero_le _) (Nat.zero_le _) d_D_finite_19 ?_
  refine lv_aload hx hb d_D_finite_22 (lv_at hl 6 rfl) ?_
  refine va_get (D := D) (ci := 1) (v := .int (hx_fm_fracBits (hx_fm σ k5))) (C := "HalfFloats$Format") (T := T_F) (N := 8) hx hb hts (hx_up in_F) hown hK hP (2 + k5) (hx_at_F hk5) rfl 1 (by decide) (hts _ (hx_cons _ k_83)) (fun _ h9 => h9) rfl d_D_finite_24 ?_
  refine lv_isub hx hb d_D_finite_27 ?_
  refine lv_topi (fun x9 ex9 => ?_)
  replace h := hx_ns ex9 h
  clear ex9
  refine lv_istore (lv' := [(9, .int x9), (8, .int x8), (0, .ref (ad 12)), (1, .int x1), (2, .long x2), (4, .int x3), (5, .int x4), (6, .ref (ad (2 + k5))), (7, .int x6)]) hx hb d_D_finite_28 hl (by decide) rfl (fun ls hl => ?_)
  refine lv_iload hx hb d_D_finite_30 (lv_at hl 0 rfl) ?_
  refine lv_iload hx hb d_D_finite_32 (lv_at hl 5 rfl) ?_
  refine lv_isub hx hb d_D_finite_34 ?_
  refine lv_topi (fun x10 ex10 => ?_)
  replace h := hx_ns ex10 h
  clear ex10
  refine lv_istore (lv' := [(10, .int x10), (9, .int x9), (8, .int x8), (0, .ref (ad 12)), (1, .int x1), (2, .long x2), (4, .int x3), (5, .int x4), (6, .ref (ad (2 + k5))), (7, .int x6)]) hx hb d_D_finite_35 hl (by decide) rfl (fun ls hl => ?_)
  refine lv_lload_n hx hb d_D_finite_37 rfl (lv_at hl 5 rfl) ?_
  refine lv_iload hx hb d_D_finite_38 (lv_at hl 0 rfl) ?_
  obtain ⟨r11, er11, h⟩ := hx_b1s h
  refine hx_rd (va_runS (As := [.long x2, .int x10]) (rest := []) ⟨hx, hb, hml, hown, hts⟩ (c_D_shifted l D T3 x2 x10 _ er11) (va_cwS 2 hts (hx_gS hx_cons k_320 k_321 k_54 k_322) rfl rfl rfl (by decide +kernel) ⟨Nat.le_of_ble_eq_true rfl, Nat.le_of_ble_eq_true rfl⟩) (hx_preS hx_nil hK) rfl rfl hl.1 rfl (lv_room (Nat.le_of_ble_eq_true rfl)) d_D_finite_40 ⟨Nat.zero_le _, Nat.zero_le _⟩) ?_
  refine lv_lstore (lv' := [(11, .long r11), (10, .int x10), (9, .int x9), (8, .int x8), (0, .ref (ad 12)), (1, .int x1), (2, .long x2), (4, .int x3), (5, .int x4), (6, .ref (ad (2 + k5))), (7, .int x6)]) hx hb d_D_finite_43 hl (by decide) rfl (fun ls hl => ?_)
  refine lv_iload hx hb d_D_finite_45 (lv_at hl 1 rfl) ?_
  refine lv_if_le (tgt := 63) hx hb d_D_finite_47 (by decide) (fun c12 => ?_) (fun c12 => ?_)
  · replace h := hx_ip c12 h
    refine lv_lconst (v := 0) hx hb d_D_finite_63 rfl ?_
    exact B_64 σ x1 x4 k5 x6 x8 x9 x10 r11 (0 : Int64) _ _ ls hP hD hS hk5 (lv_sub hl [4, 5, 8, 9, 10, 3, 2, 1, 0] rfl) h
  · replace h := hx_in c12 h
    refine lv_lload_n hx hb d_D_finite_50 rfl (lv_at hl 6 rfl) ?_
    refine lv_lload hx hb d_D_finite_51 (lv_at hl 0 rfl) ?_
    refine lv_iload hx hb d_D_finite_53 (lv_at hl 1 rfl) ?_
    refine lv_ineg hx hb d_D_finite_55 ?_
    obtain ⟨r95, er95, h⟩ := hx_b1s h
    refine hx_rd (va_runS (As := [.long r11, .int (-x10)]) (rest := [.long x2]) ⟨hx, hb, hml, hown, hts⟩ (c_D_shifted l D T3 r11 (-x10) _ er95) (va_cwS 2 hts (hx_gS hx_cons k_320 k_321 k_54 k_322) rfl rfl rfl (by decide +kernel) ⟨Nat.le_of_ble_eq_true rfl, Nat.le_of_ble_eq_true rfl⟩) (hx_preS hx_nil hK) rfl rfl hl.1 rfl (lv_room (Nat.le_of_ble_eq_true rfl)) d_D_finite_56 ⟨Nat.zero_le _, Nat.zero_le _⟩) ?_
    refine lv_lsub hx hb d_D_finite_59 ?_
    refine lv_goto (tgt := 64) hx hb d_D_finite_60 (by decide) ?_
    exact B_64 σ x1 x4 k5 x6 x8 x9 x10 r11 (x2 - r95) _ _ ls hP hD hS hk5 (lv_sub hl [4, 5, 8, 9, 10, 3, 2, 1, 0] rfl) h
abbrev m_D_turned : Room := { frames := 3, cells := 0, slots := 0, locals := 84 }
set_option maxHeartbeats 4000000 in
set_option maxRecDepth 100000 in
theorem c_D_turned (l : Launch) (D : va_G) (T3 : hx_T3) (ad : Nat → Nat) (sz : Nat) (σ : hx_S) (k1 : Nat) (x2 : Int32) (x3 : Int32) (k4 : Nat) (x5 : Int32) (hk1 : k1 < 4) (hk4 : k4 < 4) (r0 : Int32) (σ0 : hx_S) (h : f_D_turned σ k1 x2 x3 k4 x5 = some (r0, σ0)) : hx_Wi l D (hx_ty T3) y_D_turned w_D_turned m_D_turned [.ref (ad 12), .ref (ad (2 + k1)), .int x2, .int x3, .ref (ad (2 + k4)), .int x5] sz (hx_W T3 ad σ) r0 (hx_W T3 ad σ0) := by
  refine Met.ofW (cc := b_D_turned) (maxL := 8) (ret := (some .int)) (by decide) rfl ?_
  intro p e s m args below meth c s₁ B hml hv
  obtain ⟨hargs, hsz, hP, hK, hD0⟩ := hv
  have hx := B.exec
  have hb := B.bytes
  have hr := B.returns
  have hts := atoms_spec (ws := w_D_turned) B.pre
  have hown : s.vm.findClass "HalfFloats$Rounder" = some m.cls := findClass_of_methodNamed B.named
  have hlocks := B.notSynchronized
  subst hsz
  have hD := hD0.self (sz := s.heap.size)
  generalize hAe : va_A (hx_W T3 ad σ) s.heap.size = A at hD ⊢
  have hA : ∀ q : Nat, s.heap.size ≤ q → A q := fun q h => by rw [← hAe]; exact Or.inr h
  have hS : va_S A s.heap s.heap [] := va_S.rf
  have B_76 : ∀ (σ : hx_S) (k11 : Nat) (x12 : Int32) (x13 : Int32) (k14 : Nat) (x15 : Int32) (x16 : Int32) (H : Heap) (locs : List Loc) (ls : Array Slot), va_P D vwCl (hx_W T3 ad σ) H → va_D A (hx_W T3 ad σ) → va_S A s.heap H locs → k11 < 4 → k14 < 4 → lv_has ls 8 [(0, .ref (ad 12)), (1, .ref (ad (2 + k11))), (2, .int x12), (3, .int x13), (4, .ref (ad (2 + k14))), (5, .int x15), (7, .int x16)] → f_D_turned_76 σ k11 x12 x13 k14 x15 x16 = some (r0, σ0) → W p l e (headSpec w_D_turned m_D_turned).room s m args below meth c H locs 0 0 (MQ below (hx_Qi D (hx_ty T3) A r0 (hx_W T3 ad σ0)) args s 0 0 A) (F0 m 76 ls []) := by
      intro σ k11 x12 x13 k14 x15 x16 H locs ls hP hD hS hk11 hk14 hl h
      rw [f_D_turned_76] at h
      refine lv_aload_n hx hb d_D_turned_76 rfl (lv_at hl 0 rfl) ?_
      refine lv_iload hx hb d_D_turned_77 (lv_at hl 6 rfl) ?_
      refine lv_aload_n hx hb d_D_turned_79 rfl (lv_at hl 1 rfl) ?_
      refine lv_iload_n hx hb d_D_turned_80 rfl (lv_at hl 2 rfl) ?_
      obtain ⟨r17, er17, h⟩ := hx_b1s h
      refine hx_rd (va_runV (As := [.int x12]) (rest := [.int x16, .ref (ad 12)]) ⟨hx, hb, hml, hown, hts⟩ (c_F_wholeOf l D T3 (ad (2 + k11)) (hx_fm σ k11) x12 _ er17) (cwV 1 hts (hx_gV hx_cons k_306 k_274 k_275 k_51 k_276) rfl rfl rfl (by decide +kernel) ⟨Nat.le_of_ble_eq_true rfl, Nat.le_of_ble_eq_true rfl⟩) (hx_preV (va_recv hK hP (ci := 1) (q0 := 2 + k11) rfl (hx_at_F hk11)) (hx_one hP (hx_at_F hk11)) hK) rfl rfl hl.1 rfl (lv_room (Nat.le_of_ble_eq_true rfl)) d_D_turned_81 ⟨Nat.zero_le _, Nat.zero_le _⟩) ?_
      refine lv_aload_n hx hb d_D_turned_84 rfl (lv_at hl 1 rfl) ?_
      refine lv_iload_n hx hb d_D_turned_85 rfl (lv_at hl 2 rfl) ?_
      obtain ⟨r18, er18, h⟩ := hx_b1s h
      refine hx_rd (va_runV (As := [.int x12]) (rest := [.long r17, .int x16, .ref (ad 12)]) ⟨hx, hb, hml, hown, hts⟩ (c_F_powerOf l D T3 (ad (2 + k11)) (hx_fm σ k11) x12 _ er18) (cwV 1 hts (hx_gV hx_cons k_307 k_278 k_279 k_51 k_280) rfl rfl rfl (by decide +kernel) ⟨Nat.le_of_ble_eq_true rfl, Nat.le_of_ble_eq_true rfl⟩) (hx_preV (va_recv hK hP (ci := 1) (q0 := 2 + k11) rfl (hx_at_F hk11)) (hx_one hP (hx_at_F hk11)) hK) rfl rfl hl.1 rfl (lv_room (Nat.le_of_ble_eq_true rfl)) d_D_turned_86 ⟨Nat.zero_le _, Nat.zero_le _⟩) ?_
      refine lv_iload_n hx hb d_D_turned_89 rfl (lv_at hl 3 rfl) ?_
      refine lv_iadd hx hb d_D_turned_90 ?_
      refine lv_iconst (v := 0) hx hb d_D_turned_91 (by decide) ?_
      refine lv_aload hx hb d_D_turned_92 (lv_at hl 4 rfl) ?_
      refine lv_iload hx hb d_D_turned_94 (lv_at hl 5 rfl) ?_
      obtain ⟨r20, q19, eq19, h⟩ := hx_b2s h
      refine hx_wi (va_runV (As := [.int x16, .long r17, .int (r18 + x13), .int (0 : Int32), .ref (ad (2 + k14)), .int x15]) (rest := []) ⟨hx, hb, hml, hown, hts⟩ (c_D_finite l D T3 ad _ σ x16 r17 (r18 + x13) (0 : Int32) k14 x15 hk14 _ _ eq19) (cwV 6 hts (hx_gV hx_cons k_308 k_310 k_2 k_54 k_311) rfl rfl rfl (by decide +kernel) ⟨Nat.le_of_ble_eq_true rfl, Nat.le_of_ble_eq_true rfl⟩) (hx_preVw (va_recv hK hP (ci := 4) (q0 := 12) rfl hx_at_D) hP hK hD) rfl rfl hl.1 rfl (lv_room (Nat.le_of_ble_eq_true rfl)) d_D_turned_96 ⟨Nat.zero_le _, Nat.zero_le _⟩) hD hS hA (fun H locs hP hD hS => ?_)
      exact W.iret hx hb hr (fun t ht hW => hx_endi h ht hW hP hK hD hS) hS.2.2 d_D_turned_99
  refine W.eq (g2 := F0 m 0 ((lg_sl [.ref (ad 12), .ref (ad (2 + k1)), .int x2, .int x3, .ref (ad (2 + k4)), .int x5] ++ List.replicate (8 - (lg_sl [.ref (ad 12), .ref (ad (2 + k1)), .int x2, .int x3, .ref (ad (2 + k4)), .int x5]).length) Slot.unset).toArray) []) (by rw [hargs, lg_entry_eq]) ?_
  have hl := lv_entry ([.ref (ad 12), .ref (ad (2 + k1)), .int x2, .int x3, .ref (ad (2 + k4)), .int x5]) (n := 8) (Nat.le_of_ble_eq_true rfl)
  generalize (lg_sl ([.ref (ad 12), .ref (ad (2 + k1)), .int x2, .int x3, .ref (ad (2 + k4)), .int x5]) ++ List.replicate (8 - (lg_sl ([.ref (ad 12), .ref (ad (2 + k1)), .int x2, .int x3, .ref (ad (2 + k4)), .int x5])).length) Slot.unset).toArray = ls at hl ⊢
  have hl : lv_has ls 8 [(0, .ref (ad 12)), (1, .ref (ad (2 + k1))), (2, .int x2), (3, .int x3), (4, .ref (ad (2 + k4))), (5, .int x5)] := hl
  rw [f_D_turned] at h
  refine lv_aload_n hx hb d_D_turned_0 rfl (lv_at hl 1 rfl) ?_
  refine lv_iload_n hx hb d_D_turned_1 rfl (lv_at hl 2 rfl) ?_
  obtain ⟨r6, er6, h⟩ := hx_b1s h
  refine hx_rd (va_runV (As := [.int x2]) (rest := []) ⟨hx, hb, hml, hown, hts⟩ (c_F_sortOf l D T3 (ad (2 + k1)) (hx_fm σ k1) x2 _ er6) (cwV 1 hts (hx_gV hx_cons k_296 k_262 k_263 k_51 k_264) rfl rfl rfl (by decide +kernel) ⟨Nat.le_of_ble_eq_true rfl, Nat.le_of_ble_eq_true rfl⟩) (hx_preV (va_recv hK hP (ci := 1) (q0 := 2 + k1) rfl (hx_at_F hk1)) (hx_one hP (hx_at_F hk1)) hK) rfl rfl hl.1 rfl (lv_room (Nat.le_of_ble_eq_true rfl)) d_D_turned_2 ⟨Nat.zero_le _, Nat.zero_le _⟩) ?_
  refine lv_istore (lv' := [(6, .int r6), (0, .ref (ad 12)), (1, .ref (ad (2 + k1))), (2, .int x2), (3, .int x3), (4, .ref (ad (2 + k4))), (5, .int x5)]) hx hb d_D_turned_5 hl (by decide) rfl (fun ls hl => ?_)
  refine lv_aload_n hx hb d_D_turned_7 rfl (lv_at hl 2 rfl) ?_
  refine lv_iload_n hx hb d_D_turned_8 rfl (lv_at hl 3 rfl) ?_
  obtain ⟨r7, er7, h⟩ := hx_b1s h
  refine hx_rd (va_runV (As := [.int x2]) (rest := []) ⟨hx, hb, hml, hown, hts⟩ (c_F_isNegative l D T3 (ad (2 + k1)) (hx_fm σ k1) x2 _ er7) (cwV 1 hts (hx_gV hx_cons k_297 k_270 k_271 k_51 k_272) rfl rfl rfl (by decide +kernel) ⟨Nat.le_of_ble_eq_true rfl, Nat.le_of_ble_eq_true rfl⟩) (hx_preV (va_recv hK hP (ci := 1) (q0 := 2 + k1) rfl (hx_at_F hk1)) (hx_one hP (hx_at_F hk1)) hK) rfl rfl hl.1 rfl (lv_room (Nat.le_of_ble_eq_true rfl)) d_D_turned_9 ⟨Nat.zero_le _, Nat.zero_le _⟩) ?_
  refine lv_istore (lv' := [(7, .int r7), (6, .int r6), (0, .ref (ad 12)), (1, .ref (ad (2 + k1))), (2, .int x2), (3, .int x3), (4, .ref (ad (2 + k4))), (5, .int x5)]) hx hb d_D_turned_12 hl (by decide) rfl (fun ls hl => ?_)
  refine lv_iload hx hb d_D_turned_14 (lv_at hl 1 rfl) ?_
  by_cases c8 : r6 = 0
  · replace h := hx_ip c8 h
    refine lv_tableIn (tgt := 67) hx hb d_D_turned_16 (by rw [c8]; decide) (by rw [c8]; decide) (by rw [c8]; rfl) (by decide) ?_
    refine lv_aload hx hb d_D_turned_67 (lv_at hl 6 rfl) ?_
    refine lv_iload hx hb d_D_turned_69 (lv_at hl 0 rfl) ?_
    refine lv_iconst (v := 0) hx hb d_D_turned_71 (by decide) ?_
    obtain ⟨r9, er9, h⟩ := hx_b1s h
    refine hx_rd (va_runV (As := [.int r7, .int (0 : Int32)]) (rest := []) ⟨hx, hb, hml, hown, hts⟩ (c_F_signed l D T3 (ad (2 + k4)) (hx_fm σ k4) r7 (0 : Int32) _ er9) (cwV 2 hts (hx_gV hx_cons k_302 k_303 k_304 k_51 k_305) rfl rfl rfl (by decide +kernel) ⟨Nat.le_of_ble_eq_true rfl, Nat.le_of_ble_eq_true rfl⟩) (hx_preV (va_recv hK hP (ci := 1) (q0 := 2 + k4) rfl (hx_at_F hk4)) (hx_one hP (hx_at_F hk4)) hK) rfl rfl hl.1 rfl (lv_room (Nat.le_of_ble_eq_true rfl)) d_D_turned_72 ⟨Nat.zero_le _, Nat.zero_le _⟩) ?_
    exact W.iret hx hb hr (fun t ht hW => hx_endi h ht hW hP hK hD hS) hS.2.2 d_D_turned_75
  · replace h := hx_in c8 h
    by_cases c10 : r6 = 1
    · replace h := hx_ip c10 h
      refine lv_tableIn (tgt := 76) hx hb d_D_turned_16 (by rw [c10]; decide) (by rw [c10]; decide) (by rw [c10]; rfl) (by decide) ?_
      exact B_76 σ k1 x2 x3 k4 x5 r7 _ _ ls hP hD hS hk1 hk4 (lv_sub hl [2, 3, 4, 5, 6, 7, 0] rfl) h
    · replace h := hx_in c10 h
      by_cases c21 : r6 = 2
      · replace h := hx_ip c21 h
        refine lv_tableIn (tgt := 76) hx hb d_D_turned_16 (by rw [c21]; decide) (by rw [c21]; decide) (by rw [c21]; rfl) (by decide) ?_
        exact B_76 σ k1 x2 x3 k4 x5 r7 _ _ ls hP hD hS hk1 hk4 (lv_sub hl [2, 3, 4, 5, 6, 7, 0] rfl) h
      · replace h := hx_in c21 h
        by_cases c22 : r6 = 3
        · replace h := hx_ip c22 h
          refine lv_tableIn (tgt := 58) hx hb d_D_turned_16 (by rw [c22]; decide) (by rw [c22]; decide) (by rw [c22]; rfl) (by decide) ?_
          refine lv_aload_n hx hb d_D_turned_58 rfl (lv_at hl 2 rfl) ?_
          refine lv_iload hx hb d_D_turned_59 (lv_at hl 0 rfl) ?_
          refine lv_aload hx hb d_D_turned_61 (lv_at hl 6 rfl) ?_
          obtain ⟨r23, er23, h⟩ := hx_b1s h
          refine hx_rd (va_runV (As := [.int r7, .ref (ad (2 + k4))]) (rest := []) ⟨hx, hb, hml, hown, hts⟩ (c_D_infinite l D T3 ad σ r7 k4 hk4 _ er23) (cwV 2 hts (hx_gV hx_cons k_298 k_300 k_1 k_54 k_301) rfl rfl rfl (by decide +kernel) ⟨Nat.le_of_ble_eq_true rfl, Nat.le_of_ble_eq_true rfl⟩) (hx_preV (va_recv hK hP (ci := 4) (q0 := 12) rfl hx_at_D) hP hK) rfl rfl hl.1 rfl (lv_room (Nat.le_of_ble_eq_true rfl)) d_D_turned_63 ⟨Nat.zero_le _, Nat.zero_le _⟩) ?_
          exact W.iret hx hb hr (fun t ht hW => hx_endi h ht hW hP hK hD hS) hS.2.2 d_D_turned_66
        · replace h := hx_in c22 h
          by_cases c24 : r6 = 4
          · replace h := hx_ip c24 h
            refine lv_tableIn (tgt := 52) hx hb d_D_turned_16 (by rw [c24]; decide) (by rw [c24]; decide) (by rw [c24]; rfl) (by decide) ?_
            refine lv_aload hx hb d_D_turned_52 (lv_at hl 6 rfl) ?_
            refine va_get (D := D) (ci := 1) (v := .int (hx_fm_theNan (hx_fm σ k4))) (C := "HalfFloats$Format") (T := T_F) (N := 8) hx hb hts (hx_up in_F) hown hK hP (2 + k4) (hx_at_F hk4) rfl 5 (by decide) (hts _ (hx_cons _ k_92)) (fun _ h9 => h9) rfl d_D_turned_54 ?_
            exact W.iret hx hb hr (fun t ht hW => hx_endi h ht hW hP hK hD hS) hS.2.2 d_D_turned_57
          · replace h := hx_in c24 h
            have tc8 := lv_neT (a := 0) c8 (by decide)
            have tc10 := lv_neT (a := 1) c10 (by decide)
            have tc21 := lv_neT (a := 2) c21 (by decide)
            have tc22 := lv_neT (a := 3) c22 (by decide)
            have tc24 := lv_neT (a := 4) c24 (by decide)
            refine lv_tableOut (tgt := 76) hx hb d_D_turned_16 (by omega) (by decide) ?_
            exact B_76 σ k1 x2 x3 k4 x5 r7 _ _ ls hP hD hS hk1 hk4 (lv_sub hl [2, 3, 4, 5, 6, 7, 0] rfl) h
abbrev m_D_rounded : Room := { frames := 4, cells := 0, slots := 0, locals := 89 }
set_option maxHeartbeats 4000000 in
set_option maxRecDepth 100000 in
theorem c_D_rounded (l : Launch) (D : va_G) (T3 : hx_T3) (ad : Nat → Nat) (sz : Nat) (σ : hx_S) (k1 : Nat) (x2 : Int32) (hk1 : k1 < 4) (r0 : Int32) (σ0 : hx_S) (h : f_D_rounded σ k1 x2 = some (r0, σ0)) : hx_Wi l D (hx_ty T3) y_D_rounded w_D_rounded m_D_rounded [.ref (ad 12), .ref (ad 10), .ref (ad (2 + k1)), .int x2] sz (hx_W T3 ad σ) r0 (hx_W T3 ad σ0) := by
  refine Met.ofW (cc := b_D_rounded) (maxL := 4) (ret := (some .int)) (by decide) rfl ?_
  intro p e s m args below meth c s₁ B hml hv
  obtain ⟨hargs, hsz, hP, hK, hD0⟩ := hv
  have hx := B.exec
  have hb := B.bytes
  have hr := B.returns
  have hts := atoms_spec (ws := w_D_rounded) B.pre
  have hown : s.vm.findClass "HalfFloats$Rounder" = some m.cls := findClass_of_methodNamed B.named
  have hlocks := B.notSynchronized
  subst hsz
  have hD := hD0.self (sz := s.heap.size)
  generalize hAe : va_A (hx_W T3 ad σ) s.heap.size = A at hD ⊢
  have hA : ∀ q : Nat, s.heap.size ≤ q → A q := fun q h => by rw [← hAe]; exact Or.inr h
  have hS : va_S A s.heap s.heap [] := va_S.rf
  have B_33 : ∀ (σ : hx_S) (k5 : Nat) (H : Heap) (locs : List Loc) (ls : Array Slot), va_P D vwCl (hx_W T3 ad σ) H → va_D A (hx_W T3 ad σ) → va_S A s.heap H locs → k5 < 4 → lv_has ls 4 [(0, .ref (ad 12)), (2, .ref (ad (2 + k5)))] → f_D_rounded_33 σ k5 = some (r0, σ0) → W p l e (headSpec w_D_rounded m_D_rounded).room s m args below meth c H locs 0 0 (MQ below (hx_Qi D (hx_ty T3) A r0 (hx_W T3 ad σ0)) args s 0 0 A) (F0 m 33 ls []) := by
      intro σ k5 H locs ls hP hD hS hk5 hl h
      rw [f_D_rounded_33] at h
      refine lv_aload_n hx hb d_D_rounded_33 rfl (lv_at hl 0 rfl) ?_
      refine lv_dup hx hb d_D_rounded_34 rfl ?_
      refine va_get (D := D) (ci := 4) (v := .int (hx_rd_raised σ)) (C := "HalfFloats$Rounder") (T := T_D) (N := 2) hx hb hts (hx_up in_D) hown hK hP (12) hx_at_D rfl 0 (by decide) (hts _ (hx_cons _ k_195)) (fun _ h9 => h9) rfl d_D_rounded_35 ?_
      refine lv_iconst (v := 1) hx hb d_D_rounded_38 (by decide) ?_
      refine lv_ior hx hb d_D_rounded_39 ?_
      refine lv_topi (fun x6 ex6 => ?_)
      replace h := hx_ns ex6 h
      clear ex6
      refine va_put (D := D) (ci := 4) (v := .int x6) (ty := .int) (C := "HalfFloats$Rounder") (T := T_D) (N := 2) hx hb hts (hx_up in_D) ty_D tyok_D nm_D hown hK hP hD hS (12) hx_at_D rfl 0 (by decide) (hts _ (hx_cons _ k_195)) (fun _ h9 => h9) rfl (by decide +kernel) rfl rfl (Nat.le_of_ble_eq_true rfl) d_D_rounded_40 (fun H locs hP hD hS => ?_)
      obtain ⟨σ7, eσ7⟩ : ∃ y : hx_S, y = (hx_rd_raised_s σ x6) := ⟨_, rfl⟩
      replace hP : va_P D vwCl (hx_W T3 ad σ7) H := by rw [eσ7]; exact hP
      replace hD : va_D A (hx_W T3 ad σ7) := by rw [eσ7]; exact hD
      replace h := hx_ns eσ7 h
      clear eσ7
      refine lv_aload_n hx hb d_D_rounded_43 rfl (lv_at hl 1 rfl) ?_
      refine va_get (D := D) (ci := 1) (v := .int (hx_fm_theNan (hx_fm σ7 k5))) (C := "HalfFloats$Format") (T := T_F) (N := 8) hx hb hts (hx_up in_F) hown hK hP (2 + k5) (hx_at_F hk5) rfl 5 (by decide) (hts _ (hx_cons _ k_92)) (fun _ h9 => h9) rfl d_D_rounded_44 ?_
      exact W.iret hx hb hr (fun t ht hW => hx_endi h ht hW hP hK hD hS) hS.2.2 d_D_rounded_47
  have B_62 : ∀ (σ : hx_S) (k12 : Nat) (H : Heap) (locs : List Loc) (ls : Array Slot), va_P D vwCl (hx_W T3 ad σ) H → va_D A (hx_W T3 ad σ) → va_S A s.heap H locs → k12 < 4 → lv_has ls 4 [(0, .ref (ad 12)), (1, .ref (ad 10)), (2, .ref (ad (2 + k12)))] → f_D_rounded_62 σ k12 = some (r0, σ0) → W p l e (headSpec w_D_rounded m_D_rounded).room s m args below meth c H locs 0 0 (MQ below (hx_Qi D (hx_ty T3) A r0 (hx_W T3 ad σ0)) args s 0 0 A) (F0 m 62 ls []) := by
      intro σ k12 H locs ls hP hD hS hk12 hl h
      rw [f_D_rounded_62] at h
      refine lv_aload_n hx hb d_D_rounded_62 rfl (lv_at hl 0 rfl) ?_
      refine lv_aload_n hx hb d_D_rounded_63 rfl (lv_at hl 1 rfl) ?_
      refine va_get (D := D) (ci := 3) (v := .int (hx_ex_minusInfinite σ)) (C := "HalfFloats$Exact") (T := T_E) (N := 12) hx hb hts (hx_up in_E) hown hK hP (10) hx_at_E rfl 3 (by decide) (hts _ (hx_cons _ k_150)) (fun _ h9 => h9) rfl d_D_rounded_64 ?_
      refine lv_aload_n hx hb d_D_rounded_67 rfl (lv_at hl 2 rfl) ?_
      obtain ⟨r13, er13, h⟩ := hx_b1s h
      refine hx_rd (va_runV (As := [.int (hx_ex_minusInfinite σ), .ref (ad (2 + k12))]) (rest := []) ⟨hx, hb, hml, hown, hts⟩ (c_D_infinite l D T3 ad σ (hx_ex_minusInfinite σ) k12 hk12 _ er13) (cwV 2 hts (hx_gV hx_cons k_298 k_300 k_1 k_54 k_301) rfl rfl rfl (by decide +kernel) ⟨Nat.le_of_ble_eq_true rfl, Nat.le_of_ble_eq_true rfl⟩) (hx_preV (va_recv hK hP (ci := 4) (q0 := 12) rfl hx_at_D) hP hK) rfl rfl hl.1 rfl (lv_room (Nat.le_of_ble_eq_true rfl)) d_D_rounded_68 ⟨Nat.zero_le _, Nat.zero_le _⟩) ?_
      exact W.iret hx hb hr (fun t ht hW => hx_endi h ht hW hP hK hD hS) hS.2.2 d_D_rounded_71
  have B_48 : ∀ (σ : hx_S) (k9 : Nat) (x10 : Int32) (H : Heap) (locs : List Loc) (ls : Array Slot), va_P D vwCl (hx_W T3 ad σ) H → va_D A (hx_W T3 ad σ) → va_S A s.heap H locs → k9 < 4 → lv_has ls 4 [(0, .ref (ad 12)), (1, .ref (ad 10)), (2, .ref (ad (2 + k9))), (3, .int x10)] → f_D_rounded_48 σ k9 x10 = some (r0, σ0) → W p l e (headSpec w_D_rounded m_D_rounded).room s m args below meth c H locs 0 0 (MQ below (hx_Qi D (hx_ty T3) A r0 (hx_W T3 ad σ0)) args s 0 0 A) (F0 m 48 ls []) := by
      intro σ k9 x10 H locs ls hP hD hS hk9 hl h
      rw [f_D_rounded_48] at h
      refine lv_aload_n hx hb d_D_rounded_48 rfl (lv_at hl 1 rfl) ?_
      refine va_get (D := D) (ci := 3) (v := .int (hx_ex_plusInfinite σ)) (C := "HalfFloats$Exact") (T := T_E) (N := 12) hx hb hts (hx_up in_E) hown hK hP (10) hx_at_E rfl 2 (by decide) (hts _ (hx_cons _ k_148)) (fun _ h9 => h9) rfl d_D_rounded_49 ?_
      refine lv_if_ne (tgt := 62) hx hb d_D_rounded_52 (by decide) (fun c11 => ?_) (fun c11 => ?_)
      · replace h := hx_in c11 h
        exact B_62 σ k9 _ _ ls hP hD hS hk9 (lv_sub hl [0, 1, 2] rfl) h
      · replace h := hx_ip c11 h
        refine lv_aload_n hx hb d_D_rounded_55 rfl (lv_at hl 1 rfl) ?_
        refine va_get (D := D) (ci := 3) (v := .int (hx_ex_minusInfinite σ)) (C := "HalfFloats$Exact") (T := T_E) (N := 12) hx hb hts (hx_up in_E) hown hK hP (10) hx_at_E rfl 3 (by decide) (hts _ (hx_cons _ k_150)) (fun _ h9 => h9) rfl d_D_rounded_56 ?_
        refine lv_if_eq (tgt := 72) hx hb d_D_rounded_59 (by decide) (fun c14 => ?_) (fun c14 => ?_)
        · replace h := hx_ip c14 h
          refine lv_aload_n hx hb d_D_rounded_72 rfl (lv_at hl 1 rfl) ?_
          obtain ⟨q15, eq15, h⟩ := hx_b1s h
          refine hx_wv (va_runV (As := []) (rest := []) ⟨hx, hb, hml, hown, hts⟩ (c_E_settle l D T3 ad _ σ _ eq15) (cwV 0 hts (hx_gV hx_cons k_387 k_388 k_389 k_53 k_390) rfl rfl rfl (by decide +kernel) ⟨Nat.le_of_ble_eq_true rfl, Nat.le_of_ble_eq_true rfl⟩) (hx_preVw (va_recv hK hP (ci := 3) (q0 := 10) rfl hx_at_E) hP hK hD) rfl rfl hl.1 rfl (lv_room (Nat.le_of_ble_eq_true rfl)) d_D_rounded_73 ⟨Nat.zero_le _, Nat.zero_le _⟩) hD hS hA (fun H locs hP hD hS => ?_)
          refine lv_aload_n hx hb d_D_rounded_76 rfl (lv_at hl 1 rfl) ?_
          refine va_get (D := D) (ci := 3) (v := .long (hx_ex_whole q15)) (C := "HalfFloats$Exact") (T := T_E) (N := 12) hx hb hts (hx_up in_E) hown hK hP (10) hx_at_E rfl 8 (by decide) (hts _ (hx_cons _ k_157)) (fun _ h9 => h9) rfl d_D_rounded_77 ?_
          refine lv_lconst (v := 0) hx hb d_D_rounded_80 rfl ?_
          refine W.lcmp hx hb d_D_rounded_81 ?_
          refine lv_if_ne (tgt := 96) hx hb d_D_rounded_82 (by decide) (fun c16 => ?_) (fun c16 => ?_)
          · replace h := hx_in c16 h
            refine lv_aload_n hx hb d_D_rounded_96 rfl (lv_at hl 0 rfl) ?_
            refine lv_aload_n hx hb d_D_rounded_97 rfl (lv_at hl 1 rfl) ?_
            refine va_get (D := D) (ci := 3) (v := .int (hx_ex_negative q15)) (C := "HalfFloats$Exact") (T := T_E) (N := 12) hx hb hts (hx_up in_E) hown hK hP (10) hx_at_E rfl 7 (by decide) (hts _ (hx_cons _ k_155)) (fun _ h9 => h9) rfl d_D_rounded_98 ?_
            refine lv_aload_n hx hb d_D_rounded_101 rfl (lv_at hl 1 rfl) ?_
            refine va_get (D := D) (ci := 3) (v := .long (hx_ex_whole q15)) (C := "HalfFloats$Exact") (T := T_E) (N := 12) hx hb hts (hx_up in_E) hown hK hP (10) hx_at_E rfl 8 (by decide) (hts _ (hx_cons _ k_157)) (fun _ h9 => h9) rfl d_D_rounded_102 ?_
            refine lv_aload_n hx hb d_D_rounded_105 rfl (lv_at hl 1 rfl) ?_
            refine va_get (D := D) (ci := 3) (v := .int (hx_ex_power q15)) (C := "HalfFloats$Exact") (T := T_E) (N := 12) hx hb hts (hx_up in_E) hown hK hP (10) hx_at_E rfl 9 (by decide) (hts _ (hx_cons _ k_159)) (fun _ h9 => h9) rfl d_D_rounded_106 ?_
            refine lv_aload_n hx hb d_D_rounded_109 rfl (lv_at hl 1 rfl) ?_
            refine va_get (D := D) (ci := 3) (v := .int (hx_ex_more q15)) (C := "HalfFloats$Exact") (T := T_E) (N := 12) hx hb hts (hx_up in_E) hown hK hP (10) hx_at_E rfl 10 (by decide) (hts _ (hx_cons _ k_161)) (fun _ h9 => h9) rfl d_D_rounded_110 ?_
            refine lv_aload_n hx hb d_D_rounded_113 rfl (lv_at hl 2 rfl) ?_
            refine lv_iload_n hx hb d_D_rounded_114 rfl (lv_at hl 3 rfl) ?_
            obtain ⟨r18, q17, eq17, h⟩ := hx_b2s h
            refine hx_wi (va_runV (As := [.int (hx_ex_negative q15), .long (hx_ex_whole q15), .int (hx_ex_power q15), .int (hx_ex_more q15), .ref (ad (2 + k9)), .int x10]) (rest := []) ⟨hx, hb, hml, hown, hts⟩ (c_D_finite l D T3 ad _ q15 (hx_ex_negative q15) (hx_ex_whole q15) (hx_ex_power q15) (hx_ex_more q15) k9 x10 hk9 _ _ eq17) (cwV 6 hts (hx_gV hx_cons k_308 k_310 k_2 k_54 k_311) rfl rfl rfl (by decide +kernel) ⟨Nat.le_of_ble_eq_true rfl, Nat.le_of_ble_eq_true rfl⟩) (hx_preVw (va_recv hK hP (ci := 4) (q0 := 12) rfl hx_at_D) hP hK hD) rfl rfl hl.1 rfl (lv_room (Nat.le_of_ble_eq_true rfl)) d_D_rounded_115 ⟨Nat.zero_le _, Nat.zero_le _⟩) hD hS hA (fun H locs hP hD hS => ?_)
            exact W.iret hx hb hr (fun t ht hW => hx_endi h ht hW hP hK hD hS) hS.2.2 d_D_rounded_118
          · replace h := hx_ip c16 h
            refine lv_aload_n hx hb d_D_rounded_85 rfl (lv_at hl 2 rfl) ?_
            refine lv_aload_n hx hb d_D_rounded_86 rfl (lv_at hl 1 rfl) ?_
            refine lv_iload_n hx hb d_D_rounded_87 rfl (lv_at hl 3 rfl) ?_
            obtain ⟨r19, er19, h⟩ := hx_b1s h
            refine hx_rd (va_runV (As := [.int x10]) (rest := [.ref (ad (2 + k9))]) ⟨hx, hb, hml, hown, hts⟩ (c_E_zeroIsNegative l D T3 ad q15 x10 _ er19) (cwV 1 hts (hx_gV hx_cons k_401 k_402 k_403 k_53 k_404) rfl rfl rfl (by decide +kernel) ⟨Nat.le_of_ble_eq_true rfl, Nat.le_of_ble_eq_true rfl⟩) (hx_preV (va_recv hK hP (ci := 3) (q0 := 10) rfl hx_at_E) hP hK) rfl rfl hl.1 rfl (lv_room (Nat.le_of_ble_eq_true rfl)) d_D_rounded_88 ⟨Nat.zero_le _, Nat.zero_le _⟩) ?_
            refine lv_iconst (v := 0) hx hb d_D_rounded_91 (by decide) ?_
            obtain ⟨r20, er20, h⟩ := hx_b1s h
            refine hx_rd (va_runV (As := [.int r19, .int (0 : Int32)]) (rest := []) ⟨hx, hb, hml, hown, hts⟩ (c_F_signed l D T3 (ad (2 + k9)) (hx_fm q15 k9) r19 (0 : Int32) _ er20) (cwV 2 hts (hx_gV hx_cons k_302 k_303 k_304 k_51 k_305) rfl rfl rfl (by decide +kernel) ⟨Nat.le_of_ble_eq_true rfl, Nat.le_of_ble_eq_true rfl⟩) (hx_preV (va_recv hK hP (ci := 1) (q0 := 2 + k9) rfl (hx_at_F hk9)) (hx_one hP (hx_at_F hk9)) hK) rfl rfl hl.1 rfl (lv_room (Nat.le_of_ble_eq_true rfl)) d_D_rounded_92 ⟨Nat.zero_le _, Nat.zero_le _⟩) ?_
            exact W.iret hx hb hr (fun t ht hW => hx_endi h ht hW hP hK hD hS) hS.2.2 d_D_rounded_95
        · replace h := hx_in c14 h
          exact B_62 σ k9 _ _ ls hP hD hS hk9 (lv_sub hl [0, 1, 2] rfl) h
  refine W.eq (g2 := F0 m 0 ((lg_sl [.ref (ad 12), .ref (ad 10), .ref (ad (2 + k1)), .int x2] ++ List.replicate (4 - (lg_sl [.ref (ad 12), .ref (ad 10), .ref (ad (2 + k1)), .int x2]).length) Slot.unset).toArray) []) (by rw [hargs, lg_entry_eq]) ?_
  have hl := lv_entry ([.ref (ad 12), .ref (ad 10), .ref (ad (2 + k1)), .int x2]) (n := 4) (Nat.le_of_ble_eq_true rfl)
  generalize (lg_sl ([.ref (ad 12), .ref (ad 10), .ref (ad (2 + k1)), .int x2]) ++ List.replicate (4 - (lg_sl ([.ref (ad 12), .ref (ad 10), .ref (ad (2 + k1)), .int x2])).length) Slot.unset).toArray = ls at hl ⊢
  have hl : lv_has ls 4 [(0, .ref (ad 12)), (1, .ref (ad 10)), (2, .ref (ad (2 + k1))), (3, .int x2)] := hl
  rw [f_D_rounded] at h
  refine lv_aload_n hx hb d_D_rounded_0 rfl (lv_at hl 1 rfl) ?_
  refine va_get (D := D) (ci := 3) (v := .int (hx_ex_hasNan σ)) (C := "HalfFloats$Exact") (T := T_E) (N := 12) hx hb hts (hx_up in_E) hown hK hP (10) hx_at_E rfl 0 (by decide) (hts _ (hx_cons _ k_143)) (fun _ h9 => h9) rfl d_D_rounded_1 ?_
  refine lv_if_eq (tgt := 12) hx hb d_D_rounded_4 (by decide) (fun c3 => ?_) (fun c3 => ?_)
  · replace h := hx_ip c3 h
    refine lv_aload_n hx hb d_D_rounded_12 rfl (lv_at hl 1 rfl) ?_
    refine va_get (D := D) (ci := 3) (v := .int (hx_ex_zeroTimesInfinite σ)) (C := "HalfFloats$Exact") (T := T_E) (N := 12) hx hb hts (hx_up in_E) hown hK hP (10) hx_at_E rfl 1 (by decide) (hts _ (hx_cons _ k_146)) (fun _ h9 => h9) rfl d_D_rounded_13 ?_
    refine lv_if_ne (tgt := 33) hx hb d_D_rounded_16 (by decide) (fun c4 => ?_) (fun c4 => ?_)
    · replace h := hx_in c4 h
      exact B_33 σ k1 _ _ ls hP hD hS hk1 (lv_sub hl [0, 2] rfl) h
    · replace h := hx_ip c4 h
      refine lv_aload_n hx hb d_D_rounded_19 rfl (lv_at hl 1 rfl) ?_
      refine va_get (D := D) (ci := 3) (v := .int (hx_ex_plusInfinite σ)) (C := "HalfFloats$Exact") (T := T_E) (N := 12) hx hb hts (hx_up in_E) hown hK hP (10) hx_at_E rfl 2 (by decide) (hts _ (hx_cons _ k_148)) (fun _ h9 => h9) rfl d_D_rounded_20 ?_
      refine lv_if_eq (tgt := 48) hx hb d_D_rounded_23 (by decide) (fun c8 => ?_) (fun c8 => ?_)
      · replace h := hx_ip c8 h
        exact B_48 σ k1 x2 _ _ ls hP hD hS hk1 (lv_sub hl [0, 1, 2, 3] rfl) h
      · replace h := hx_in c8 h
        refine lv_aload_n hx hb d_D_rounded_26 rfl (lv_at hl 1 rfl) ?_
        refine va_get (D := D) (ci := 3) (v := .int (hx_ex_minusInfinite σ)) (C := "HalfFloats$Exact") (T := T_E) (N := 12) hx hb hts (hx_up in_E) hown hK hP (10) hx_at_E rfl 3 (by decide) (hts _ (hx_cons _ k_150)) (fun _ h9 => h9) rfl d_D_rounded_27 ?_
        refine lv_if_eq (tgt := 48) hx hb d_D_rounded_30 (by decide) (fun c21 => ?_) (fun c21 => ?_)
        · replace h := hx_ip c21 h
          exact B_48 σ k1 x2 _ _ ls hP hD hS hk1 (lv_sub hl [0, 1, 2, 3] rfl) h
        · replace h := hx_in c21 h
          exact B_33 σ k1 _ _ ls hP hD hS hk1 (lv_sub hl [0, 2] rfl) h
  · replace h := hx_in c3 h
    refine lv_aload_n hx hb d_D_rounded_7 rfl (lv_at hl 2 rfl) ?_
    refine va_get (D := D) (ci := 1) (v := .int (hx_fm_theNan (hx_fm σ k1))) (C := "HalfFloats$Format") (T := T_F) (N := 8) hx hb hts (hx_up in_F) hown hK hP (2 + k1) (hx_at_F hk1) rfl 5 (by decide) (hts _ (hx_cons _ k_92)) (fun _ h9 => h9) rfl d_D_rounded_8 ?_
    exact W.iret hx hb hr (fun t ht hW => hx_endi h ht hW hP hK hD hS) hS.2.2 d_D_rounded_11
