def f_X_isFormat (x1 : Int32) : Option Int32 := (if x1 < 0 then some (0 : Int32) else (if (4 : Int32) ≤ x1 then some (0 : Int32) else some (1 : Int32)))
def f_X_format (σ : hx_S) (x1 : Int32) (x2 : Int32) (x3 : Int32) (x4 : Int32) : Option (Int32 × hx_S) := hx_b1 (f_X_isFormat x1) (fun r5 => (if r5 = 0 then some ((-2 : Int32), σ) else (if x2 < (2 : Int32) then some ((-2 : Int32), σ) else (if (8 : Int32) < x2 then some ((-2 : Int32), σ) else (if x3 < (1 : Int32) then some ((-2 : Int32), σ) else (if (23 : Int32) < x3 then some ((-2 : Int32), σ) else (if x4 < 0 then some ((-2 : Int32), σ) else (if x4 < (3 : Int32) then hx_b1 (f_R_uses (hx_rw σ (0)) x1) (fun r13 => (if r13 = 0 then hx_b1 (f_R_uses (hx_rw σ (1)) x1) (fun r15 => (if r15 = 0 then (if x1 < 0 ∨ 4 ≤ x1.toNatClampNeg then none else hx_b1 (f_F_become (hx_fm σ x1.toNatClampNeg) x2 x3 x4) (fun q18 => hx_n (hx_fm_s σ x1.toNatClampNeg q18) (fun σ19 => some ((1 : Int32), σ19)))) else some ((-2 : Int32), σ))) else some ((-2 : Int32), σ))) else some ((-2 : Int32), σ)))))))))
def f_X_form (σ : hx_S) (x1 : Int32) (x2 : Int32) : Option Int32 := hx_b1 (f_X_isFormat x1) (fun r3 => (if r3 = 0 then some (-2 : Int32) else (if x1 < 0 ∨ 4 ≤ x1.toNatClampNeg then none else (if x2 = 0 then some (hx_fm_expBits (hx_fm σ x1.toNatClampNeg)) else (if x2 = 1 then some (hx_fm_fracBits (hx_fm σ x1.toNatClampNeg)) else (if x2 = 2 then some (hx_fm_kind (hx_fm σ x1.toNatClampNeg)) else (if x2 = 3 then some ((hx_fm_limit (hx_fm σ x1.toNatClampNeg)) - (1 : Int32)) else (if x2 = 4 then some (hx_fm_theNan (hx_fm σ x1.toNatClampNeg)) else some (-2 : Int32)))))))))
def f_X_isPattern (σ : hx_S) (x1 : Int32) (x2 : Int32) : Option Int32 := hx_b1 (f_X_isFormat x1) (fun r3 => (if r3 = 0 then some (0 : Int32) else (if x1 < 0 ∨ 4 ≤ x1.toNatClampNeg then none else hx_b1 (f_F_holds (hx_fm σ x1.toNatClampNeg) x2) (fun r6 => (if r6 = 0 then some (0 : Int32) else some (1 : Int32))))))
def f_X_part_45 (σ : hx_S) (x13 : Int32) (x14 : Int32) (k15 : Nat) (x16 : Int32) (x17 : Int32) : Option Int32 := (if x14 = 0 then some x16 else (if x14 = 1 then hx_b1 (f_F_isNegative (hx_fm σ k15) x13) (fun r20 => (if r20 = 0 then some (0 : Int32) else some (1 : Int32))) else (if x14 = 2 then (if x17 = 0 then some (0 : Int32) else hx_b1 (f_F_wholeOf (hx_fm σ k15) x13) (fun r24 => some r24.toInt32)) else (if x14 = 3 then (if x17 = 0 then some (0 : Int32) else hx_b1 (f_F_powerOf (hx_fm σ k15) x13) (fun r27 => some r27)) else some (1000000 : Int32)))))
def f_X_part_40 (σ : hx_S) (x9 : Int32) (x10 : Int32) (k11 : Nat) (x12 : Int32) : Option Int32 := (f_X_part_45 σ x9 x10 k11 x12 (1 : Int32))
def f_X_part (σ : hx_S) (x1 : Int32) (x2 : Int32) (x3 : Int32) : Option Int32 := hx_b1 (f_X_isPattern σ x1 x2) (fun r4 => (if r4 = 0 then some (1000000 : Int32) else (if x1 < 0 ∨ 4 ≤ x1.toNatClampNeg then none else hx_b1 (f_F_sortOf (hx_fm σ x1.toNatClampNeg) x2) (fun r7 => (if r7 = (1 : Int32) then (f_X_part_40 σ x2 x3 x1.toNatClampNeg r7) else (if r7 = (2 : Int32) then (f_X_part_40 σ x2 x3 x1.toNatClampNeg r7) else (f_X_part_45 σ x2 x3 x1.toNatClampNeg r7 (0 : Int32))))))))
def f_X_isWay (x1 : Int32) : Option Int32 := (if x1 < 0 then some (0 : Int32) else (if (5 : Int32) < x1 then some (0 : Int32) else some (1 : Int32)))
def f_X_bits (x1 : Int32) : Option Int64 := some (x1.toInt64 &&& (4294967295 : Int64))
def f_X_turn (σ : hx_S) (x1 : Int32) (x2 : Int32) (x3 : Int32) (x4 : Int32) : Option (Int64 × hx_S) := hx_b1 (f_X_isPattern σ x1 x2) (fun r5 => (if r5 = 0 then some ((-2 : Int64), σ) else hx_b1 (f_X_isFormat x3) (fun r7 => (if r7 = 0 then some ((-2 : Int64), σ) else hx_b1 (f_X_isWay x4) (fun r9 => (if r9 = 0 then some ((-2 : Int64), σ) else (if x1 < 0 ∨ 4 ≤ x1.toNatClampNeg then none else (if x3 < 0 ∨ 4 ≤ x3.toNatClampNeg then none else hx_b2 (f_D_turned σ x1.toNatClampNeg x2 (0 : Int32) x3.toNatClampNeg x4) (fun r14 q13 => hx_b1 (f_X_bits r14) (fun r15 => some (r15, q13)))))))))))
def f_X_reckon_128 (σ : hx_S) (x30 : Int32) (x31 : Int32) : Option (Int64 × hx_S) := (if x30 < 0 ∨ 4 ≤ x30.toNatClampNeg then none else hx_b2 (f_D_rounded σ x30.toNatClampNeg x31) (fun r34 q33 => hx_b1 (f_X_bits r34) (fun r35 => some (r35, q33))))
def f_X_reckon_125 (σ : hx_S) (x24 : Int32) (x25 : Int32) (k26 : Nat) (x27 : Int32) (x28 : Int32) : Option (Int64 × hx_S) := hx_b1 (f_E_addValue σ k26 x27 x28) (fun q29 => (f_X_reckon_128 q29 x24 x25))
def f_X_reckon (σ : hx_S) (x1 : Int32) (x2 : Int32) (x3 : Int32) (x4 : Int32) (x5 : Int32) (x6 : Int32) (x7 : Int32) : Option (Int64 × hx_S) := (if x1 < 0 then some ((-2 : Int64), σ) else (if (2 : Int32) < x1 then some ((-2 : Int64), σ) else hx_b1 (f_X_isPattern σ x2 x3) (fun r10 => (if r10 = 0 then some ((-2 : Int64), σ) else hx_b1 (f_X_isPattern σ x4 x5) (fun r12 => (if r12 = 0 then some ((-2 : Int64), σ) else hx_b1 (f_X_isFormat x6) (fun r14 => (if r14 = 0 then some ((-2 : Int64), σ) else hx_b1 (f_X_isWay x7) (fun r16 => (if r16 = 0 then some ((-2 : Int64), σ) else hx_b1 (f_E_begin σ) (fun q18 => (if x1 = (2 : Int32) then (if x2 < 0 ∨ 4 ≤ x2.toNatClampNeg then none else (if x4 < 0 ∨ 4 ≤ x4.toNatClampNeg then none else hx_b1 (f_E_addProduct q18 x2.toNatClampNeg x3 x4.toNatClampNeg x5) (fun q38 => (f_X_reckon_128 q38 x6 x7)))) else (if x2 < 0 ∨ 4 ≤ x2.toNatClampNeg then none else hx_b1 (f_E_addValue q18 x2.toNatClampNeg x3 (0 : Int32)) (fun q21 => (if x4 < 0 ∨ 4 ≤ x4.toNatClampNeg then none else (if x1 = (1 : Int32) then (f_X_reckon_125 q21 x6 x7 x4.toNatClampNeg x5 (1 : Int32)) else (f_X_reckon_125 q21 x6 x7 x4.toNatClampNeg x5 (0 : Int32))))))))))))))))))
def f_X_fused (σ : hx_S) (x1 : Int32) (x2 : Int32) (x3 : Int32) (x4 : Int32) (x5 : Int32) (x6 : Int32) : Option (Int64 × hx_S) := hx_b1 (f_X_isPattern σ x1 x2) (fun r7 => (if r7 = 0 then some ((-2 : Int64), σ) else hx_b1 (f_X_isPattern σ x1 x3) (fun r9 => (if r9 = 0 then some ((-2 : Int64), σ) else hx_b1 (f_X_isPattern σ x4 x5) (fun r11 => (if r11 = 0 then some ((-2 : Int64), σ) else hx_b1 (f_X_isWay x6) (fun r13 => (if r13 = 0 then some ((-2 : Int64), σ) else hx_b1 (f_E_begin σ) (fun q15 => (if x1 < 0 ∨ 4 ≤ x1.toNatClampNeg then none else (if x1 < 0 ∨ 4 ≤ x1.toNatClampNeg then none else hx_b1 (f_E_addProduct q15 x1.toNatClampNeg x2 x1.toNatClampNeg x3) (fun q18 => (if x4 < 0 ∨ 4 ≤ x4.toNatClampNeg then none else hx_b1 (f_E_addValue q18 x4.toNatClampNeg x5 (0 : Int32)) (fun q20 => (if x4 < 0 ∨ 4 ≤ x4.toNatClampNeg then none else hx_b2 (f_D_rounded q20 x4.toNatClampNeg x6) (fun r23 q22 => hx_b1 (f_X_bits r23) (fun r24 => some (r24, q22))))))))))))))))))
def f_X_compare (σ : hx_S) (x1 : Int32) (x2 : Int32) (x3 : Int32) (x4 : Int32) : Option (Int32 × hx_S) := hx_b1 (f_X_isPattern σ x1 x2) (fun r5 => (if r5 = 0 then some ((-2 : Int32), σ) else hx_b1 (f_X_isPattern σ x3 x4) (fun r7 => (if r7 = 0 then some ((-2 : Int32), σ) else hx_b1 (f_E_begin σ) (fun q9 => (if x1 < 0 ∨ 4 ≤ x1.toNatClampNeg then none else hx_b1 (f_E_addValue q9 x1.toNatClampNeg x2 (0 : Int32)) (fun q11 => (if x3 < 0 ∨ 4 ≤ x3.toNatClampNeg then none else hx_b1 (f_E_addValue q11 x3.toNatClampNeg x4 (1 : Int32)) (fun q13 => (if (hx_ex_hasNan q13) = 0 then hx_b2 (f_E_side q13) (fun r16 q15 => some (r16, q15)) else some ((2 : Int32), q13)))))))))))
def f_X_flags (σ : hx_S) : Option (Int32 × hx_S) := hx_n (hx_rd_raised σ) (fun x1 => hx_n (hx_rd_raised_s σ (0 : Int32)) (fun σ2 => some (x1, σ2)))
def f_X_seed (σ : hx_S) (x1 : Int32) : Option (Int32 × hx_S) := (if x1 < (1 : Int32) then some ((-2 : Int32), σ) else (if x1 ≤ (2147483646 : Int32) then hx_n ((hx_rd_state σ).toInt32) (fun x4 => hx_n (hx_rd_state_s σ x1.toInt64) (fun σ5 => some (x4, σ5))) else some ((-2 : Int32), σ)))
def f_X_isRow (x1 : Int32) : Option Int32 := (if x1 < 0 then some (0 : Int32) else (if (2 : Int32) ≤ x1 then some (0 : Int32) else some (1 : Int32)))
def f_X_rowOf (σ : hx_S) (x1 : Int32) : Option Nat := (if x1 = 0 then some (0) else some (1))
def f_X_clear (σ : hx_S) (x1 : Int32) (x2 : Int32) : Option (Int32 × hx_S) := hx_b1 (f_X_isRow x1) (fun r3 => (if r3 = 0 then some ((-2 : Int32), σ) else hx_b1 (f_X_isFormat x2) (fun r5 => (if r5 = 0 then some ((-2 : Int32), σ) else hx_b1 (f_X_rowOf σ x1) (fun r7 => (if r7 < 2 then hx_n (hx_size σ r7) (fun x9 => hx_n (hx_size_s σ r7 (0 : Int32)) (fun σ10 => hx_n (hx_format_s σ10 r7 x2) (fun σ11 => some (x9, σ11)))) else none))))))
def f_X_push (σ : hx_S) (x1 : Int32) (x2 : Int32) : Option (Int32 × hx_S) := hx_b1 (f_X_isRow x1) (fun r3 => (if r3 = 0 then some ((-2 : Int32), σ) else hx_b1 (f_X_rowOf σ x1) (fun r5 => (if r5 < 2 then hx_b1 (f_X_isPattern σ (hx_format σ r5) x2) (fun r7 => (if r7 = 0 then some ((-2 : Int32), σ) else hx_b1 (f_X_rowOf σ x1) (fun r9 => (if r9 < 2 then (if (hx_size σ r9) < (32 : Int32) then (if (hx_size σ r9) < 0 ∨ 32 ≤ (hx_size σ r9).toNatClampNeg then none else hx_n (hx_pat_s σ r9 (hx_size σ r9).toNatClampNeg x2) (fun σ13 => hx_n ((hx_size σ13 r9) + (1 : Int32)) (fun x14 => hx_n (hx_size_s σ13 r9 x14) (fun σ15 => some ((hx_size σ15 r9), σ15))))) else some ((-3 : Int32), σ)) else none)))) else none))))
def f_X_at (σ : hx_S) (x1 : Int32) (x2 : Int32) : Option Int64 := hx_b1 (f_X_isRow x1) (fun r3 => (if r3 = 0 then some (-2 : Int64) else hx_b1 (f_X_rowOf σ x1) (fun r5 => (if r5 < 2 then hx_b1 (f_R_has (hx_rw σ r5) x2) (fun r7 => (if r7 = 0 then some (-2 : Int64) else hx_b1 (f_X_rowOf σ x1) (fun r9 => (if r9 < 2 then (if x2 < 0 ∨ 32 ≤ x2.toNatClampNeg then none else hx_b1 (f_X_bits (hx_pat σ r9 x2.toNatClampNeg)) (fun r12 => some r12)) else none)))) else none))))
def f_X_count (σ : hx_S) (x1 : Int32) : Option Int32 := (if x1 = 0 then some (hx_size σ 0) else (if x1 = 1 then some (hx_size σ 1) else (if x1 = 2 then some (hx_format σ 0) else (if x1 = 3 then some (hx_format σ 1) else (if x1 = 4 then some (hx_shift σ) else (if x1 = 5 then some (hx_streak σ) else (if x1 = 6 then some (hx_goal σ) else some (1000000 : Int32))))))))
abbrev m_X_isFormat : Room := { frames := 0, cells := 0, slots := 0, locals := 0 }
set_option maxHeartbeats 4000000 in
set_option maxRecDepth 100000 in
theorem c_X_isFormat (l : Launch) (D : va_G) (T3 : hx_T3)  (x1 : Int32) (r0 : Int32) (h : f_X_isFormat x1 = some r0) : hx_R l D (hx_ty T3) [] y_X_isFormat w_X_isFormat m_X_isFormat [.int x1] (.int r0) := by
  refine Met.ofW (cc := b_X_isFormat) (maxL := 1) (ret := (some .boolean)) (by decide) rfl ?_
  intro p e s m args below meth c s₁ B hml hv
  obtain ⟨hargs, hP, hK⟩ := hv
  have hx := B.exec
  have hb := B.bytes
  have hr := B.returns
  have hts := atoms_spec (ws := w_X_isFormat) B.pre
  have hown : s.vm.findClass "HalfFloats" = some m.cls := findClass_of_methodNamed B.named
  have hlocks := B.notSynchronized
  refine W.eq (g2 := F0 m 0 ((lg_sl [.int x1] ++ List.replicate (1 - (lg_sl [.int x1]).length) Slot.unset).toArray) []) (by rw [hargs, lg_entry_eq]) ?_
  have hl := lv_entry ([.int x1]) (n := 1) (Nat.le_of_ble_eq_true rfl)
  generalize (lg_sl ([.int x1]) ++ List.replicate (1 - (lg_sl ([.int x1])).length) Slot.unset).toArray = ls at hl ⊢
  have hl : lv_has ls 1 [(0, .int x1)] := hl
  rw [f_X_isFormat] at h
  refine lv_iload_n hx hb d_X_isFormat_0 rfl (lv_at hl 0 rfl) ?_
  refine lv_if_lt (tgt := 13) hx hb d_X_isFormat_1 (by decide) (fun c2 => ?_) (fun c2 => ?_)
  · replace h := hx_ip c2 h
    refine lv_iconst (v := 0) hx hb d_X_isFormat_13 (by decide) ?_
    exact W.zret hx hb hr (hx_nb (Or.inl rfl)) (fun t ht hW => ⟨by rw [Option.some.inj h], ht⟩) (fun q hq => nomatch hq) d_X_isFormat_14
  · replace h := hx_in c2 h
    refine lv_iload_n hx hb d_X_isFormat_4 rfl (lv_at hl 0 rfl) ?_
    refine lv_iconst (v := 4) hx hb d_X_isFormat_5 (by decide) ?_
    refine lv_icmp_ge (tgt := 13) hx hb d_X_isFormat_6 (by decide) (fun c3 => ?_) (fun c3 => ?_)
    · replace h := hx_ip c3 h
      refine lv_iconst (v := 0) hx hb d_X_isFormat_13 (by decide) ?_
      exact W.zret hx hb hr (hx_nb (Or.inl rfl)) (fun t ht hW => ⟨by rw [Option.some.inj h], ht⟩) (fun q hq => nomatch hq) d_X_isFormat_14
    · replace h := hx_in c3 h
      refine lv_iconst (v := 1) hx hb d_X_isFormat_9 (by decide) ?_
      refine lv_goto (tgt := 14) hx hb d_X_isFormat_10 (by decide) ?_
      exact W.zret hx hb hr (hx_nb (Or.inr rfl)) (fun t ht hW => ⟨by rw [Option.some.inj h], ht⟩) (fun q hq => nomatch hq) d_X_isFormat_14
abbrev m_X_format : Room := { frames := 1, cells := 0, slots := 0, locals := 26 }
set_option maxHeartbeats 4000000 in
set_option maxRecDepth 100000 in
theorem c_X_format (l : Launch) (D : va_G) (T3 : hx_T3) (ad : Nat → Nat) (sz : Nat) (σ : hx_S) (x1 : Int32) (x2 : Int32) (x3 : Int32) (x4 : Int32) (r0 : Int32) (σ0 : hx_S) (h : f_X_format σ x1 x2 x3 x4 = some (r0, σ0)) : hx_Wi l D (hx_ty T3) y_X_format w_X_format m_X_format [.ref (ad 0), .int x1, .int x2, .int x3, .int x4] sz (hx_W T3 ad σ) r0 (hx_W T3 ad σ0) := by
  refine Met.ofW (cc := b_X_format) (maxL := 5) (ret := (some .int)) (by decide) rfl ?_
  intro p e s m args below meth c s₁ B hml hv
  obtain ⟨hargs, hsz, hP, hK, hD0⟩ := hv
  have hx := B.exec
  have hb := B.bytes
  have hr := B.returns
  have hts := atoms_spec (ws := w_X_format) B.pre
  have hown : s.vm.findClass "HalfFloats" = some m.cls := findClass_of_methodNamed B.named
  have hlocks := B.notSynchronized
  subst hsz
  have hD := hD0.self (sz := s.heap.size)
  generalize hAe : va_A (hx_W T3 ad σ) s.heap.size = A at hD ⊢
  have hA : ∀ q : Nat, s.heap.size ≤ q → A q := fun q h => by rw [← hAe]; exact Or.inr h
  have hS : va_S A s.heap s.heap [] := va_S.rf
  refine W.eq (g2 := F0 m 0 ((lg_sl [.ref (ad 0), .int x1, .int x2, .int x3, .int x4] ++ List.replicate (5 - (lg_sl [.ref (ad 0), .int x1, .int x2, .int x3, .int x4]).length) Slot.unset).toArray) []) (by rw [hargs, lg_entry_eq]) ?_
  have hl := lv_entry ([.ref (ad 0), .int x1, .int x2, .int x3, .int x4]) (n := 5) (Nat.le_of_ble_eq_true rfl)
  generalize (lg_sl ([.ref (ad 0), .int x1, .int x2, .int x3, .int x4]) ++ List.replicate (5 - (lg_sl ([.ref (ad 0), .int x1, .int x2, .int x3, .int x4])).length) Slot.unset).toArray = ls at hl ⊢
  have hl : lv_has ls 5 [(0, .ref (ad 0)), (1, .int x1), (2, .int x2), (3, .int x3), (4, .int x4)] := hl
  rw [f_X_format] at h
  refine lv_iload_n hx hb d_X_format_0 rfl (lv_at hl 1 rfl) ?_
  obtain ⟨r5, er5, h⟩ := hx_b1s h
  refine hx_rd (va_runS (As := [.int x1]) (rest := []) ⟨hx, hb, hml, hown, hts⟩ (c_X_isFormat l D T3 x1 _ er5) (va_cwS 1 hts (hx_gS hx_cons k_236 k_237 k_50 k_238) rfl rfl rfl (by decide +kernel) ⟨Nat.le_of_ble_eq_true rfl, Nat.le_of_ble_eq_true rfl⟩) (hx_preS hx_nil hK) rfl rfl hl.1 rfl (lv_room (Nat.le_of_ble_eq_true rfl)) d_X_format_1 ⟨Nat.zero_le _, Nat.zero_le _⟩) ?_
  refine lv_if_eq (tgt := 40) hx hb d_X_format_4 (by decide) (fun c6 => ?_) (fun c6 => ?_)
  · replace h := hx_ip c6 h
    refine lv_bipush (v := -2) hx hb d_X_format_40 (by decide) ?_
    exact W.iret hx hb hr (fun t ht hW => hx_endi h ht hW hP hK hD hS) hS.2.2 d_X_format_42
  · replace h := hx_in c6 h
    refine lv_iload_n hx hb d_X_format_7 rfl (lv_at hl 2 rfl) ?_
    refine lv_iconst (v := 2) hx hb d_X_format_8 (by decide) ?_
    refine lv_icmp_lt (tgt := 40) hx hb d_X_format_9 (by decide) (fun c7 => ?_) (fun c7 => ?_)
    · replace h := hx_ip c7 h
      refine lv_bipush (v := -2) hx hb d_X_format_40 (by decide) ?_
      exact W.iret hx hb hr (fun t ht hW => hx_endi h ht hW hP hK hD hS) hS.2.2 d_X_format_42
    · replace h := hx_in c7 h
      refine lv_iload_n hx hb d_X_format_12 rfl (lv_at hl 2 rfl) ?_
      refine lv_bipush (v := 8) hx hb d_X_format_13 (by decide) ?_
      refine lv_icmp_gt (tgt := 40) hx hb d_X_format_15 (by decide) (fun c8 => ?_) (fun c8 => ?_)
      · replace h := hx_ip c8 h
        refine lv_bipush (v := -2) hx hb d_X_format_40 (by decide) ?_
        exact W.iret hx hb hr (fun t ht hW => hx_endi h ht hW hP hK hD hS) hS.2.2 d_X_format_42
      · replace h := hx_in c8 h
        refine lv_iload_n hx hb d_X_format_18 rfl (lv_at hl 3 rfl) ?_
        refine lv_iconst (v := 1) hx hb d_X_format_19 (by decide) ?_
        refine lv_icmp_lt (tgt := 40) hx hb d_X_format_20 (by decide) (fun c9 => ?_) (fun c9 => ?_)
        · replace h := hx_ip c9 h
          refine lv_bipush (v := -2) hx hb d_X_format_40 (by decide) ?_
          exact W.iret hx hb hr (fun t ht hW => hx_endi h ht hW hP hK hD hS) hS.2.2 d_X_format_42
        · replace h := hx_in c9 h
          refine lv_iload_n hx hb d_X_format_23 rfl (lv_at hl 3 rfl) ?_
          refine lv_bipush (v := 23) hx hb d_X_format_24 (by decide) ?_
          refine lv_icmp_gt (tgt := 40) hx hb d_X_format_26 (by decide) (fun c10 => ?_) (fun c10 => ?_)
          · replace h := hx_ip c10 h
            refine lv_bipush (v := -2) hx hb d_X_format_40 (by decide) ?_
            exact W.iret hx hb hr (fun t ht hW => hx_endi h ht hW hP hK hD hS) hS.2.2 d_X_format_42
          · replace h := hx_in c10 h
            refine lv_iload hx hb d_X_format_29 (lv_at hl 4 rfl) ?_
            refine lv_if_lt (tgt := 40) hx hb d_X_format_31 (by decide) (fun c11 => ?_) (fun c11 => ?_)
            · replace h := hx_ip c11 h
              refine lv_bipush (v := -2) hx hb d_X_format_40 (by decide) ?_
              exact W.iret hx hb hr (fun t ht hW => hx_endi h ht hW hP hK hD hS) hS.2.2 d_X_format_42
            · replace h := hx_in c11 h
              refine lv_iload hx hb d_X_format_34 (lv_at hl 4 rfl) ?_
              refine lv_iconst (v := 3) hx hb d_X_format_36 (by decide) ?_
              refine lv_icmp_lt (tgt := 43) hx hb d_X_format_37 (by decide) (fun c12 => ?_) (fun c12 => ?_)
              · replace h := hx_ip c12 h
                refine lv_aload_n hx hb d_X_format_43 rfl (lv_at hl 0 rfl) ?_
                refine va_get (D := D) (ci := 0) (v := .ref (ad (6 + 2 * 0))) (C := "HalfFloats") (T := T_X) (N := 9) hx hb hts (hx_up in_X) hown hK hP (0) hx_at_X rfl 1 (by decide) (hts _ (hx_cons _ k_205)) (fun _ h9 => h9) rfl d_X_format_44 ?_
                refine lv_iload_n hx hb d_X_format_47 rfl (lv_at hl 1 rfl) ?_
                obtain ⟨r13, er13, h⟩ := hx_b1s h
                refine hx_rd (va_runV (As := [.int x1]) (rest := []) ⟨hx, hb, hml, hown, hts⟩ (c_R_uses l D T3 (ad (6 + 2 * 0)) (ad (7 + 2 * 0)) (hx_rw σ (0)) x1 _ er13) (cwV 1 hts (hx_gV hx_cons k_239 k_240 k_241 k_52 k_242) rfl rfl rfl (by decide +kernel) ⟨Nat.le_of_ble_eq_true rfl, Nat.le_of_ble_eq_true rfl⟩) (hx_preV (va_recv hK hP (ci := 2) (q0 := 6 + 2 * 0) rfl (hx_at_R (by decide))) (hx_one hP (hx_at_R (by decide))) hK) rfl rfl hl.1 rfl (lv_room (Nat.le_of_ble_eq_true rfl)) d_X_format_48 ⟨Nat.zero_le _, Nat.zero_le _⟩) ?_
                refine lv_if_ne (tgt := 65) hx hb d_X_format_51 (by decide) (fun c14 => ?_) (fun c14 => ?_)
                · replace h := hx_in c14 h
                  refine lv_bipush (v := -2) hx hb d_X_format_65 (by decide) ?_
                  exact W.iret hx hb hr (fun t ht hW => hx_endi h ht hW hP hK hD hS) hS.2.2 d_X_format_67
                · replace h := hx_ip c14 h
                  refine lv_aload_n hx hb d_X_format_54 rfl (lv_at hl 0 rfl) ?_
                  refine va_get (D := D) (ci := 0) (v := .ref (ad (6 + 2 * 1))) (C := "HalfFloats") (T := T_X) (N := 9) hx hb hts (hx_up in_X) hown hK hP (0) hx_at_X rfl 2 (by decide) (hts _ (hx_cons _ k_206)) (fun _ h9 => h9) rfl d_X_format_55 ?_
                  refine lv_iload_n hx hb d_X_format_58 rfl (lv_at hl 1 rfl) ?_
                  obtain ⟨r15, er15, h⟩ := hx_b1s h
                  refine hx_rd (va_runV (As := [.int x1]) (rest := []) ⟨hx, hb, hml, hown, hts⟩ (c_R_uses l D T3 (ad (6 + 2 * 1)) (ad (7 + 2 * 1)) (hx_rw σ (1)) x1 _ er15) (cwV 1 hts (hx_gV hx_cons k_239 k_240 k_241 k_52 k_242) rfl rfl rfl (by decide +kernel) ⟨Nat.le_of_ble_eq_true rfl, Nat.le_of_ble_eq_true rfl⟩) (hx_preV (va_recv hK hP (ci := 2) (q0 := 6 + 2 * 1) rfl (hx_at_R (by decide))) (hx_one hP (hx_at_R (by decide))) hK) rfl rfl hl.1 rfl (lv_room (Nat.le_of_ble_eq_true rfl)) d_X_format_59 ⟨Nat.zero_le _, Nat.zero_le _⟩) ?_
                  refine lv_if_eq (tgt := 68) hx hb d_X_format_62 (by decide) (fun c16 => ?_) (fun c16 => ?_)
                  · replace h := hx_ip c16 h
                    refine lv_aload_n hx hb d_X_format_68 rfl (lv_at hl 0 rfl) ?_
                    refine va_get (D := D) (ci := 0) (v := .ref (ad 1)) (C := "HalfFloats") (T := T_X) (N := 9) hx hb hts (hx_up in_X) hown hK hP (0) hx_at_X rfl 0 (by decide) (hts _ (hx_cons _ k_204)) (fun _ h9 => h9) rfl d_X_format_69 ?_
                    refine lv_iload_n hx hb d_X_format_72 rfl (lv_at hl 1 rfl) ?_
                    obtain ⟨g17, h⟩ := hx_gs h
                    refine va_aldq hx hb hK hP (1) 0 hx_at_FA rfl g17 d_X_format_73 ?_
                    refine lv_iload_n hx hb d_X_format_74 rfl (lv_at hl 2 rfl) ?_
                    refine lv_iload_n hx hb d_X_format_75 rfl (lv_at hl 3 rfl) ?_
                    refine lv_iload hx hb d_X_format_76 (lv_at hl 4 rfl) ?_
                    obtain ⟨q18, eq18, h⟩ := hx_b1s h
                    refine hx_wv1 (va_runV (As := [.int x2, .int x3, .int x4]) (rest := []) ⟨hx, hb, hml, hown, hts⟩ (c_F_become l D T3 (ad (2 + x1.toNatClampNeg)) _ (hx_fm σ x1.toNatClampNeg) x2 x3 x4 _ eq18) (cwV 3 hts (hx_gV hx_cons k_243 k_76 k_77 k_51 k_78) rfl rfl rfl (by decide +kernel) ⟨Nat.le_of_ble_eq_true rfl, Nat.le_of_ble_eq_true rfl⟩) (hx_preVw1 (va_recv hK hP (ci := 1) (q0 := 2 + x1.toNatClampNeg) rfl (hx_at_F (hx_lt g17))) hP hK (hx_at_F (hx_lt g17))) rfl rfl hl.1 rfl (lv_room (Nat.le_of_ble_eq_true rfl)) d_X_format_78 ⟨Nat.zero_le _, Nat.zero_le _⟩) hP (hx_at_F (hx_lt g17)) hD hS hA (fun H locs hP hD hS => ?_)
                    obtain ⟨σ19, eσ19⟩ : ∃ y : hx_S, y = (hx_fm_s σ x1.toNatClampNeg q18) := ⟨_, rfl⟩
                    replace hP : va_P D vwCl (hx_W T3 ad σ19) H := by rw [eσ19, hx_w_fm (hx_lt g17)]; exact hP
                    replace hD : va_D A (hx_W T3 ad σ19) := by rw [eσ19, hx_w_fm (hx_lt g17)]; exact hD
                    replace h := hx_ns eσ19 h
                    clear eσ19
                    refine lv_iconst (v := 1) hx hb d_X_format_81 (by decide) ?_
                    exact W.iret hx hb hr (fun t ht hW => hx_endi h ht hW hP hK hD hS) hS.2.2 d_X_format_82
                  · replace h := hx_in c16 h
                    refine lv_bipush (v := -2) hx hb d_X_format_65 (by decide) ?_
                    exact W.iret hx hb hr (fun t ht hW => hx_endi h ht hW hP hK hD hS) hS.2.2 d_X_format_67
              · replace h := hx_in c12 h
                refine lv_bipush (v := -2) hx hb d_X_format_40 (by decide) ?_
                exact W.iret hx hb hr (fun t ht hW => hx_endi h ht hW hP hK hD hS) hS.2.2 d_X_format_42
abbrev m_X_form : Room := { frames := 1, cells := 0, slots := 0, locals := 20 }
set_option maxHeartbeats 4000000 in
set_option maxRecDepth 100000 in
theorem c_X_form (l : Launch) (D : va_G) (T3 : hx_T3) (ad : Nat → Nat) (σ : hx_S) (x1 : Int32) (x2 : Int32) (r0 : Int32) (h : f_X_form σ x1 x2 = some r0) : hx_R l D (hx_ty T3) (hx_W T3 ad σ) y_X_form w_X_form m_X_form [.ref (ad 0), .int x1, .int x2] (.int r0) := by
  refine Met.ofW (cc := b_X_form) (maxL := 4) (ret := (some .int)) (by decide) rfl ?_
  intro p e s m args below meth c s₁ B hml hv
  obtain ⟨hargs, hP, hK⟩ := hv
  have hx := B.exec
  have hb := B.bytes
  have hr := B.returns
  have hts := atoms_spec (ws := w_X_form) B.pre
  have hown : s.vm.findClass "HalfFloats" = some m.cls := findClass_of_methodNamed B.named
  have hlocks := B.notSynchronized
  refine W.eq (g2 := F0 m 0 ((lg_sl [.ref (ad 0), .int x1, .int x2] ++ List.replicate (4 - (lg_sl [.ref (ad 0), .int x1, .int x2]).length) Slot.unset).toArray) []) (by rw [hargs, lg_entry_eq]) ?_
  have hl := lv_entry ([.ref (ad 0), .int x1, .int x2]) (n := 4) (Nat.le_of_ble_eq_true rfl)
  generalize (lg_sl ([.ref (ad 0), .int x1, .int x2]) ++ List.replicate (4 - (lg_sl ([.ref (ad 0), .int x1, .int x2])).length) Slot.unset).toArray = ls at hl ⊢
  have hl : lv_has ls 4 [(0, .ref (ad 0)), (1, .int x1), (2, .int x2)] := hl
  rw [f_X_form] at h
  refine lv_iload_n hx hb d_X_form_0 rfl (lv_at hl 1 rfl) ?_
  obtain ⟨r3, er3, h⟩ := hx_b1s h
  refine hx_rd (va_runS (As := [.int x1]) (rest := []) ⟨hx, hb, hml, hown, hts⟩ (c_X_isFormat l D T3 x1 _ er3) (va_cwS 1 hts (hx_gS hx_cons k_236 k_237 k_50 k_238) rfl rfl rfl (by decide +kernel) ⟨Nat.le_of_ble_eq_true rfl, Nat.le_of_ble_eq_true rfl⟩) (hx_preS hx_nil hK) rfl rfl hl.1 rfl (lv_room (Nat.le_of_ble_eq_true rfl)) d_X_form_1 ⟨Nat.zero_le _, Nat.zero_le _⟩) ?_
  refine lv_if_ne (tgt := 10) hx hb d_X_form_4 (by decide) (fun c4 => ?_) (fun c4 => ?_)
  · replace h := hx_in c4 h
    refine lv_aload_n hx hb d_X_form_10 rfl (lv_at hl 0 rfl) ?_
    refine va_get (D := D) (ci := 0) (v := .ref (ad 1)) (C := "HalfFloats") (T := T_X) (N := 9) hx hb hts (hx_up in_X) hown hK hP (0) hx_at_X rfl 0 (by decide) (hts _ (hx_cons _ k_204)) (fun _ h9 => h9) rfl d_X_form_11 ?_
    refine lv_iload_n hx hb d_X_form_14 rfl (lv_at hl 1 rfl) ?_
    obtain ⟨g5, h⟩ := hx_gs h
    refine va_aldq hx hb hK hP (1) 0 hx_at_FA rfl g5 d_X_form_15 ?_
    refine lv_astore_n (lv' := [(3, .ref (ad (2 + x1.toNatClampNeg))), (0, .ref (ad 0)), (1, .int x1), (2, .int x2)]) hx hb d_X_form_16 rfl hl (by decide) rfl (fun ls hl => ?_)
    refine lv_iload_n hx hb d_X_form_17 rfl (lv_at hl 3 rfl) ?_
    by_cases c6 : x2 = 0
    · replace h := hx_ip c6 h
      refine lv_tableIn (tgt := 52) hx hb d_X_form_18 (by rw [c6]; decide) (by rw [c6]; decide) (by rw [c6]; rfl) (by decide) ?_
      refine lv_aload_n hx hb d_X_form_52 rfl (lv_at hl 0 rfl) ?_
      refine va_get (D := D) (ci := 1) (v := .int (hx_fm_expBits (hx_fm σ x1.toNatClampNeg))) (C := "HalfFloats$Format") (T := T_F) (N := 8) hx hb hts (hx_up in_F) hown hK hP (2 + x1.toNatClampNeg) (hx_at_F (hx_lt g5)) rfl 0 (by decide) (hts _ (hx_cons _ k_80)) (fun _ h9 => h9) rfl d_X_form_53 ?_
      exact W.iret hx hb hr (fun t ht hW => ⟨by rw [Option.some.inj h], ht⟩) (fun q hq => nomatch hq) d_X_form_56
    · replace h := hx_in c6 h
      by_cases c7 : x2 = 1
      · replace h := hx_ip c7 h
        refine lv_tableIn (tgt := 57) hx hb d_X_form_18 (by rw [c7]; decide) (by rw [c7]; decide) (by rw [c7]; rfl) (by decide) ?_
        refine lv_aload_n hx hb d_X_form_57 rfl (lv_at hl 0 rfl) ?_
        refine va_get (D := D) (ci := 1) (v := .int (hx_fm_fracBits (hx_fm σ x1.toNatClampNeg))) (C := "HalfFloats$Format") (T := T_F) (N := 8) hx hb hts (hx_up in_F) hown hK hP (2 + x1.toNatClampNeg) (hx_at_F (hx_lt g5)) rfl 1 (by decide) (hts _ (hx_cons _ k_82)) (fun _ h9 => h9) rfl d_X_form_58 ?_
        exact W.iret hx hb hr (fun t ht hW => ⟨by rw [Option.some.inj h], ht⟩) (fun q hq => nomatch hq) d_X_form_61
      · replace h := hx_in c7 h
        by_cases c8 : x2 = 2
        · replace h := hx_ip c8 h
          refine lv_tableIn (tgt := 62) hx hb d_X_form_18 (by rw [c8]; decide) (by rw [c8]; decide) (by rw [c8]; rfl) (by decide) ?_
          refine lv_aload_n hx hb d_X_form_62 rfl (lv_at hl 0 rfl) ?_
          refine va_get (D := D) (ci := 1) (v := .int (hx_fm_kind (hx_fm σ x1.toNatClampNeg))) (C := "HalfFloats$Format") (T := T_F) (N := 8) hx hb hts (hx_up in_F) hown hK hP (2 + x1.toNatClampNeg) (hx_at_F (hx_lt g5)) rfl 2 (by decide) (hts _ (hx_cons _ k_85)) (fun _ h9 => h9) rfl d_X_form_63 ?_
          exact W.iret hx hb hr (fun t ht hW => ⟨by rw [Option.some.inj h], ht⟩) (fun q hq => nomatch hq) d_X_form_66
        · replace h := hx_in c8 h
          by_cases c9 : x2 = 3
          · replace h := hx_ip c9 h
            refine lv_tableIn (tgt := 67) hx hb d_X_form_18 (by rw [c9]; decide) (by rw [c9]; decide) (by rw [c9]; rfl) (by decide) ?_
            refine lv_aload_n hx hb d_X_form_67 rfl (lv_at hl 0 rfl) ?_
            refine va_get (D := D) (ci := 1) (v := .int (hx_fm_limit (hx_fm σ x1.toNatClampNeg))) (C := "HalfFloats$Format") (T := T_F) (N := 8) hx hb hts (hx_up in_F) hown hK hP (2 + x1.toNatClampNeg) (hx_at_F (hx_lt g5)) rfl 4 (by decide) (hts _ (hx_cons _ k_90)) (fun _ h9 => h9) rfl d_X_form_68 ?_
            refine lv_iconst (v := 1) hx hb d_X_form_71 (by decide) ?_
            refine lv_isub hx hb d_X_form_72 ?_
            exact W.iret hx hb hr (fun t ht hW => ⟨by rw [Option.some.inj h], ht⟩) (fun q hq => nomatch hq) d_X_form_73
          · replace h := hx_in c9 h
            by_cases c10 : x2 = 4
            · replace h := hx_ip c10 h
              refine lv_tableIn (tgt := 74) hx hb d_X_form_18 (by rw [c10]; decide) (by rw [c10]; decide) (by rw [c10]; rfl) (by decide) ?_
              refine lv_aload_n hx hb d_X_form_74 rfl (lv_at hl 0 rfl) ?_
              refine va_get (D := D) (ci := 1) (v := .int (hx_fm_theNan (hx_fm σ x1.toNatClampNeg))) (C := "HalfFloats$Format") (T := T_F) (N := 8) hx hb hts (hx_up in_F) hown hK hP (2 + x1.toNatClampNeg) (hx_at_F (hx_lt g5)) rfl 5 (by decide) (hts _ (hx_cons _ k_94)) (fun _ h9 => h9) rfl d_X_form_75 ?_
              exact W.iret hx hb hr (fun t ht hW => ⟨by rw [Option.some.inj h], ht⟩) (fun q hq => nomatch hq) d_X_form_78
            · replace h := hx_in c10 h
              have tc6 := lv_neT (a := 0) c6 (by decide)
              have tc7 := lv_neT (a := 1) c7 (by decide)
              have tc8 := lv_neT (a := 2) c8 (by decide)
              have tc9 := lv_neT (a := 3) c9 (by decide)
              have tc10 := lv_neT (a := 4) c10 (by decide)
              refine lv_tableOut (tgt := 79) hx hb d_X_form_18 (by omega) (by decide) ?_
              refine lv_bipush (v := -2) hx hb d_X_form_79 (by decide) ?_
              exact W.iret hx hb hr (fun t ht hW => ⟨by rw [Option.some.inj h], ht⟩) (fun q hq => nomatch hq) d_X_form_81
  · replace h := hx_ip c4 h
    refine lv_bipush (v := -2) hx hb d_X_form_7 (by decide) ?_
    exact W.iret hx hb hr (fun t ht hW => ⟨by rw [Option.some.inj h], ht⟩) (fun q hq => nomatch hq) d_X_form_9
abbrev m_X_isPattern : Room := { frames := 1, cells := 0, slots := 0, locals := 21 }
set_option maxHeartbeats 4000000 in
set_option maxRecDepth 100000 in
theorem c_X_isPattern (l : Launch) (D : va_G) (T3 : hx_T3) (ad : Nat → Nat) (σ : hx_S) (x1 : Int32) (x2 : Int32) (r0 : Int32) (h : f_X_isPattern σ x1 x2 = some r0) : hx_R l D (hx_ty T3) (hx_W T3 ad σ) y_X_isPattern w_X_isPattern m_X_isPattern [.ref (ad 0), .int x1, .int x2] (.int r0) := by
  refine Met.ofW (cc := b_X_isPattern) (maxL := 3) (ret := (some .boolean)) (by decide) rfl ?_
  intro p e s m args below meth c s₁ B hml hv
  obtain ⟨hargs, hP, hK⟩ := hv
  have hx := B.exec
  have hb := B.bytes
  have hr := B.returns
  have hts := atoms_spec (ws := w_X_isPattern) B.pre
  have hown : s.vm.findClass "HalfFloats" = some m.cls := findClass_of_methodNamed B.named
  have hlocks := B.notSynchronized
  refine W.eq (g2 := F0 m 0 ((lg_sl [.ref (ad 0), .int x1, .int x2] ++ List.replicate (3 - (lg_sl [.ref (ad 0), .int x1, .int x2]).length) Slot.unset).toArray) []) (by rw [hargs, lg_entry_eq]) ?_
  have hl := lv_entry ([.ref (ad 0), .int x1, .int x2]) (n := 3) (Nat.le_of_ble_eq_true rfl)
  generalize (lg_sl ([.ref (ad 0), .int x1, .int x2]) ++ List.replicate (3 - (lg_sl ([.ref (ad 0), .int x1, .int x2])).length) Slot.unset).toArray = ls at hl ⊢
  have hl : lv_has ls 3 [(0, .ref (ad 0)), (1, .int x1), (2, .int x2)] := hl
  rw [f_X_isPattern] at h
  refine lv_iload_n hx hb d_X_isPattern_0 rfl (lv_at hl 1 rfl) ?_
  obtain ⟨r3, er3, h⟩ := hx_b1s h
  refine hx_rd (va_runS (As := [.int x1]) (rest := []) ⟨hx, hb, hml, hown, hts⟩ (c_X_isFormat l D T3 x1 _ er3) (va_cwS 1 hts (hx_gS hx_cons k_236 k_237 k_50 k_238) rfl rfl rfl (by decide +kernel) ⟨Nat.le_of_ble_eq_true rfl, Nat.le_of_ble_eq_true rfl⟩) (hx_preS hx_nil hK) rfl rfl hl.1 rfl (lv_room (Nat.le_of_ble_eq_true rfl)) d_X_isPattern_1 ⟨Nat.zero_le _, Nat.zero_le _⟩) ?_
  refine lv_if_eq (tgt := 24) hx hb d_X_isPattern_4 (by decide) (fun c4 => ?_) (fun c4 => ?_)
  · replace h := hx_ip c4 h
    refine lv_iconst (v := 0) hx hb d_X_isPattern_24 (by decide) ?_
    exact W.zret hx hb hr (hx_nb (Or.inl rfl)) (fun t ht hW => ⟨by rw [Option.some.inj h], ht⟩) (fun q hq => nomatch hq) d_X_isPattern_25
  · replace h := hx_in c4 h
    refine lv_aload_n hx hb d_X_isPattern_7 rfl (lv_at hl 0 rfl) ?_
    refine va_get (D := D) (ci := 0) (v := .ref (ad 1)) (C := "HalfFloats") (T := T_X) (N := 9) hx hb hts (hx_up in_X) hown hK hP (0) hx_at_X rfl 0 (by decide) (hts _ (hx_cons _ k_204)) (fun _ h9 => h9) rfl d_X_isPattern_8 ?_
    refine lv_iload_n hx hb d_X_isPattern_11 rfl (lv_at hl 1 rfl) ?_
    obtain ⟨g5, h⟩ := hx_gs h
    refine va_aldq hx hb hK hP (1) 0 hx_at_FA rfl g5 d_X_isPattern_12 ?_
    refine lv_iload_n hx hb d_X_isPattern_13 rfl (lv_at hl 2 rfl) ?_
    obtain ⟨r6, er6, h⟩ := hx_b1s h
    refine hx_rd (va_runV (As := [.int x2]) (rest := []) ⟨hx, hb, hml, hown, hts⟩ (c_F_holds l D T3 (ad (2 + x1.toNatClampNeg)) (hx_fm σ x1.toNatClampNeg) x2 _ er6) (cwV 1 hts (hx_gV hx_cons k_256 k_257 k_258 k_51 k_259) rfl rfl rfl (by decide +kernel) ⟨Nat.le_of_ble_eq_true rfl, Nat.le_of_ble_eq_true rfl⟩) (hx_preV (va_recv hK hP (ci := 1) (q0 := 2 + x1.toNatClampNeg) rfl (hx_at_F (hx_lt g5))) (hx_one hP (hx_at_F (hx_lt g5))) hK) rfl rfl hl.1 rfl (lv_room (Nat.le_of_ble_eq_true rfl)) d_X_isPattern_14 ⟨Nat.zero_le _, Nat.zero_le _⟩) ?_
    refine lv_if_eq (tgt := 24) hx hb d_X_isPattern_17 (by decide) (fun c7 => ?_) (fun c7 => ?_)
    · replace h := hx_ip c7 h
      refine lv_iconst (v := 0) hx hb d_X_isPattern_24 (by decide) ?_
      exact W.zret hx hb hr (hx_nb (Or.inl rfl)) (fun t ht hW => ⟨by rw [Option.some.inj h], ht⟩) (fun q hq => nomatch hq) d_X_isPattern_25
    · replace h := hx_in c7 h
      refine lv_iconst (v := 1) hx hb d_X_isPattern_20 (by decide) ?_
      refine lv_goto (tgt := 25) hx hb d_X_isPattern_21 (by decide) ?_
      exact W.zret hx hb hr (hx_nb (Or.inr rfl)) (fun t ht hW => ⟨by rw [Option.some.inj h], ht⟩) (fun q hq => nomatch hq) d_X_isPattern_25
abbrev m_X_part : Room := { frames := 2, cells := 0, slots := 0, locals := 44 }
set_option maxHeartbeats 4000000 in
set_option maxRecDepth 100000 in
theorem c_X_part (l : Launch) (D : va_G) (T3 : hx_T3) (ad : Nat → Nat) (σ : hx_S) (x1 : Int32) (x2 : Int32) (x3 : Int32) (r0 : Int32) (h : f_X_part σ x1 x2 x3 = some r0) : hx_R l D (hx_ty T3) (hx_W T3 ad σ) y_X_part w_X_part m_X_part [.ref (ad 0), .int x1, .int x2, .int x3] (.int r0) := by
  refine Met.ofW (cc := b_X_part) (maxL := 7) (ret := (some .int)) (by decide) rfl ?_
  intro p e s m args below meth c s₁ B hml hv
  obtain ⟨hargs, hP, hK⟩ := hv
  have hx := B.exec
  have hb := B.bytes
  have hr := B.returns
  have hts := atoms_spec (ws := w_X_part) B.pre
  have hown : s.vm.findClass "HalfFloats" = some m.cls := findClass_of_methodNamed B.named
  have hlocks := B.notSynchronized
  have B_45 : ∀ (x13 : Int32) (x14 : Int32) (k15 : Nat) (x16 : Int32) (x17 : Int32) (ls : Array Slot), k15 < 4 → lv_has ls 7 [(2, .int x13), (3, .int x14), (4, .ref (ad (2 + k15))), (5, .int x16)] → f_X_part_45 σ x13 x14 k15 x16 x17 = some r0 → W p l e (headSpec w_X_part m_X_part).room s m args below meth c s.heap [] 0 0 (MQ below (hx_Q (.int r0)) args s 0 0 (fun _ => False)) (F0 m 45 ls [.int x17]) := by
      intro x13 x14 k15 x16 x17 ls hk15 hl h
      rw [f_X_part_45] at h
      refine lv_istore (lv' := [(6, .int x17), (2, .int x13), (3, .int x14), (4, .ref (ad (2 + k15))), (5, .int x16)]) hx hb d_X_part_45 hl (by decide) rfl (fun ls hl => ?_)
      refine lv_iload_n hx hb d_X_part_47 rfl (lv_at hl 2 rfl) ?_
      by_cases c18 : x14 = 0
      · replace h := hx_ip c18 h
        refine lv_tableIn (tgt := 80) hx hb d_X_part_48 (by rw [c18]; decide) (by rw [c18]; decide) (by rw [c18]; rfl) (by decide) ?_
        refine lv_iload hx hb d_X_part_80 (lv_at hl 4 rfl) ?_
        exact W.iret hx hb hr (fun t ht hW => ⟨by rw [Option.some.inj h], ht⟩) (fun q hq => nomatch hq) d_X_part_82
      · replace h := hx_in c18 h
        by_cases c19 : x14 = 1
        · replace h := hx_ip c19 h
          refine lv_tableIn (tgt := 83) hx hb d_X_part_48 (by rw [c19]; decide) (by rw [c19]; decide) (by rw [c19]; rfl) (by decide) ?_
          refine lv_aload hx hb d_X_part_83 (lv_at hl 3 rfl) ?_
          refine lv_iload_n hx hb d_X_part_85 rfl (lv_at hl 1 rfl) ?_
          obtain ⟨r20, er20, h⟩ := hx_b1s h
          refine hx_rd (va_runV (As := [.int x13]) (rest := []) ⟨hx, hb, hml, hown, hts⟩ (c_F_isNegative l D T3 (ad (2 + k15)) (hx_fm σ k15) x13 _ er20) (cwV 1 hts (hx_gV hx_cons k_269 k_270 k_271 k_51 k_272) rfl rfl rfl (by decide +kernel) ⟨Nat.le_of_ble_eq_true rfl, Nat.le_of_ble_eq_true rfl⟩) (hx_preV (va_recv hK hP (ci := 1) (q0 := 2 + k15) rfl (hx_at_F hk15)) (hx_one hP (hx_at_F hk15)) hK) rfl rfl hl.1 rfl (lv_room (Nat.le_of_ble_eq_true rfl)) d_X_part_86 ⟨Nat.zero_le _, Nat.zero_le _⟩) ?_
          refine lv_if_eq (tgt := 96) hx hb d_X_part_89 (by decide) (fun c21 => ?_) (fun c21 => ?_)
          · replace h := hx_ip c21 h
            refine lv_iconst (v := 0) hx hb d_X_part_96 (by decide) ?_
            exact W.iret hx hb hr (fun t ht hW => ⟨by rw [Option.some.inj h], ht⟩) (fun q hq => nomatch hq) d_X_part_97
          · replace h := hx_in c21 h
            refine lv_iconst (v := 1) hx hb d_X_part_92 (by decide) ?_
            refine lv_goto (tgt := 97) hx hb d_X_part_93 (by decide) ?_
            exact W.iret hx hb hr (fun t ht hW => ⟨by rw [Option.some.inj h], ht⟩) (fun q hq => nomatch hq) d_X_part_97
        · replace h := hx_in c19 h
          by_cases c22 : x14 = 2
          · replace h := hx_ip c22 h
            refine lv_tableIn (tgt := 98) hx hb d_X_part_48 (by rw [c22]; decide) (by rw [c22]; decide) (by rw [c22]; rfl) (by decide) ?_
            refine lv_iload hx hb d_X_part_98 (lv_at hl 0 rfl) ?_
            refine lv_if_eq (tgt := 113) hx hb d_X_part_100 (by decide) (fun c23 => ?_) (fun c23 => ?_)
            · replace h := hx_ip c23 h
              refine lv_iconst (v := 0) hx hb d_X_part_113 (by decide) ?_
              exact W.iret hx hb hr (fun t ht hW => ⟨by rw [Option.some.inj h], ht⟩) (fun q hq => nomatch hq) d_X_part_114
            · replace h := hx_in c23 h
              refine lv_aload hx hb d_X_part_103 (lv_at hl 3 rfl) ?_
              refine lv_iload_n hx hb d_X_part_105 rfl (lv_at hl 1 rfl) ?_
              obtain ⟨r24, er24, h⟩ := hx_b1s h
              refine hx_rd (va_runV (As := [.int x13]) (rest := []) ⟨hx, hb, hml, hown, hts⟩ (c_F_wholeOf l D T3 (ad (2 + k15)) (hx_fm σ k15) x13 _ er24) (cwV 1 hts (hx_gV hx_cons k_273 k_274 k_275 k_51 k_276) rfl rfl rfl (by decide +kernel) ⟨Nat.le_of_ble_eq_true rfl, Nat.le_of_ble_eq_true rfl⟩) (hx_preV (va_recv hK hP (ci := 1) (q0 := 2 + k15) rfl (hx_at_F hk15)) (hx_one hP (hx_at_F hk15)) hK) rfl rfl hl.1 rfl (lv_room (Nat.le_of_ble_eq_true rfl)) d_X_part_106 ⟨Nat.zero_le _, Nat.zero_le _⟩) ?_
              refine lv_l2i hx hb d_X_part_109 rfl ?_
              refine lv_goto (tgt := 114) hx hb d_X_part_110 (by decide) ?_
              exact W.iret hx hb hr (fun t ht hW => ⟨by rw [Option.some.inj h], ht⟩) (fun q hq => nomatch hq) d_X_part_114
          · replace h := hx_in c22 h
            by_cases c25 : x14 = 3
            · replace h := hx_ip c25 h
              refine lv_tableIn (tgt := 115) hx hb d_X_part_48 (by rw [c25]; decide) (by rw [c25]; decide) (by rw [c25]; rfl) (by decide) ?_
              refine lv_iload hx hb d_X_part_115 (lv_at hl 0 rfl) ?_
              refine lv_if_eq (tgt := 129) hx hb d_X_part_117 (by decide) (fun c26 => ?_) (fun c26 => ?_)
              · replace h := hx_ip c26 h
                refine lv_iconst (v := 0) hx hb d_X_part_129 (by decide) ?_
                exact W.iret hx hb hr (fun t ht hW => ⟨by rw [Option.some.inj h], ht⟩) (fun q hq => nomatch hq) d_X_part_130
              · replace h := hx_in c26 h
                refine lv_aload hx hb d_X_part_120 (lv_at hl 3 rfl) ?_
                refine lv_iload_n hx hb d_X_part_122 rfl (lv_at hl 1 rfl) ?_
                obtain ⟨r27, er27, h⟩ := hx_b1s h
                refine hx_rd (va_runV (As := [.int x13]) (rest := []) ⟨hx, hb, hml, hown, hts⟩ (c_F_powerOf l D T3 (ad (2 + k15)) (hx_fm σ k15) x13 _ er27) (cwV 1 hts (hx_gV hx_cons k_277 k_278 k_279 k_51 k_280) rfl rfl rfl (by decide +kernel) ⟨Nat.le_of_ble_eq_true rfl, Nat.le_of_ble_eq_true rfl⟩) (hx_preV (va_recv hK hP (ci := 1) (q0 := 2 + k15) rfl (hx_at_F hk15)) (hx_one hP (hx_at_F hk15)) hK) rfl rfl hl.1 rfl (lv_room (Nat.le_of_ble_eq_true rfl)) d_X_part_123 ⟨Nat.zero_le _, Nat.zero_le _⟩) ?_
                refine lv_goto (tgt := 130) hx hb d_X_part_126 (by decide) ?_
                exact W.iret hx hb hr (fun t ht hW => ⟨by rw [Option.some.inj h], ht⟩) (fun q hq => nomatch hq) d_X_part_130
            · replace h := hx_in c25 h
              have tc18 := lv_neT (a := 0) c18 (by decide)
              have tc19 := lv_neT (a := 1) c19 (by decide)
              have tc22 := lv_neT (a := 2) c22 (by decide)
              have tc25 := lv_neT (a := 3) c25 (by decide)
              refine lv_tableOut (tgt := 131) hx hb d_X_part_48 (by omega) (by decide) ?_
              refine lv_ldc (v := 1000000) hx hb hown (hts _ (hx_cons _ k_260)) d_X_part_131 ?_
              exact W.iret hx hb hr (fun t ht hW => ⟨by rw [Option.some.inj h], ht⟩) (fun q hq => nomatch hq) d_X_part_133
  have B_40 : ∀ (x9 : Int32) (x10 : Int32) (k11 : Nat) (x12 : Int32) (ls : Array Slot), k11 < 4 → lv_has ls 7 [(2, .int x9), (3, .int x10), (4, .ref (ad (2 + k11))), (5, .int x12)] → f_X_part_40 σ x9 x10 k11 x12 = some r0 → W p l e (headSpec w_X_part m_X_part).room s m args below meth c s.heap [] 0 0 (MQ below (hx_Q (.int r0)) args s 0 0 (fun _ => False)) (F0 m 40 ls []) := by
      intro x9 x10 k11 x12 ls hk11 hl h
      rw [f_X_part_40] at h
      refine lv_iconst (v := 1) hx hb d_X_part_40 (by decide) ?_
      refine lv_goto (tgt := 45) hx hb d_X_part_41 (by decide) ?_
      exact B_45 x9 x10 k11 x12 (1 : Int32) ls hk11 (lv_sub hl [0, 1, 2, 3] rfl) h
  refine W.eq (g2 := F0 m 0 ((lg_sl [.ref (ad 0), .int x1, .int x2, .int x3] ++ List.replicate (7 - (lg_sl [.ref (ad 0), .int x1, .int x2, .int x3]).length) Slot.unset).toArray) []) (by rw [hargs, lg_entry_eq]) ?_
  have hl := lv_entry ([.ref (ad 0), .int x1, .int x2, .int x3]) (n := 7) (Nat.le_of_ble_eq_true rfl)
  generalize (lg_sl ([.ref (ad 0), .int x1, .int x2, .int x3]) ++ List.replicate (7 - (lg_sl ([.ref (ad 0), .int x1, .int x2, .int x3])).length) Slot.unset).toArray = ls at hl ⊢
  have hl : lv_has ls 7 [(0, .ref (ad 0)), (1, .int x1), (2, .int x2), (3, .int x3)] := hl
  rw [f_X_part] at h
  refine lv_aload_n hx hb d_X_part_0 rfl (lv_at hl 0 rfl) ?_
  refine lv_iload_n hx hb d_X_part_1 rfl (lv_at hl 1 rfl) ?_
  refine lv_iload_n hx hb d_X_part_2 rfl (lv_at hl 2 rfl) ?_
  obtain ⟨r4, er4, h⟩ := hx_b1s h
  refine hx_rd (va_runV (As := [.int x1, .int x2]) (rest := []) ⟨hx, hb, hml, hown, hts⟩ (c_X_isPattern l D T3 ad σ x1 x2 _ er4) (cwV 2 hts (hx_gV hx_cons k_252 k_254 k_0 k_50 k_255) rfl rfl rfl (by decide +kernel) ⟨Nat.le_of_ble_eq_true rfl, Nat.le_of_ble_eq_true rfl⟩) (hx_preV (va_recv hK hP (ci := 0) (q0 := 0) rfl hx_at_X) hP hK) rfl rfl hl.1 rfl (lv_room (Nat.le_of_ble_eq_true rfl)) d_X_part_3 ⟨Nat.zero_le _, Nat.zero_le _⟩) ?_
  refine lv_if_ne (tgt := 12) hx hb d_X_part_6 (by decide) (fun c5 => ?_) (fun c5 => ?_)
  · replace h := hx_in c5 h
    refine lv_aload_n hx hb d_X_part_12 rfl (lv_at hl 0 rfl) ?_
    refine va_get (D := D) (ci := 0) (v := .ref (ad 1)) (C := "HalfFloats") (T := T_X) (N := 9) hx hb hts (hx_up in_X) hown hK hP (0) hx_at_X rfl 0 (by decide) (hts _ (hx_cons _ k_204)) (fun _ h9 => h9) rfl d_X_part_13 ?_
    refine lv_iload_n hx hb d_X_part_16 rfl (lv_at hl 1 rfl) ?_
    obtain ⟨g6, h⟩ := hx_gs h
    refine va_aldq hx hb hK hP (1) 0 hx_at_FA rfl g6 d_X_part_17 ?_
    refine lv_astore (lv' := [(4, .ref (ad (2 + x1.toNatClampNeg))), (0, .ref (ad 0)), (1, .int x1), (2, .int x2), (3, .int x3)]) hx hb d_X_part_18 hl (by decide) rfl (fun ls hl => ?_)
    refine lv_aload hx hb d_X_part_20 (lv_at hl 0 rfl) ?_
    refine lv_iload_n hx hb d_X_part_22 rfl (lv_at hl 3 rfl) ?_
    obtain ⟨r7, er7, h⟩ := hx_b1s h
    refine hx_rd (va_runV (As := [.int x2]) (rest := []) ⟨hx, hb, hml, hown, hts⟩ (c_F_sortOf l D T3 (ad (2 + x1.toNatClampNeg)) (hx_fm σ x1.toNatClampNeg) x2 _ er7) (cwV 1 hts (hx_gV hx_cons k_261 k_262 k_263 k_51 k_264) rfl rfl rfl (by decide +kernel) ⟨Nat.le_of_ble_eq_true rfl, Nat.le_of_ble_eq_true rfl⟩) (hx_preV (va_recv hK hP (ci := 1) (q0 := 2 + x1.toNatClampNeg) rfl (hx_at_F (hx_lt g6))) (hx_one hP (hx_at_F (hx_lt g6))) hK) rfl rfl hl.1 rfl (lv_room (Nat.le_of_ble_eq_true rfl)) d_X_part_23 ⟨Nat.zero_le _, Nat.zero_le _⟩) ?_
    refine lv_istore (lv' := [(5, .int r7), (4, .ref (ad (2 + x1.toNatClampNeg))), (0, .ref (ad 0)), (1, .int x1), (2, .int x2), (3, .int x3)]) hx hb d_X_part_26 hl (by decide) rfl (fun ls hl => ?_)
    refine lv_iload hx hb d_X_part_28 (lv_at hl 0 rfl) ?_
    refine lv_iconst (v := 1) hx hb d_X_part_30 (by decide) ?_
    refine lv_icmp_eq (tgt := 40) hx hb d_X_part_31 (by decide) (fun c8 => ?_) (fun c8 => ?_)
    · replace h := hx_ip c8 h
      exact B_40 x2 x3 x1.toNatClampNeg r7 ls (hx_lt g6) (lv_sub hl [4, 5, 1, 0] rfl) h
    · replace h := hx_in c8 h
      refine lv_iload hx hb d_X_part_34 (lv_at hl 0 rfl) ?_
      refine lv_iconst (v := 2) hx hb d_X_part_36 (by decide) ?_
      refine lv_icmp_ne (tgt := 44) hx hb d_X_part_37 (by decide) (fun c28 => ?_) (fun c28 => ?_)
      · replace h := hx_in c28 h
        refine lv_iconst (v := 0) hx hb d_X_part_44 (by decide) ?_
        exact B_45 x2 x3 x1.toNatClampNeg r7 (0 : Int32) ls (hx_lt g6) (lv_sub hl [4, 5, 1, 0] rfl) h
      · replace h := hx_ip c28 h
        exact B_40 x2 x3 x1.toNatClampNeg r7 ls (hx_lt g6) (lv_sub hl [4, 5, 1, 0] rfl) h
  · replace h := hx_ip c5 h
    refine lv_ldc (v := 1000000) hx hb hown (hts _ (hx_cons _ k_260)) d_X_part_9 ?_
    exact W.iret hx hb hr (fun t ht hW => ⟨by rw [Option.some.inj h], ht⟩) (fun q hq => nomatch hq) d_X_part_11
abbrev m_X_isWay : Room := { frames := 0, cells := 0, slots := 0, locals := 0 }
set_option maxHeartbeats 4000000 in
set_option maxRecDepth 100000 in
theorem c_X_isWay (l : Launch) (D : va_G) (T3 : hx_T3)  (x1 : Int32) (r0 : Int32) (h : f_X_isWay x1 = some r0) : hx_R l D (hx_ty T3) [] y_X_isWay w_X_isWay m_X_isWay [.int x1] (.int r0) := by
  refine Met.ofW (cc := b_X_isWay) (maxL := 1) (ret := (some .boolean)) (by decide) rfl ?_
  intro p e s m args below meth c s₁ B hml hv
  obtain ⟨hargs, hP, hK⟩ := hv
  have hx := B.exec
  have hb := B.bytes
  have hr := B.returns
  have hts := atoms_spec (ws := w_X_isWay) B.pre
  have hown : s.vm.findClass "HalfFloats" = some m.cls := findClass_of_methodNamed B.named
  have hlocks := B.notSynchronized
  refine W.eq (g2 := F0 m 0 ((lg_sl [.int x1] ++ List.replicate (1 - (lg_sl [.int x1]).length) Slot.unset).toArray) []) (by rw [hargs, lg_entry_eq]) ?_
  have hl := lv_entry ([.int x1]) (n := 1) (Nat.le_of_ble_eq_true rfl)
  generalize (lg_sl ([.int x1]) ++ List.replicate (1 - (lg_sl ([.int x1])).length) Slot.unset).toArray = ls at hl ⊢
  have hl : lv_has ls 1 [(0, .int x1)] := hl
  rw [f_X_isWay] at h
  refine lv_iload_n hx hb d_X_isWay_0 rfl (lv_at hl 0 rfl) ?_
  refine lv_if_lt (tgt := 13) hx hb d_X_isWay_1 (by decide) (fun c2 => ?_) (fun c2 => ?_)
  · replace h := hx_ip c2 h
    refine lv_iconst (v := 0) hx hb d_X_isWay_13 (by decide) ?_
    exact W.zret hx hb hr (hx_nb (Or.inl rfl)) (fun t ht hW => ⟨by rw [Option.some.inj h], ht⟩) (fun q hq => nomatch hq) d_X_isWay_14
  · replace h := hx_in c2 h
    refine lv_iload_n hx hb d_X_isWay_4 rfl (lv_at hl 0 rfl) ?_
    refine lv_iconst (v := 5) hx hb d_X_isWay_5 (by decide) ?_
    refine lv_icmp_gt (tgt := 13) hx hb d_X_isWay_6 (by decide) (fun c3 => ?_) (fun c3 => ?_)
    · replace h := hx_ip c3 h
      refine lv_iconst (v := 0) hx hb d_X_isWay_13 (by decide) ?_
      exact W.zret hx hb hr (hx_nb (Or.inl rfl)) (fun t ht hW => ⟨by rw [Option.some.inj h], ht⟩) (fun q hq => nomatch hq) d_X_isWay_14
    · replace h := hx_in c3 h
      refine lv_iconst (v := 1) hx hb d_X_isWay_9 (by decide) ?_
      refine lv_goto (tgt := 14) hx hb d_X_isWay_10 (by decide) ?_
      exact W.zret hx hb hr (hx_nb (Or.inr rfl)) (fun t ht hW => ⟨by rw [Option.some.inj h], ht⟩) (fun q hq => nomatch hq) d_X_isWay_14
abbrev m_X_bits : Room := { frames := 0, cells := 0, slots := 0, locals := 0 }
set_option maxHeartbeats 4000000 in
set_option maxRecDepth 100000 in
theorem c_X_bits (l : Launch) (D : va_G) (T3 : hx_T3)  (x1 : Int32) (r0 : Int64) (h : f_X_bits x1 = some r0) : hx_R l D (hx_ty T3) [] y_X_bits w_X_bits m_X_bits [.int x1] (.long r0) := by
  refine Met.ofW (cc := b_X_bits) (maxL := 1) (ret := (some .long)) (by decide) rfl ?_
  intro p e s m args below meth c s₁ B hml hv
  obtain ⟨hargs, hP, hK⟩ := hv
  have hx := B.exec
  have hb := B.bytes
  have hr := B.returns
  have hts := atoms_spec (ws := w_X_bits) B.pre
  have hown : s.vm.findClass "HalfFloats" = some m.cls := findClass_of_methodNamed B.named
  have hlocks := B.notSynchronized
  refine W.eq (g2 := F0 m 0 ((lg_sl [.int x1] ++ List.replicate (1 - (lg_sl [.int x1]).length) Slot.unset).toArray) []) (by rw [hargs, lg_entry_eq]) ?_
  have hl := lv_entry ([.int x1]) (n := 1) (Nat.le_of_ble_eq_true rfl)
  generalize (lg_sl ([.int x1]) ++ List.replicate (1 - (lg_sl ([.int x1])).length) Slot.unset).toArray = ls at hl ⊢
  have hl : lv_has ls 1 [(0, .int x1)] := hl
  rw [f_X_bits] at h
  refine lv_iload_n hx hb d_X_bits_0 rfl (lv_at hl 0 rfl) ?_
  refine lv_i2l hx hb d_X_bits_1 rfl ?_
  refine lv_ldc2 (v := 4294967295) hx hb hown (hts _ (hx_cons _ k_345)) d_X_bits_2 ?_
  refine lv_land hx hb d_X_bits_5 ?_
  exact W.lret hx hb hr (fun t ht hW => ⟨by rw [Option.some.inj h], ht⟩) (fun q hq => nomatch hq) d_X_bits_6
abbrev m_X_turn : Room := { frames := 4, cells := 0, slots := 0, locals := 111 }
set_option maxHeartbeats 4000000 in
set_option maxRecDepth 100000 in
theorem c_X_turn (l : Launch) (D : va_G) (T3 : hx_T3) (ad : Nat → Nat) (sz : Nat) (σ : hx_S) (x1 : Int32) (x2 : Int32) (x3 : Int32) (x4 : Int32) (r0 : Int64) (σ0 : hx_S) (h : f_X_turn σ x1 x2 x3 x4 = some (r0, σ0)) : hx_Wj l D (hx_ty T3) y_X_turn w_X_turn m_X_turn [.ref (ad 0), .int x1, .int x2, .int x3, .int x4] sz (hx_W T3 ad σ) r0 (hx_W T3 ad σ0) := by
  refine Met.ofW (cc := b_X_turn) (maxL := 5) (ret := (some .long)) (by decide) rfl ?_
  intro p e s m args below meth c s₁ B hml hv
  obtain ⟨hargs, hsz, hP, hK, hD0⟩ := hv
  have hx := B.exec
  have hb := B.bytes
  have hr := B.returns
  have hts := atoms_spec (ws := w_X_turn) B.pre
  have hown : s.vm.findClass "HalfFloats" = some m.cls := findClass_of_methodNamed B.named
  have hlocks := B.notSynchronized
  subst hsz
  have hD := hD0.self (sz := s.heap.size)
  generalize hAe : va_A (hx_W T3 ad σ) s.heap.size = A at hD ⊢
  have hA : ∀ q : Nat, s.heap.size ≤ q → A q := fun q h => by rw [← hAe]; exact Or.inr h
  have hS : va_S A s.heap s.heap [] := va_S.rf
  refine W.eq (g2 := F0 m 0 ((lg_sl [.ref (ad 0), .int x1, .int x2, .int x3, .int x4] ++ List.replicate (5 - (lg_sl [.ref (ad 0), .int x1, .int x2, .int x3, .int x4]).length) Slot.unset).toArray) []) (by rw [hargs, lg_entry_eq]) ?_
  have hl := lv_entry ([.ref (ad 0), .int x1, .int x2, .int x3, .int x4]) (n := 5) (Nat.le_of_ble_eq_true rfl)
  generalize (lg_sl ([.ref (ad 0), .int x1, .int x2, .int x3, .int x4]) ++ List.replicate (5 - (lg_sl ([.ref (ad 0), .int x1, .int x2, .int x3, .int x4])).length) Slot.unset).toArray = ls at hl ⊢
  have hl : lv_has ls 5 [(0, .ref (ad 0)), (1, .int x1), (2, .int x2), (3, .int x3), (4, .int x4)] := hl
  rw [f_X_turn] at h
  refine lv_aload_n hx hb d_X_turn_0 rfl (lv_at hl 0 rfl) ?_
  refine lv_iload_n hx hb d_X_turn_1 rfl (lv_at hl 1 rfl) ?_
  refine lv_iload_n hx hb d_X_turn_2 rfl (lv_at hl 2 rfl) ?_
  obtain ⟨r5, er5, h⟩ := hx_b1s h
  refine hx_rd (va_runV (As := [.int x1, .int x2]) (rest := []) ⟨hx, hb, hml, hown, hts⟩ (c_X_isPattern l D T3 ad σ x1 x2 _ er5) (cwV 2 hts (hx_gV hx_cons k_252 k_254 k_0 k_50 k_255) rfl rfl rfl (by decide +kernel) ⟨Nat.le_of_ble_eq_true rfl, Nat.le_of_ble_eq_true rfl⟩) (hx_preV (va_recv hK hP (ci := 0) (q0 := 0) rfl hx_at_X) hP hK) rfl rfl hl.1 rfl (lv_room (Nat.le_of_ble_eq_true rfl)) d_X_turn_3 ⟨Nat.zero_le _, Nat.zero_le _⟩) ?_
  refine lv_if_eq (tgt := 24) hx hb d_X_turn_6 (by decide) (fun c6 => ?_) (fun c6 => ?_)
  · replace h := hx_ip c6 h
    refine lv_ldc2 (v := -2) hx hb hown (hts _ (hx_cons _ k_291)) d_X_turn_24 ?_
    exact W.lret hx hb hr (fun t ht hW => hx_endj h ht hW hP hK hD hS) hS.2.2 d_X_turn_27
  · replace h := hx_in c6 h
    refine lv_iload_n hx hb d_X_turn_9 rfl (lv_at hl 3 rfl) ?_
    obtain ⟨r7, er7, h⟩ := hx_b1s h
    refine hx_rd (va_runS (As := [.int x3]) (rest := []) ⟨hx, hb, hml, hown, hts⟩ (c_X_isFormat l D T3 x3 _ er7) (va_cwS 1 hts (hx_gS hx_cons k_236 k_237 k_50 k_238) rfl rfl rfl (by decide +kernel) ⟨Nat.le_of_ble_eq_true rfl, Nat.le_of_ble_eq_true rfl⟩) (hx_preS hx_nil hK) rfl rfl hl.1 rfl (lv_room (Nat.le_of_ble_eq_true rfl)) d_X_turn_10 ⟨Nat.zero_le _, Nat.zero_le _⟩) ?_
    refine lv_if_eq (tgt := 24) hx hb d_X_turn_13 (by decide) (fun c8 => ?_) (fun c8 => ?_)
    · replace h := hx_ip c8 h
      refine lv_ldc2 (v := -2) hx hb hown (hts _ (hx_cons _ k_291)) d_X_turn_24 ?_
      exact W.lret hx hb hr (fun t ht hW => hx_endj h ht hW hP hK hD hS) hS.2.2 d_X_turn_27
    · replace h := hx_in c8 h
      refine lv_iload hx hb d_X_turn_16 (lv_at hl 4 rfl) ?_
      obtain ⟨r9, er9, h⟩ := hx_b1s h
      refine hx_rd (va_runS (As := [.int x4]) (rest := []) ⟨hx, hb, hml, hown, hts⟩ (c_X_isWay l D T3 x4 _ er9) (va_cwS 1 hts (hx_gS hx_cons k_288 k_289 k_50 k_290) rfl rfl rfl (by decide +kernel) ⟨Nat.le_of_ble_eq_true rfl, Nat.le_of_ble_eq_true rfl⟩) (hx_preS hx_nil hK) rfl rfl hl.1 rfl (lv_room (Nat.le_of_ble_eq_true rfl)) d_X_turn_18 ⟨Nat.zero_le _, Nat.zero_le _⟩) ?_
      refine lv_if_ne (tgt := 28) hx hb d_X_turn_21 (by decide) (fun c10 => ?_) (fun c10 => ?_)
      · replace h := hx_in c10 h
        refine lv_aload_n hx hb d_X_turn_28 rfl (lv_at hl 0 rfl) ?_
        refine va_get (D := D) (ci := 0) (v := .ref (ad 12)) (C := "HalfFloats") (T := T_X) (N := 9) hx hb hts (hx_up in_X) hown hK hP (0) hx_at_X rfl 4 (by decide) (hts _ (hx_cons _ k_208)) (fun _ h9 => h9) rfl d_X_turn_29 ?_
        refine lv_aload_n hx hb d_X_turn_32 rfl (lv_at hl 0 rfl) ?_
        refine va_get (D := D) (ci := 0) (v := .ref (ad 1)) (C := "HalfFloats") (T := T_X) (N := 9) hx hb hts (hx_up in_X) hown hK hP (0) hx_at_X rfl 0 (by decide) (hts _ (hx_cons _ k_204)) (fun _ h9 => h9) rfl d_X_turn_33 ?_
        refine lv_iload_n hx hb d_X_turn_36 rfl (lv_at hl 1 rfl) ?_
        obtain ⟨g11, h⟩ := hx_gs h
        refine va_aldq hx hb hK hP (1) 0 hx_at_FA rfl g11 d_X_turn_37 ?_
        refine lv_iload_n hx hb d_X_turn_38 rfl (lv_at hl 2 rfl) ?_
        refine lv_iconst (v := 0) hx hb d_X_turn_39 (by decide) ?_
        refine lv_aload_n hx hb d_X_turn_40 rfl (lv_at hl 0 rfl) ?_
        refine va_get (D := D) (ci := 0) (v := .ref (ad 1)) (C := "HalfFloats") (T := T_X) (N := 9) hx hb hts (hx_up in_X) hown hK hP (0) hx_at_X rfl 0 (by decide) (hts _ (hx_cons _ k_204)) (fun _ h9 => h9) rfl d_X_turn_41 ?_
        refine lv_iload_n hx hb d_X_turn_44 rfl (lv_at hl 3 rfl) ?_
        obtain ⟨g12, h⟩ := hx_gs h
        refine va_aldq hx hb hK hP (1) 0 hx_at_FA rfl g12 d_X_turn_45 ?_
        refine lv_iload hx hb d_X_turn_46 (lv_at hl 4 rfl) ?_
        obtain ⟨r14, q13, eq13, h⟩ := hx_b2s h
        refine hx_wi (va_runV (As := [.ref (ad (2 + x1.toNatClampNeg)), .int x2, .int (0 : Int32), .ref (ad (2 + x3.toNatClampNeg)), .int x4]) (rest := []) ⟨hx, hb, hml, hown, hts⟩ (c_D_turned l D T3 ad _ σ x1.toNatClampNeg x2 (0 : Int32) x3.toNatClampNeg x4 (hx_lt g11) (hx_lt g12) _ _ eq13) (cwV 5 hts (hx_gV hx_cons k_292 k_293 k_294 k_54 k_295) rfl rfl rfl (by decide +kernel) ⟨Nat.le_of_ble_eq_true rfl, Nat.le_of_ble_eq_true rfl⟩) (hx_preVw (va_recv hK hP (ci := 4) (q0 := 12) rfl hx_at_D) hP hK hD) rfl rfl hl.1 rfl (lv_room (Nat.le_of_ble_eq_true rfl)) d_X_turn_48 ⟨Nat.zero_le _, Nat.zero_le _⟩) hD hS hA (fun H locs hP hD hS => ?_)
        obtain ⟨r15, er15, h⟩ := hx_b1s h
        refine hx_rd (va_runS (As := [.int r14]) (rest := []) ⟨hx, hb, hml, hown, hts⟩ (c_X_bits l D T3 r14 _ er15) (va_cwS 1 hts (hx_gS hx_cons k_342 k_343 k_50 k_344) rfl rfl rfl (by decide +kernel) ⟨Nat.le_of_ble_eq_true rfl, Nat.le_of_ble_eq_true rfl⟩) (hx_preS hx_nil hK) rfl rfl hl.1 rfl (lv_room (Nat.le_of_ble_eq_true rfl)) d_X_turn_51 ⟨Nat.zero_le _, Nat.zero_le _⟩) ?_
        exact W.lret hx hb hr (fun t ht hW => hx_endj h ht hW hP hK hD hS) hS.2.2 d_X_turn_54
      · replace h := hx_ip c10 h
        refine lv_ldc2 (v := -2) hx hb hown (hts _ (hx_cons _ k_291)) d_X_turn_24 ?_
        exact W.lret hx hb hr (fun t ht hW => hx_endj h ht hW hP hK hD hS) hS.2.2 d_X_turn_27
abbrev m_X_reckon : Room := { frames := 5, cells := 0, slots := 0, locals := 112 }
set_option maxHeartbeats 4000000 in
set_option maxRecDepth 100000 in
theorem c_X_reckon (l : Launch) (D : va_G) (T3 : hx_T3) (ad : Nat → Nat) (sz : Nat) (σ : hx_S) (x1 : Int32) (x2 : Int32) (x3 : Int32) (x4 : Int32) (x5 : Int32) (x6 : Int32) (x7 : Int32) (r0 : Int64) (σ0 : hx_S) (h : f_X_reckon σ x1 x2 x3 x4 x5 x6 x7 = some (r0, σ0)) : hx_Wj l D (hx_ty T3) y_X_reckon w_X_reckon m_X_reckon [.ref (ad 0), .int x1, .int x2, .int x3, .int x4, .int x5, .int x6, .int x7] sz (hx_W T3 ad σ) r0 (hx_W T3 ad σ0) := by
  refine Met.ofW (cc := b_X_reckon) (maxL := 8) (ret := (some .long)) (by decide) rfl ?_
  intro p e s m args below meth c s₁ B hml hv
  obtain ⟨hargs, hsz, hP, hK, hD0⟩ := hv
  have hx := B.exec
  have hb := B.bytes
  have hr := B.returns
  have hts := atoms_spec (ws := w_X_reckon) B.pre
  have hown : s.vm.findClass "HalfFloats" = some m.cls := findClass_of_methodNamed B.named
  have hlocks := B.notSynchronized
  subst hsz
  have hD := hD0.self (sz := s.heap.size)
  generalize hAe : va_A (hx_W T3 ad σ) s.heap.size = A at hD ⊢
  have hA : ∀ q : Nat, s.heap.size ≤ q → A q := fun q h => by rw [← hAe]; exact Or.inr h
  have hS : va_S A s.heap s.heap [] := va_S.rf
  have B_128 : ∀ (σ : hx_S) (x30 : Int32) (x31 : Int32) (H : Heap) (locs : List Loc) (ls : Array Slot), va_P D vwCl (hx_W T3 ad σ) H → va_D A (hx_W T3 ad σ) → va_S A s.heap H locs → lv_has ls 8 [(0, .ref (ad 0)), (6, .int x30), (7, .int x31)] → f_X_reckon_128 σ x30 x31 = some (r0, σ0) → W p l e (headSpec w_X_reckon m_X_reckon).room s m args below meth c H locs 0 0 (MQ below (hx_Qj D (hx_ty T3) A r0 (hx_W T3 ad σ0)) args s 0 0 A) (F0 m 128 ls []) := by
      intro σ x30 x31 H locs ls hP hD hS hl h
      rw [f_X_reckon_128] at h
      refine lv_aload_n hx hb d_X_reckon_128 rfl (lv_at hl 0 rfl) ?_
      refine va_get (D := D) (ci := 0) (v := .ref (ad 12)) (C := "HalfFloats") (T := T_X) (N := 9) hx hb hts (hx_up in_X) hown hK hP (0) hx_at_X rfl 4 (by decide) (hts _ (hx_cons _ k_208)) (fun _ h9 => h9) rfl d_X_reckon_129 ?_
      refine lv_aload_n hx hb d_X_reckon_132 rfl (lv_at hl 0 rfl) ?_
      refine va_get (D := D) (ci := 0) (v := .ref (ad 10)) (C := "HalfFloats") (T := T_X) (N := 9) hx hb hts (hx_up in_X) hown hK hP (0) hx_at_X rfl 3 (by decide) (hts _ (hx_cons _ k_207)) (fun _ h9 => h9) rfl d_X_reckon_133 ?_
      refine lv_aload_n hx hb d_X_reckon_136 rfl (lv_at hl 0 rfl) ?_
      refine va_get (D := D) (ci := 0) (v := .ref (ad 1)) (C := "HalfFloats") (T := T_X) (N := 9) hx hb hts (hx_up in_X) hown hK hP (0) hx_at_X rfl 0 (by decide) (hts _ (hx_cons _ k_204)) (fun _ h9 => h9) rfl d_X_reckon_137 ?_
      refine lv_iload hx hb d_X_reckon_140 (lv_at hl 1 rfl) ?_
      obtain ⟨g32, h⟩ := hx_gs h
      refine va_aldq hx hb hK hP (1) 0 hx_at_FA rfl g32 d_X_reckon_142 ?_
      refine lv_iload hx hb d_X_reckon_143 (lv_at hl 2 rfl) ?_
      obtain ⟨r34, q33, eq33, h⟩ := hx_b2s h
      refine hx_wi (va_runV (As := [.ref (ad 10), .ref (ad (2 + x30.toNatClampNeg)), .int x31]) (rest := []) ⟨hx, hb, hml, hown, hts⟩ (c_D_rounded l D T3 ad _ σ x30.toNatClampNeg x31 (hx_lt g32) _ _ eq33) (cwV 3 hts (hx_gV hx_cons k_383 k_384 k_385 k_54 k_386) rfl rfl rfl (by decide +kernel) ⟨Nat.le_of_ble_eq_true rfl, Nat.le_of_ble_eq_true rfl⟩) (hx_preVw (va_recv hK hP (ci := 4) (q0 := 12) rfl hx_at_D) hP hK hD) rfl rfl hl.1 rfl (lv_room (Nat.le_of_ble_eq_true rfl)) d_X_reckon_145 ⟨Nat.zero_le _, Nat.zero_le _⟩) hD hS hA (fun H locs hP hD hS => ?_)
      obtain ⟨r35, er35, h⟩ := hx_b1s h
      refine hx_rd (va_runS (As := [.int r34]) (rest := []) ⟨hx, hb, hml, hown, hts⟩ (c_X_bits l D T3 r34 _ er35) (va_cwS 1 hts (hx_gS hx_cons k_342 k_343 k_50 k_344) rfl rfl rfl (by decide +kernel) ⟨Nat.le_of_ble_eq_true rfl, Nat.le_of_ble_eq_true rfl⟩) (hx_preS hx_nil hK) rfl rfl hl.1 rfl (lv_room (Nat.le_of_ble_eq_true rfl)) d_X_reckon_148 ⟨Nat.zero_le _, Nat.zero_le _⟩) ?_
      exact W.lret hx hb hr (fun t ht hW => hx_endj h ht hW hP hK hD hS) hS.2.2 d_X_reckon_151
  have B_125 : ∀ (σ : hx_S) (x24 : Int32) (x25 : Int32) (k26 : Nat) (x27 : Int32) (x28 : Int32) (H : Heap) (locs : List Loc) (ls : Array Slot), va_P D vwCl (hx_W T3 ad σ) H → va_D A (hx_W T3 ad σ) → va_S A s.heap H locs → k26 < 4 → lv_has ls 8 [(0, .ref (ad 0)), (6, .int x24), (7, .int x25)] → f_X_reckon_125 σ x24 x25 k26 x27 x28 = some (r0, σ0) → W p l e (headSpec w_X_reckon m_X_reckon).room s m args below meth c H locs 0 0 (MQ below (hx_Qj D (hx_ty T3) A r0 (hx_W T3 ad σ0)) args s 0 0 A) (F0 m 125 ls [.int x28, .int x27, .ref (ad (2 + k26)), .ref (ad 10)]) := by
      intro σ x24 x25 k26 x27 x28 H locs ls hP hD hS hk26 hl h
      rw [f_X_reckon_125] at h
      obtain ⟨q29, eq29, h⟩ := hx_b1s h
      refine hx_wv (va_runV (As := [.ref (ad (2 + k26)), .int x27, .int x28]) (rest := []) ⟨hx, hb, hml, hown, hts⟩ (c_E_addValue l D T3 ad _ σ k26 x27 x28 hk26 _ eq29) (cwV 3 hts (hx_gV hx_cons k_379 k_380 k_381 k_53 k_382) rfl rfl rfl (by decide +kernel) ⟨Nat.le_of_ble_eq_true rfl, Nat.le_of_ble_eq_true rfl⟩) (hx_preVw (va_recv hK hP (ci := 3) (q0 := 10) rfl hx_at_E) hP hK hD) rfl rfl hl.1 rfl (lv_room (Nat.le_of_ble_eq_true rfl)) d_X_reckon_125 ⟨Nat.zero_le _, Nat.zero_le _⟩) hD hS hA (fun H locs hP hD hS => ?_)
      exact B_128 q29 x24 x25 _ _ ls hP hD hS (lv_sub hl [0, 1, 2] rfl) h
  refine W.eq (g2 := F0 m 0 ((lg_sl [.ref (ad 0), .int x1, .int x2, .int x3, .int x4, .int x5, .int x6, .int x7] ++ List.replicate (8 - (lg_sl [.ref (ad 0), .int x1, .int x2, .int x3, .int x4, .int x5, .int x6, .int x7]).length) Slot.unset).toArray) []) (by rw [hargs, lg_entry_eq]) ?_
  have hl := lv_entry ([.ref (ad 0), .int x1, .int x2, .int x3, .int x4, .int x5, .int x6, .int x7]) (n := 8) (Nat.le_of_ble_eq_true rfl)
  generalize (lg_sl ([.ref (ad 0), .int x1, .int x2, .int x3, .int x4, .int x5, .int x6, .int x7]) ++ List.replicate (8 - (lg_sl ([.ref (ad 0), .int x1, .int x2, .int x3, .int x4, .int x5, .int x6, .int x7])).length) Slot.unset).toArray = ls at hl ⊢
  have hl : lv_has ls 8 [(0, .ref (ad 0)), (1, .int x1), (2, .int x2), (3, .int x3), (4, .int x4), (5, .int x5), (6, .int x6), (7, .int x7)] := hl
  rw [f_X_reckon] at h
  refine lv_iload_n hx hb d_X_reckon_0 rfl (lv_at hl 1 rfl) ?_
  refine lv_if_lt (tgt := 45) hx hb d_X_reckon_1 (by decide) (fun c8 => ?_) (fun c8 => ?_)
  · replace h := hx_ip c8 h
    refine lv_ldc2 (v := -2) hx hb hown (hts _ (hx_cons _ k_291)) d_X_reckon_45 ?_
    exact W.lret hx hb hr (fun t ht hW => hx_endj h ht hW hP hK hD hS) hS.2.2 d_X_reckon_48
  · replace h := hx_in c8 h
    refine lv_iload_n hx hb d_X_reckon_4 rfl (lv_at hl 1 rfl) ?_
    refine lv_iconst (v := 2) hx hb d_X_reckon_5 (by decide) ?_
    refine lv_icmp_gt (tgt := 45) hx hb d_X_reckon_6 (by decide) (fun c9 => ?_) (fun c9 => ?_)
    · replace h := hx_ip c9 h
      refine lv_ldc2 (v := -2) hx hb hown (hts _ (hx_cons _ k_291)) d_X_reckon_45 ?_
      exact W.lret hx hb hr (fun t ht hW => hx_endj h ht hW hP hK hD hS) hS.2.2 d_X_reckon_48
    · replace h := hx_in c9 h
      refine lv_aload_n hx hb d_X_reckon_9 rfl (lv_at hl 0 rfl) ?_
      refine lv_iload_n hx hb d_X_reckon_10 rfl (lv_at hl 2 rfl) ?_
      refine lv_iload_n hx hb d_X_reckon_11 rfl (lv_at hl 3 rfl) ?_
      obtain ⟨r10, er10, h⟩ := hx_b1s h
      refine hx_rd (va_runV (As := [.int x2, .int x3]) (rest := []) ⟨hx, hb, hml, hown, hts⟩ (c_X_isPattern l D T3 ad σ x2 x3 _ er10) (cwV 2 hts (hx_gV hx_cons k_252 k_254 k_0 k_50 k_255) rfl rfl rfl (by decide +kernel) ⟨Nat.le_of_ble_eq_true rfl, Nat.le_of_ble_eq_true rfl⟩) (hx_preV (va_recv hK hP (ci := 0) (q0 := 0) rfl hx_at_X) hP hK) rfl rfl hl.1 rfl (lv_room (Nat.le_of_ble_eq_true rfl)) d_X_reckon_12 ⟨Nat.zero_le _, Nat.zero_le _⟩) ?_
      refine lv_if_eq (tgt := 45) hx hb d_X_reckon_15 (by decide) (fun c11 => ?_) (fun c11 => ?_)
      · replace h := hx_ip c11 h
        refine lv_ldc2 (v := -2) hx hb hown (hts _ (hx_cons _ k_291)) d_X_reckon_45 ?_
        exact W.lret hx hb hr (fun t ht hW => hx_endj h ht hW hP hK hD hS) hS.2.2 d_X_reckon_48
      · replace h := hx_in c11 h
        refine lv_aload_n hx hb d_X_reckon_18 rfl (lv_at hl 0 rfl) ?_
        refine lv_iload hx hb d_X_reckon_19 (lv_at hl 4 rfl) ?_
        refine lv_iload hx hb d_X_reckon_21 (lv_at hl 5 rfl) ?_
        obtain ⟨r12, er12, h⟩ := hx_b1s h
        refine hx_rd (va_runV (As := [.int x4, .int x5]) (rest := []) ⟨hx, hb, hml, hown, hts⟩ (c_X_isPattern l D T3 ad σ x4 x5 _ er12) (cwV 2 hts (hx_gV hx_cons k_252 k_254 k_0 k_50 k_255) rfl rfl rfl (by decide +kernel) ⟨Nat.le_of_ble_eq_true rfl, Nat.le_of_ble_eq_true rfl⟩) (hx_preV (va_recv hK hP (ci := 0) (q0 := 0) rfl hx_at_X) hP hK) rfl rfl hl.1 rfl (lv_room (Nat.le_of_ble_eq_true rfl)) d_X_reckon_23 ⟨Nat.zero_le _, Nat.zero_le _⟩) ?_
        refine lv_if_eq (tgt := 45) hx hb d_X_reckon_26 (by decide) (fun c13 => ?_) (fun c13 => ?_)
        · replace h := hx_ip c13 h
          refine lv_ldc2 (v := -2) hx hb hown (hts _ (hx_cons _ k_291)) d_X_reckon_45 ?_
          exact W.lret hx hb hr (fun t ht hW => hx_endj h ht hW hP hK hD hS) hS.2.2 d_X_reckon_48
        · replace h := hx_in c13 h
          refine lv_iload hx hb d_X_reckon_29 (lv_at hl 6 rfl) ?_
          obtain ⟨r14, er14, h⟩ := hx_b1s h
          refine hx_rd (va_runS (As := [.int x6]) (rest := []) ⟨hx, hb, hml, hown, hts⟩ (c_X_isFormat l D T3 x6 _ er14) (va_cwS 1 hts (hx_gS hx_cons k_236 k_237 k_50 k_238) rfl rfl rfl (by decide +kernel) ⟨Nat.le_of_ble_eq_true rfl, Nat.le_of_ble_eq_true rfl⟩) (hx_preS hx_nil hK) rfl rfl hl.1 rfl (lv_room (Nat.le_of_ble_eq_true rfl)) d_X_reckon_31 ⟨Nat.zero_le _, Nat.zero_le _⟩) ?_
          refine lv_if_eq (tgt := 45) hx hb d_X_reckon_34 (by decide) (fun c15 => ?_) (fun c15 => ?_)
          · replace h := hx_ip c15 h
            refine lv_ldc2 (v := -2) hx hb hown (hts _ (hx_cons _ k_291)) d_X_reckon_45 ?_
            exact W.lret hx hb hr (fun t ht hW => hx_endj h ht hW hP hK hD hS) hS.2.2 d_X_reckon_48
          · replace h := hx_in c15 h
            refine lv_iload hx hb d_X_reckon_37 (lv_at hl 7 rfl) ?_
            obtain ⟨r16, er16, h⟩ := hx_b1s h
            refine hx_rd (va_runS (As := [.int x7]) (rest := []) ⟨hx, hb, hml, hown, hts⟩ (c_X_isWay l D T3 x7 _ er16) (va_cwS 1 hts (hx_gS hx_cons k_288 k_289 k_50 k_290) rfl rfl rfl (by decide +kernel) ⟨Nat.le_of_ble_eq_true rfl, Nat.le_of_ble_eq_true rfl⟩) (hx_preS hx_nil hK) rfl rfl hl.1 rfl (lv_room (Nat.le_of_ble_eq_true rfl)) d_X_reckon_39 ⟨Nat.zero_le _, Nat.zero_le _⟩) ?_
            refine lv_if_ne (tgt := 49) hx hb d_X_reckon_42 (by decide) (fun c17 => ?_) (fun c17 => ?_)
            · replace h := hx_in c17 h
              refine lv_aload_n hx hb d_X_reckon_49 rfl (lv_at hl 0 rfl) ?_
              refine va_get (D := D) (ci := 0) (v := .ref (ad 10)) (C := "HalfFloats") (T := T_X) (N := 9) hx hb hts (hx_up in_X) hown hK hP (0) hx_at_X rfl 3 (by decide) (hts _ (hx_cons _ k_207)) (fun _ h9 => h9) rfl d_X_reckon_50 ?_
              obtain ⟨q18, eq18, h⟩ := hx_b1s h
              refine hx_wv (va_runV (As := []) (rest := []) ⟨hx, hb, hml, hown, hts⟩ (c_E_begin l D T3 ad _ σ _ eq18) (cwV 0 hts (hx_gV hx_cons k_350 k_351 k_352 k_53 k_353) rfl rfl rfl (by decide +kernel) ⟨Nat.le_of_ble_eq_true rfl, Nat.le_of_ble_eq_true rfl⟩) (hx_preVw (va_recv hK hP (ci := 3) (q0 := 10) rfl hx_at_E) hP hK hD) rfl rfl hl.1 rfl (lv_room (Nat.le_of_ble_eq_true rfl)) d_X_reckon_53 ⟨Nat.zero_le _, Nat.zero_le _⟩) hD hS hA (fun H locs hP hD hS => ?_)
              refine lv_iload_n hx hb d_X_reckon_56 rfl (lv_at hl 1 rfl) ?_
              refine lv_iconst (v := 2) hx hb d_X_reckon_57 (by decide) ?_
              refine lv_icmp_ne (tgt := 87) hx hb d_X_reckon_58 (by decide) (fun c19 => ?_) (fun c19 => ?_)
              · replace h := hx_in c19 h
                refine lv_aload_n hx hb d_X_reckon_87 rfl (lv_at hl 0 rfl) ?_
                refine va_get (D := D) (ci := 0) (v := .ref (ad 10)) (C := "HalfFloats") (T := T_X) (N := 9) hx hb hts (hx_up in_X) hown hK hP (0) hx_at_X rfl 3 (by decide) (hts _ (hx_cons _ k_207)) (fun _ h9 => h9) rfl d_X_reckon_88 ?_
                refine lv_aload_n hx hb d_X_reckon_91 rfl (lv_at hl 0 rfl) ?_
                refine va_get (D := D) (ci := 0) (v := .ref (ad 1)) (C := "HalfFloats") (T := T_X) (N := 9) hx hb hts (hx_up in_X) hown hK hP (0) hx_at_X rfl 0 (by decide) (hts _ (hx_cons _ k_204)) (fun _ h9 => h9) rfl d_X_reckon_92 ?_
                refine lv_iload_n hx hb d_X_reckon_95 rfl (lv_at hl 2 rfl) ?_
                obtain ⟨g20, h⟩ := hx_gs h
                refine va_aldq hx hb hK hP (1) 0 hx_at_FA rfl g20 d_X_reckon_96 ?_
                refine lv_iload_n hx hb d_X_reckon_97 rfl (lv_at hl 3 rfl) ?_
                refine lv_iconst (v := 0) hx hb d_X_reckon_98 (by decide) ?_
                obtain ⟨q21, eq21, h⟩ := hx_b1s h
                refine hx_wv (va_runV (As := [.ref (ad (2 + x2.toNatClampNeg)), .int x3, .int (0 : Int32)]) (rest := []) ⟨hx, hb, hml, hown, hts⟩ (c_E_addValue l D T3 ad _ q18 x2.toNatClampNeg x3 (0 : Int32) (hx_lt g20) _ eq21) (cwV 3 hts (hx_gV hx_cons k_379 k_380 k_381 k_53 k_382) rfl rfl rfl (by decide +kernel) ⟨Nat.le_of_ble_eq_true rfl, Nat.le_of_ble_eq_true rfl⟩) (hx_preVw (va_recv hK hP (ci := 3) (q0 := 10) rfl hx_at_E) hP hK hD) rfl rfl hl.1 rfl (lv_room (Nat.le_of_ble_eq_true rfl)) d_X_reckon_99 ⟨Nat.zero_le _, Nat.zero_le _⟩) hD hS hA (fun H locs hP hD hS => ?_)
                refine lv_aload_n hx hb d_X_reckon_102 rfl (lv_at hl 0 rfl) ?_
                refine va_get (D := D) (ci := 0) (v := .ref (ad 10)) (C := "HalfFloats") (T := T_X) (N := 9) hx hb hts (hx_up in_X) hown hK hP (0) hx_at_X rfl 3 (by decide) (hts _ (hx_cons _ k_207)) (fun _ h9 => h9) rfl d_X_reckon_103 ?_
                refine lv_aload_n hx hb d_X_reckon_106 rfl (lv_at hl 0 rfl) ?_
                refine va_get (D := D) (ci := 0) (v := .ref (ad 1)) (C := "HalfFloats") (T := T_X) (N := 9) hx hb hts (hx_up in_X) hown hK hP (0) hx_at_X rfl 0 (by decide) (hts _ (hx_cons _ k_204)) (fun _ h9 => h9) rfl d_X_reckon_107 ?_
                refine lv_iload hx hb d_X_reckon_110 (lv_at hl 4 rfl) ?_
                obtain ⟨g22, h⟩ := hx_gs h
                refine va_aldq hx hb hK hP (1) 0 hx_at_FA rfl g22 d_X_reckon_112 ?_
                refine lv_iload hx hb d_X_reckon_113 (lv_at hl 5 rfl) ?_
                refine lv_iload_n hx hb d_X_reckon_115 rfl (lv_at hl 1 rfl) ?_
                refine lv_iconst (v := 1) hx hb d_X_reckon_116 (by decide) ?_
                refine lv_icmp_ne (tgt := 124) hx hb d_X_reckon_117 (by decide) (fun c23 => ?_) (fun c23 => ?_)
                · replace h := hx_in c23 h
                  refine lv_iconst (v := 0) hx hb d_X_reckon_124 (by decide) ?_
                  exact B_125 q21 x6 x7 x4.toNatClampNeg x5 (0 : Int32) _ _ ls hP hD hS (hx_lt g22) (lv_sub hl [0, 6, 7] rfl) h
                · replace h := hx_ip c23 h
                  refine lv_iconst (v := 1) hx hb d_X_reckon_120 (by decide) ?_
                  refine lv_goto (tgt := 125) hx hb d_X_reckon_121 (by decide) ?_
                  exact B_125 q21 x6 x7 x4.toNatClampNeg x5 (1 : Int32) _ _ ls hP hD hS (hx_lt g22) (lv_sub hl [0, 6, 7] rfl) h
              · replace h := hx_ip c19 h
                refine lv_aload_n hx hb d_X_reckon_61 rfl (lv_at hl 0 rfl) ?_
                refine va_get (D := D) (ci := 0) (v := .ref (ad 10)) (C := "HalfFloats") (T := T_X) (N := 9) hx hb hts (hx_up in_X) hown hK hP (0) hx_at_X rfl 3 (by decide) (hts _ (hx_cons _ k_207)) (fun _ h9 => h9) rfl d_X_reckon_62 ?_
                refine lv_aload_n hx hb d_X_reckon_65 rfl (lv_at hl 0 rfl) ?_
                refine va_get (D := D) (ci := 0) (v := .ref (ad 1)) (C := "HalfFloats") (T := T_X) (N := 9) hx hb hts (hx_up in_X) hown hK hP (0) hx_at_X rfl 0 (by decide) (hts _ (hx_cons _ k_204)) (fun _ h9 => h9) rfl d_X_reckon_66 ?_
                refine lv_iload_n hx hb d_X_reckon_69 rfl (lv_at hl 2 rfl) ?_
                obtain ⟨g36, h⟩ := hx_gs h
                refine va_aldq hx hb hK hP (1) 0 hx_at_FA rfl g36 d_X_reckon_70 ?_
                refine lv_iload_n hx hb d_X_reckon_71 rfl (lv_at hl 3 rfl) ?_
                refine lv_aload_n hx hb d_X_reckon_72 rfl (lv_at hl 0 rfl) ?_
                refine va_get (D := D) (ci := 0) (v := .ref (ad 1)) (C := "HalfFloats") (T := T_X) (N := 9) hx hb hts (hx_up in_X) hown hK hP (0) hx_at_X rfl 0 (by decide) (hts _ (hx_cons _ k_204)) (fun _ h9 => h9) rfl d_X_reckon_73 ?_
                refine lv_iload hx hb d_X_reckon_76 (lv_at hl 4 rfl) ?_
                obtain ⟨g37, h⟩ := hx_gs h
                refine va_aldq hx hb hK hP (1) 0 hx_at_FA rfl g37 d_X_reckon_78 ?_
                refine lv_iload hx hb d_X_reckon_79 (lv_at hl 5 rfl) ?_
                obtain ⟨q38, eq38, h⟩ := hx_b1s h
                refine hx_wv (va_runV (As := [.ref (ad (2 + x2.toNatClampNeg)), .int x3, .ref (ad (2 + x4.toNatClampNeg)), .int x5]) (rest := []) ⟨hx, hb, hml, hown, hts⟩ (c_E_addProduct l D T3 ad _ q18 x2.toNatClampNeg x3 x4.toNatClampNeg x5 (hx_lt g36) (hx_lt g37) _ eq38) (cwV 4 hts (hx_gV hx_cons k_354 k_355 k_356 k_53 k_357) rfl rfl rfl (by decide +kernel) ⟨Nat.le_of_ble_eq_true rfl, Nat.le_of_ble_eq_true rfl⟩) (hx_preVw (va_recv hK hP (ci := 3) (q0 := 10) rfl hx_at_E) hP hK hD) rfl rfl hl.1 rfl (lv_room (Nat.le_of_ble_eq_true rfl)) d_X_reckon_81 ⟨Nat.zero_le _, Nat.zero_le _⟩) hD hS hA (fun H locs hP hD hS => ?_)
                refine lv_goto (tgt := 128) hx hb d_X_reckon_84 (by decide) ?_
                exact B_128 q38 x6 x7 _ _ ls hP hD hS (lv_sub hl [0, 6, 7] rfl) h
            · replace h := hx_ip c17 h
              refine lv_ldc2 (v := -2) hx hb hown (hts _ (hx_cons _ k_291)) d_X_reckon_45 ?_
              exact W.lret hx hb hr (fun t ht hW => hx_endj h ht hW hP hK hD hS) hS.2.2 d_X_reckon_48
abbrev m_X_fused : Room := { frames := 5, cells := 0, slots := 0, locals := 112 }
set_option maxHeartbeats 4000000 in
set_option maxRecDepth 100000 in
theorem c_X_fused (l : Launch) (D : va_G) (T3 : hx_T3) (ad : Nat → Nat) (sz : Nat) (σ : hx_S) (x1 : Int32) (x2 : Int32) (x3 : Int32) (x4 : Int32) (x5 : Int32) (x6 : Int32) (r0 : Int64) (σ0 : hx_S) (h : f_X_fused σ x1 x2 x3 x4 x5 x6 = some (r0, σ0)) : hx_Wj l D (hx_ty T3) y_X_fused w_X_fused m_X_fused [.ref (ad 0), .int x1, .int x2, .int x3, .int x4, .int x5, .int x6] sz (hx_W T3 ad σ) r0 (hx_W T3 ad σ0) := by
  refine Met.ofW (cc := b_X_fused) (maxL := 7) (ret := (some .long)) (by decide) rfl ?_
  intro p e s m args below meth c s₁ B hml hv
  obtain ⟨hargs, hsz, hP, hK, hD0⟩ := hv
  have hx := B.exec
  have hb := B.bytes
  have hr := B.returns
  have hts := atoms_spec (ws := w_X_fused) B.pre
  have hown : s.vm.findClass "HalfFloats" = some m.cls := findClass_of_methodNamed B.named
  have hlocks := B.notSynchronized
  subst hsz
  have hD := hD0.self (sz := s.heap.size)
  generalize hAe : va_A (hx_W T3 ad σ) s.heap.size = A at hD ⊢
  have hA : ∀ q : Nat, s.heap.size ≤ q → A q := fun q h => by rw [← hAe]; exact Or.inr h
  have hS : va_S A s.heap s.heap [] := va_S.rf
  refine W.eq (g2 := F0 m 0 ((lg_sl [.ref (ad 0), .int x1, .int x2, .int x3, .int x4, .int x5, .int x6] ++ List.replicate (7 - (lg_sl [.ref (ad 0), .int x1, .int x2, .int x3, .int x4, .int x5, .int x6]).length) Slot.unset).toArray) []) (by rw [hargs, lg_entry_eq]) ?_
  have hl := lv_entry ([.ref (ad 0), .int x1, .int x2, .int x3, .int x4, .int x5, .int x6]) (n := 7) (Nat.le_of_ble_eq_true rfl)
  generalize (lg_sl ([.ref (ad 0), .int x1, .int x2, .int x3, .int x4, .int x5, .int x6]) ++ List.replicate (7 - (lg_sl ([.ref (ad 0), .int x1, .int x2, .int x3, .int x4, .int x5, .int x6])).length) Slot.unset).toArray = ls at hl ⊢
  have hl : lv_has ls 7 [(0, .ref (ad 0)), (1, .int x1), (2, .int x2), (3, .int x3), (4, .int x4), (5, .int x5), (6, .int x6)] := hl
  rw [f_X_fused] at h
  refine lv_aload_n hx hb d_X_fused_0 rfl (lv_at hl 0 rfl) ?_
  refine lv_iload_n hx hb d_X_fused_1 rfl (lv_at hl 1 rfl) ?_
  refine lv_iload_n hx hb d_X_fused_2 rfl (lv_at hl 2 rfl) ?_
  obtain ⟨r7, er7, h⟩ := hx_b1s h
  refine hx_rd (va_runV (As := [.int x1, .int x2]) (rest := []) ⟨hx, hb, hml, hown, hts⟩ (c_X_isPattern l D T3 ad σ x1 x2 _ er7) (cwV 2 hts (hx_gV hx_cons k_252 k_254 k_0 k_50 k_255) rfl rfl rfl (by decide +kernel) ⟨Nat.le_of_ble_eq_true rfl, Nat.le_of_ble_eq_true rfl⟩) (hx_preV (va_recv hK hP (ci := 0) (q0 := 0) rfl hx_at_X) hP hK) rfl rfl hl.1 rfl (lv_room (Nat.le_of_ble_eq_true rfl)) d_X_fused_3 ⟨Nat.zero_le _, Nat.zero_le _⟩) ?_
  refine lv_if_eq (tgt := 37) hx hb d_X_fused_6 (by decide) (fun c8 => ?_) (fun c8 => ?_)
  · replace h := hx_ip c8 h
    refine lv_ldc2 (v := -2) hx hb hown (hts _ (hx_cons _ k_291)) d_X_fused_37 ?_
    exact W.lret hx hb hr (fun t ht hW => hx_endj h ht hW hP hK hD hS) hS.2.2 d_X_fused_40
  · replace h := hx_in c8 h
    refine lv_aload_n hx hb d_X_fused_9 rfl (lv_at hl 0 rfl) ?_
    refine lv_iload_n hx hb d_X_fused_10 rfl (lv_at hl 1 rfl) ?_
    refine lv_iload_n hx hb d_X_fused_11 rfl (lv_at hl 3 rfl) ?_
    obtain ⟨r9, er9, h⟩ := hx_b1s h
    refine hx_rd (va_runV (As := [.int x1, .int x3]) (rest := []) ⟨hx, hb, hml, hown, hts⟩ (c_X_isPattern l D T3 ad σ x1 x3 _ er9) (cwV 2 hts (hx_gV hx_cons k_252 k_254 k_0 k_50 k_255) rfl rfl rfl (by decide +kernel) ⟨Nat.le_of_ble_eq_true rfl, Nat.le_of_ble_eq_true rfl⟩) (hx_preV (va_recv hK hP (ci := 0) (q0 := 0) rfl hx_at_X) hP hK) rfl rfl hl.1 rfl (lv_room (Nat.le_of_ble_eq_true rfl)) d_X_fused_12 ⟨Nat.zero_le _, Nat.zero_le _⟩) ?_
    refine lv_if_eq (tgt := 37) hx hb d_X_fused_15 (by decide) (fun c10 => ?_) (fun c10 => ?_)
    · replace h := hx_ip c10 h
      refine lv_ldc2 (v := -2) hx hb hown (hts _ (hx_cons _ k_291)) d_X_fused_37 ?_
      exact W.lret hx hb hr (fun t ht hW => hx_endj h ht hW hP hK hD hS) hS.2.2 d_X_fused_40
    · replace h := hx_in c10 h
      refine lv_aload_n hx hb d_X_fused_18 rfl (lv_at hl 0 rfl) ?_
      refine lv_iload hx hb d_X_fused_19 (lv_at hl 4 rfl) ?_
      refine lv_iload hx hb d_X_fused_21 (lv_at hl 5 rfl) ?_
      obtain ⟨r11, er11, h⟩ := hx_b1s h
      refine hx_rd (va_runV (As := [.int x4, .int x5]) (rest := []) ⟨hx, hb, hml, hown, hts⟩ (c_X_isPattern l D T3 ad σ x4 x5 _ er11) (cwV 2 hts (hx_gV hx_cons k_252 k_254 k_0 k_50 k_255) rfl rfl rfl (by decide +kernel) ⟨Nat.le_of_ble_eq_true rfl, Nat.le_of_ble_eq_true rfl⟩) (hx_preV (va_recv hK hP (ci := 0) (q0 := 0) rfl hx_at_X) hP hK) rfl rfl hl.1 rfl (lv_room (Nat.le_of_ble_eq_true rfl)) d_X_fused_23 ⟨Nat.zero_le _, Nat.zero_le _⟩) ?_
      refine lv_if_eq (tgt := 37) hx hb d_X_fused_26 (by decide) (fun c12 => ?_) (fun c12 => ?_)
      · replace h := hx_ip c12 h
        refine lv_ldc2 (v := -2) hx hb hown (hts _ (hx_cons _ k_291)) d_X_fused_37 ?_
        exact W.lret hx hb hr (fun t ht hW => hx_endj h ht hW hP hK hD hS) hS.2.2 d_X_fused_40
      · replace h := hx_in c12 h
        refine lv_iload hx hb d_X_fused_29 (lv_at hl 6 rfl) ?_
        obtain ⟨r13, er13, h⟩ := hx_b1s h
        refine hx_rd (va_runS (As := [.int x6]) (rest := []) ⟨hx, hb, hml, hown, hts⟩ (c_X_isWay l D T3 x6 _ er13) (va_cwS 1 hts (hx_gS hx_cons k_288 k_289 k_50 k_290) rfl rfl rfl (by decide +kernel) ⟨Nat.le_of_ble_eq_true rfl, Nat.le_of_ble_eq_true rfl⟩) (hx_preS hx_nil hK) rfl rfl hl.1 rfl (lv_room (Nat.le_of_ble_eq_true rfl)) d_X_fused_31 ⟨Nat.zero_le _, Nat.zero_le _⟩) ?_
        refine lv_if_ne (tgt := 41) hx hb d_X_fused_34 (by decide) (fun c14 => ?_) (fun c14 => ?_)
        · replace h := hx_in c14 h
          refine lv_aload_n hx hb d_X_fused_41 rfl (lv_at hl 0 rfl) ?_
          refine va_get (D := D) (ci := 0) (v := .ref (ad 10)) (C := "HalfFloats") (T := T_X) (N := 9) hx hb hts (hx_up in_X) hown hK hP (0) hx_at_X rfl 3 (by decide) (hts _ (hx_cons _ k_207)) (fun _ h9 => h9) rfl d_X_fused_42 ?_
          obtain ⟨q15, eq15, h⟩ := hx_b1s h
          refine hx_wv (va_runV (As := []) (rest := []) ⟨hx, hb, hml, hown, hts⟩ (c_E_begin l D T3 ad _ σ _ eq15) (cwV 0 hts (hx_gV hx_cons k_350 k_351 k_352 k_53 k_353) rfl rfl rfl (by decide +kernel) ⟨Nat.le_of_ble_eq_true rfl, Nat.le_of_ble_eq_true rfl⟩) (hx_preVw (va_recv hK hP (ci := 3) (q0 := 10) rfl hx_at_E) hP hK hD) rfl rfl hl.1 rfl (lv_room (Nat.le_of_ble_eq_true rfl)) d_X_fused_45 ⟨Nat.zero_le _, Nat.zero_le _⟩) hD hS hA (fun H locs hP hD hS => ?_)
          refine lv_aload_n hx hb d_X_fused_48 rfl (lv_at hl 0 rfl) ?_
          refine va_get (D := D) (ci := 0) (v := .ref (ad 10)) (C := "HalfFloats") (T := T_X) (N := 9) hx hb hts (hx_up in_X) hown hK hP (0) hx_at_X rfl 3 (by decide) (hts _ (hx_cons _ k_207)) (fun _ h9 => h9) rfl d_X_fused_49 ?_
          refine lv_aload_n hx hb d_X_fused_52 rfl (lv_at hl 0 rfl) ?_
          refine va_get (D := D) (ci := 0) (v := .ref (ad 1)) (C := "HalfFloats") (T := T_X) (N := 9) hx hb hts (hx_up in_X) hown hK hP (0) hx_at_X rfl 0 (by decide) (hts _ (hx_cons _ k_204)) (fun _ h9 => h9) rfl d_X_fused_53 ?_
          refine lv_iload_n hx hb d_X_fused_56 rfl (lv_at hl 1 rfl) ?_
          obtain ⟨g16, h⟩ := hx_gs h
          refine va_aldq hx hb hK hP (1) 0 hx_at_FA rfl g16 d_X_fused_57 ?_
          refine lv_iload_n hx hb d_X_fused_58 rfl (lv_at hl 2 rfl) ?_
          refine lv_aload_n hx hb d_X_fused_59 rfl (lv_at hl 0 rfl) ?_
          refine va_get (D := D) (ci := 0) (v := .ref (ad 1)) (C := "HalfFloats") (T := T_X) (N := 9) hx hb hts (hx_up in_X) hown hK hP (0) hx_at_X rfl 0 (by decide) (hts _ (hx_cons _ k_204)) (fun _ h9 => h9) rfl d_X_fused_60 ?_
          refine lv_iload_n hx hb d_X_fused_63 rfl (lv_at hl 1 rfl) ?_
          obtain ⟨g17, h⟩ := hx_gs h
          refine va_aldq hx hb hK hP (1) 0 hx_at_FA rfl g17 d_X_fused_64 ?_
          refine lv_iload_n hx hb d_X_fused_65 rfl (lv_at hl 3 rfl) ?_
          obtain ⟨q18, eq18, h⟩ := hx_b1s h
          refine hx_wv (va_runV (As := [.ref (ad (2 + x1.toNatClampNeg)), .int x2, .ref (ad (2 + x1.toNatClampNeg)), .int x3]) (rest := []) ⟨hx, hb, hml, hown, hts⟩ (c_E_addProduct l D T3 ad _ q15 x1.toNatClampNeg x2 x1.toNatClampNeg x3 (hx_lt g16) (hx_lt g17) _ eq18) (cwV 4 hts (hx_gV hx_cons k_354 k_355 k_356 k_53 k_357) rfl rfl rfl (by decide +kernel) ⟨Nat.le_of_ble_eq_true rfl, Nat.le_of_ble_eq_true rfl⟩) (hx_preVw (va_recv hK hP (ci := 3) (q0 := 10) rfl hx_at_E) hP hK hD) rfl rfl hl.1 rfl (lv_room (Nat.le_of_ble_eq_true rfl)) d_X_fused_66 ⟨Nat.zero_le _, Nat.zero_le _⟩) hD hS hA (fun H locs hP hD hS => ?_)
          refine lv_aload_n hx hb d_X_fused_69 rfl (lv_at hl 0 rfl) ?_
          refine va_get (D := D) (ci := 0) (v := .ref (ad 10)) (C := "HalfFloats") (T := T_X) (N := 9) hx hb hts (hx_up in_X) hown hK hP (0) hx_at_X rfl 3 (by decide) (hts _ (hx_cons _ k_207)) (fun _ h9 => h9) rfl d_X_fused_70 ?_
          refine lv_aload_n hx hb d_X_fused_73 rfl (lv_at hl 0 rfl) ?_
          refine va_get (D := D) (ci := 0) (v := .ref (ad 1)) (C := "HalfFloats") (T := T_X) (N := 9) hx hb hts (hx_up in_X) hown hK hP (0) hx_at_X rfl 0 (by decide) (hts _ (hx_cons _ k_204)) (fun _ h9 => h9) rfl d_X_fused_74 ?_
          refine lv_iload hx hb d_X_fused_77 (lv_at hl 4 rfl) ?_
          obtain ⟨g19, h⟩ := hx_gs h
          refine va_aldq hx hb hK hP (1) 0 hx_at_FA rfl g19 d_X_fused_79 ?_
          refine lv_iload hx hb d_X_fused_80 (lv_at hl 5 rfl) ?_
          refine lv_iconst (v := 0) hx hb d_X_fused_82 (by decide) ?_
          obtain ⟨q20, eq20, h⟩ := hx_b1s h
          refine hx_wv (va_runV (As := [.ref (ad (2 + x4.toNatClampNeg)), .int x5, .int (0 : Int32)]) (rest := []) ⟨hx, hb, hml, hown, hts⟩ (c_E_addValue l D T3 ad _ q18 x4.toNatClampNeg x5 (0 : Int32) (hx_lt g19) _ eq20) (cwV 3 hts (hx_gV hx_cons k_379 k_380 k_381 k_53 k_382) rfl rfl rfl (by decide +kernel) ⟨Nat.le_of_ble_eq_true rfl, Nat.le_of_ble_eq_true rfl⟩) (hx_preVw (va_recv hK hP (ci := 3) (q0 := 10) rfl hx_at_E) hP hK hD) rfl rfl hl.1 rfl (lv_room (Nat.le_of_ble_eq_true rfl)) d_X_fused_83 ⟨Nat.zero_le _, Nat.zero_le _⟩) hD hS hA (fun H locs hP hD hS => ?_)
          refine lv_aload_n hx hb d_X_fused_86 rfl (lv_at hl 0 rfl) ?_
          refine va_get (D := D) (ci := 0) (v := .ref (ad 12)) (C := "HalfFloats") (T := T_X) (N := 9) hx hb hts (hx_up in_X) hown hK hP (0) hx_at_X rfl 4 (by decide) (hts _ (hx_cons _ k_208)) (fun _ h9 => h9) rfl d_X_fused_87 ?_
          refine lv_aload_n hx hb d_X_fused_90 rfl (lv_at hl 0 rfl) ?_
          refine va_get (D := D) (ci := 0) (v := .ref (ad 10)) (C := "HalfFloats") (T := T_X) (N := 9) hx hb hts (hx_up in_X) hown hK hP (0) hx_at_X rfl 3 (by decide) (hts _ (hx_cons _ k_207)) (fun _ h9 => h9) rfl d_X_fused_91 ?_
          refine lv_aload_n hx hb d_X_fused_94 rfl (lv_at hl 0 rfl) ?_
          refine va_get (D := D) (ci := 0) (v := .ref (ad 1)) (C := "HalfFloats") (T := T_X) (N := 9) hx hb hts (hx_up in_X) hown hK hP (0) hx_at_X rfl 0 (by decide) (hts _ (hx_cons _ k_204)) (fun _ h9 => h9) rfl d_X_fused_95 ?_
          refine lv_iload hx hb d_X_fused_98 (lv_at hl 4 rfl) ?_
          obtain ⟨g21, h⟩ := hx_gs h
          refine va_aldq hx hb hK hP (1) 0 hx_at_FA rfl g21 d_X_fused_100 ?_
          refine lv_iload hx hb d_X_fused_101 (lv_at hl 6 rfl) ?_
          obtain ⟨r23, q22, eq22, h⟩ := hx_b2s h
          refine hx_wi (va_runV (As := [.ref (ad 10), .ref (ad (2 + x4.toNatClampNeg)), .int x6]) (rest := []) ⟨hx, hb, hml, hown, hts⟩ (c_D_rounded l D T3 ad _ q20 x4.toNatClampNeg x6 (hx_lt g21) _ _ eq22) (cwV 3 hts (hx_gV hx_cons k_383 k_384 k_385 k_54 k_386) rfl rfl rfl (by decide +kernel) ⟨Nat.le_of_ble_eq_true rfl, Nat.le_of_ble_eq_true rfl⟩) (hx_preVw (va_recv hK hP (ci := 4) (q0 := 12) rfl hx_at_D) hP hK hD) rfl rfl hl.1 rfl (lv_room (Nat.le_of_ble_eq_true rfl)) d_X_fused_103 ⟨Nat.zero_le _, Nat.zero_le _⟩) hD hS hA (fun H locs hP hD hS => ?_)
          obtain ⟨r24, er24, h⟩ := hx_b1s h
          refine hx_rd (va_runS (As := [.int r23]) (rest := []) ⟨hx, hb, hml, hown, hts⟩ (c_X_bits l D T3 r23 _ er24) (va_cwS 1 hts (hx_gS hx_cons k_342 k_343 k_50 k_344) rfl rfl rfl (by decide +kernel) ⟨Nat.le_of_ble_eq_true rfl, Nat.le_of_ble_eq_true rfl⟩) (hx_preS hx_nil hK) rfl rfl hl.1 rfl (lv_room (Nat.le_of_ble_eq_true rfl)) d_X_fused_106 ⟨Nat.zero_le _, Nat.zero_le _⟩) ?_
          exact W.lret hx hb hr (fun t ht hW => hx_endj h ht hW hP hK hD hS) hS.2.2 d_X_fused_109
        · replace h := hx_ip c14 h
          refine lv_ldc2 (v := -2) hx hb hown (hts _ (hx_cons _ k_291)) d_X_fused_37 ?_
          exact W.lret hx hb hr (fun t ht hW => hx_endj h ht hW hP hK hD hS) hS.2.2 d_X_fused_40
abbrev m_X_compare : Room := { frames := 5, cells := 0, slots := 0, locals := 109 }
set_option maxHeartbeats 4000000 in
set_option maxRecDepth 100000 in
theorem c_X_compare (l : Launch) (D : va_G) (T3 : hx_T3) (ad : Nat → Nat) (sz : Nat) (σ : hx_S) (x1 : Int32) (x2 : Int32) (x3 : Int32) (x4 : Int32) (r0 : Int32) (σ0 : hx_S) (h : f_X_compare σ x1 x2 x3 x4 = some (r0, σ0)) : hx_Wi l D (hx_ty T3) y_X_compare w_X_compare m_X_compare [.ref (ad 0), .int x1, .int x2, .int x3, .int x4] sz (hx_W T3 ad σ) r0 (hx_W T3 ad σ0) := by
  refine Met.ofW (cc := b_X_compare) (maxL := 5) (ret := (some .int)) (by decide) rfl ?_
  intro p e s m args below meth c s₁ B hml hv
  obtain ⟨hargs, hsz, hP, hK, hD0⟩ := hv
  have hx := B.exec
  have hb := B.bytes
  have hr := B.returns
  have hts := atoms_spec (ws := w_X_compare) B.pre
  have hown : s.vm.findClass "HalfFloats" = some m.cls := findClass_of_methodNamed B.named
  have hlocks := B.notSynchronized
  subst hsz
  have hD := hD0.self (sz := s.heap.size)
  generalize hAe : va_A (hx_W T3 ad σ) s.heap.size = A at hD ⊢
  have hA : ∀ q : Nat, s.heap.size ≤ q → A q := fun q h => by rw [← hAe]; exact Or.inr h
  have hS : va_S A s.heap s.heap [] := va_S.rf
  refine W.eq (g2 := F0 m 0 ((lg_sl [.ref (ad 0), .int x1, .int x2, .int x3, .int x4] ++ List.replicate (5 - (lg_sl [.ref (ad 0), .int x1, .int x2, .int x3, .int x4]).length) Slot.unset).toArray) []) (by rw [hargs, lg_entry_eq]) ?_
  have hl := lv_entry ([.ref (ad 0), .int x1, .int x2, .int x3, .int x4]) (n := 5) (Nat.le_of_ble_eq_true rfl)
  generalize (lg_sl ([.ref (ad 0), .int x1, .int x2, .int x3, .int x4]) ++ List.replicate (5 - (lg_sl ([.ref (ad 0), .int x1, .int x2, .int x3, .int x4])).length) Slot.unset).toArray = ls at hl ⊢
  have hl : lv_has ls 5 [(0, .ref (ad 0)), (1, .int x1), (2, .int x2), (3, .int x3), (4, .int x4)] := hl
  rw [f_X_compare] at h
  refine lv_aload_n hx hb d_X_compare_0 rfl (lv_at hl 0 rfl) ?_
  refine lv_iload_n hx hb d_X_compare_1 rfl (lv_at hl 1 rfl) ?_
  refine lv_iload_n hx hb d_X_compare_2 rfl (lv_at hl 2 rfl) ?_
  obtain ⟨r5, er5, h⟩ := hx_b1s h
  refine hx_rd (va_runV (As := [.int x1, .int x2]) (rest := []) ⟨hx, hb, hml, hown, hts⟩ (c_X_isPattern l D T3 ad σ x1 x2 _ er5) (cwV 2 hts (hx_gV hx_cons k_252 k_254 k_0 k_50 k_255) rfl rfl rfl (by decide +kernel) ⟨Nat.le_of_ble_eq_true rfl, Nat.le_of_ble_eq_true rfl⟩) (hx_preV (va_recv hK hP (ci := 0) (q0 := 0) rfl hx_at_X) hP hK) rfl rfl hl.1 rfl (lv_room (Nat.le_of_ble_eq_true rfl)) d_X_compare_3 ⟨Nat.zero_le _, Nat.zero_le _⟩) ?_
  refine lv_if_eq (tgt := 19) hx hb d_X_compare_6 (by decide) (fun c6 => ?_) (fun c6 => ?_)
  · replace h := hx_ip c6 h
    refine lv_bipush (v := -2) hx hb d_X_compare_19 (by decide) ?_
    exact W.iret hx hb hr (fun t ht hW => hx_endi h ht hW hP hK hD hS) hS.2.2 d_X_compare_21
  · replace h := hx_in c6 h
    refine lv_aload_n hx hb d_X_compare_9 rfl (lv_at hl 0 rfl) ?_
    refine lv_iload_n hx hb d_X_compare_10 rfl (lv_at hl 3 rfl) ?_
    refine lv_iload hx hb d_X_compare_11 (lv_at hl 4 rfl) ?_
    obtain ⟨r7, er7, h⟩ := hx_b1s h
    refine hx_rd (va_runV (As := [.int x3, .int x4]) (rest := []) ⟨hx, hb, hml, hown, hts⟩ (c_X_isPattern l D T3 ad σ x3 x4 _ er7) (cwV 2 hts (hx_gV hx_cons k_252 k_254 k_0 k_50 k_255) rfl rfl rfl (by decide +kernel) ⟨Nat.le_of_ble_eq_true rfl, Nat.le_of_ble_eq_true rfl⟩) (hx_preV (va_recv hK hP (ci := 0) (q0 := 0) rfl hx_at_X) hP hK) rfl rfl hl.1 rfl (lv_room (Nat.le_of_ble_eq_true rfl)) d_X_compare_13 ⟨Nat.zero_le _, Nat.zero_le _⟩) ?_
    refine lv_if_ne (tgt := 22) hx hb d_X_compare_16 (by decide) (fun c8 => ?_) (fun c8 => ?_)
    · replace h := hx_in c8 h
      refine lv_aload_n hx hb d_X_compare_22 rfl (lv_at hl 0 rfl) ?_
      refine va_get (D := D) (ci := 0) (v := .ref (ad 10)) (C := "HalfFloats") (T := T_X) (N := 9) hx hb hts (hx_up in_X) hown hK hP (0) hx_at_X rfl 3 (by decide) (hts _ (hx_cons _ k_207)) (fun _ h9 => h9) rfl d_X_compare_23 ?_
      obtain ⟨q9, eq9, h⟩ := hx_b1s h
      refine hx_wv (va_runV (As := []) (rest := []) ⟨hx, hb, hml, hown, hts⟩ (c_E_begin l D T3 ad _ σ _ eq9) (cwV 0 hts (hx_gV hx_cons k_350 k_351 k_352 k_53 k_353) rfl rfl rfl (by decide +kernel) ⟨Nat.le_of_ble_eq_true rfl, Nat.le_of_ble_eq_true rfl⟩) (hx_preVw (va_recv hK hP (ci := 3) (q0 := 10) rfl hx_at_E) hP hK hD) rfl rfl hl.1 rfl (lv_room (Nat.le_of_ble_eq_true rfl)) d_X_compare_26 ⟨Nat.zero_le _, Nat.zero_le _⟩) hD hS hA (fun H locs hP hD hS => ?_)
      refine lv_aload_n hx hb d_X_compare_29 rfl (lv_at hl 0 rfl) ?_
      refine va_get (D := D) (ci := 0) (v := .ref (ad 10)) (C := "HalfFloats") (T := T_X) (N := 9) hx hb hts (hx_up in_X) hown hK hP (0) hx_at_X rfl 3 (by decide) (hts _ (hx_cons _ k_207)) (fun _ h9 => h9) rfl d_X_compare_30 ?_
      refine lv_aload_n hx hb d_X_compare_33 rfl (lv_at hl 0 rfl) ?_
      refine va_get (D := D) (ci := 0) (v := .ref (ad 1)) (C := "HalfFloats") (T := T_X) (N := 9) hx hb hts (hx_up in_X) hown hK hP (0) hx_at_X rfl 0 (by decide) (hts _ (hx_cons _ k_204)) (fun _ h9 => h9) rfl d_X_compare_34 ?_
      refine lv_iload_n hx hb d_X_compare_37 rfl (lv_at hl 1 rfl) ?_
      obtain ⟨g10, h⟩ := hx_gs h
      refine va_aldq hx hb hK hP (1) 0 hx_at_FA rfl g10 d_X_compare_38 ?_
      refine lv_iload_n hx hb d_X_compare_39 rfl (lv_at hl 2 rfl) ?_
      refine lv_iconst (v := 0) hx hb d_X_compare_40 (by decide) ?_
      obtain ⟨q11, eq11, h⟩ := hx_b1s h
      refine hx_wv (va_runV (As := [.ref (ad (2 + x1.toNatClampNeg)), .int x2, .int (0 : Int32)]) (rest := []) ⟨hx, hb, hml, hown, hts⟩ (c_E_addValue l D T3 ad _ q9 x1.toNatClampNeg x2 (0 : Int32) (hx_lt g10) _ eq11) (cwV 3 hts (hx_gV hx_cons k_379 k_380 k_381 k_53 k_382) rfl rfl rfl (by decide +kernel) ⟨Nat.le_of_ble_eq_true rfl, Nat.le_of_ble_eq_true rfl⟩) (hx_preVw (va_recv hK hP (ci := 3) (q0 := 10) rfl hx_at_E) hP hK hD) rfl rfl hl.1 rfl (lv_room (Nat.le_of_ble_eq_true rfl)) d_X_compare_41 ⟨Nat.zero_le _, Nat.zero_le _⟩) hD hS hA (fun H locs hP hD hS => ?_)
      refine lv_aload_n hx hb d_X_compare_44 rfl (lv_at hl 0 rfl) ?_
      refine va_get (D := D) (ci := 0) (v := .ref (ad 10)) (C := "HalfFloats") (T := T_X) (N := 9) hx hb hts (hx_up in_X) hown hK hP (0) hx_at_X rfl 3 (by decide) (hts _ (hx_cons _ k_207)) (fun _ h9 => h9) rfl d_X_compare_45 ?_
      refine lv_aload_n hx hb d_X_compare_48 rfl (lv_at hl 0 rfl) ?_
      refine va_get (D := D) (ci := 0) (v := .ref (ad 1)) (C := "HalfFloats") (T := T_X) (N := 9) hx hb hts (hx_up in_X) hown hK hP (0) hx_at_X rfl 0 (by decide) (hts _ (hx_cons _ k_204)) (fun _ h9 => h9) rfl d_X_compare_49 ?_
      refine lv_iload_n hx hb d_X_compare_52 rfl (lv_at hl 3 rfl) ?_
      obtain ⟨g12, h⟩ := hx_gs h
      refine va_aldq hx hb hK hP (1) 0 hx_at_FA rfl g12 d_X_compare_53 ?_
      refine lv_iload hx hb d_X_compare_54 (lv_at hl 4 rfl) ?_
      refine lv_iconst (v := 1) hx hb d_X_compare_56 (by decide) ?_
      obtain ⟨q13, eq13, h⟩ := hx_b1s h
      refine hx_wv (va_runV (As := [.ref (ad (2 + x3.toNatClampNeg)), .int x4, .int (1 : Int32)]) (rest := []) ⟨hx, hb, hml, hown, hts⟩ (c_E_addValue l D T3 ad _ q11 x3.toNatClampNeg x4 (1 : Int32) (hx_lt g12) _ eq13) (cwV 3 hts (hx_gV hx_cons k_379 k_380 k_381 k_53 k_382) rfl rfl rfl (by decide +kernel) ⟨Nat.le_of_ble_eq_true rfl, Nat.le_of_ble_eq_true rfl⟩) (hx_preVw (va_recv hK hP (ci := 3) (q0 := 10) rfl hx_at_E) hP hK hD) rfl rfl hl.1 rfl (lv_room (Nat.le_of_ble_eq_true rfl)) d_X_compare_57 ⟨Nat.zero_le _, Nat.zero_le _⟩) hD hS hA (fun H locs hP hD hS => ?_)
      refine lv_aload_n hx hb d_X_compare_60 rfl (lv_at hl 0 rfl) ?_
      refine va_get (D := D) (ci := 0) (v := .ref (ad 10)) (C := "HalfFloats") (T := T_X) (N := 9) hx hb hts (hx_up in_X) hown hK hP (0) hx_at_X rfl 3 (by decide) (hts _ (hx_cons _ k_207)) (fun _ h9 => h9) rfl d_X_compare_61 ?_
      refine va_get (D := D) (ci := 3) (v := .int (hx_ex_hasNan q13)) (C := "HalfFloats$Exact") (T := T_E) (N := 12) hx hb hts (hx_up in_E) hown hK hP (10) hx_at_E rfl 0 (by decide) (hts _ (hx_cons _ k_144)) (fun _ h9 => h9) rfl d_X_compare_64 ?_
      refine lv_if_eq (tgt := 74) hx hb d_X_compare_67 (by decide) (fun c14 => ?_) (fun c14 => ?_)
      · replace h := hx_ip c14 h
        refine lv_aload_n hx hb d_X_compare_74 rfl (lv_at hl 0 rfl) ?_
        refine va_get (D := D) (ci := 0) (v := .ref (ad 10)) (C := "HalfFloats") (T := T_X) (N := 9) hx hb hts (hx_up in_X) hown hK hP (0) hx_at_X rfl 3 (by decide) (hts _ (hx_cons _ k_207)) (fun _ h9 => h9) rfl d_X_compare_75 ?_
        obtain ⟨r16, q15, eq15, h⟩ := hx_b2s h
        refine hx_wi (va_runV (As := []) (rest := []) ⟨hx, hb, hml, hown, hts⟩ (c_E_side l D T3 ad _ q13 _ _ eq15) (cwV 0 hts (hx_gV hx_cons k_413 k_414 k_415 k_53 k_416) rfl rfl rfl (by decide +kernel) ⟨Nat.le_of_ble_eq_true rfl, Nat.le_of_ble_eq_true rfl⟩) (hx_preVw (va_recv hK hP (ci := 3) (q0 := 10) rfl hx_at_E) hP hK hD) rfl rfl hl.1 rfl (lv_room (Nat.le_of_ble_eq_true rfl)) d_X_compare_78 ⟨Nat.zero_le _, Nat.zero_le _⟩) hD hS hA (fun H locs hP hD hS => ?_)
        exact W.iret hx hb hr (fun t ht hW => hx_endi h ht hW hP hK hD hS) hS.2.2 d_X_compare_81
      · replace h := hx_in c14 h
        refine lv_iconst (v := 2) hx hb d_X_compare_70 (by decide) ?_
        refine lv_goto (tgt := 81) hx hb d_X_compare_71 (by decide) ?_
        exact W.iret hx hb hr (fun t ht hW => hx_endi h ht hW hP hK hD hS) hS.2.2 d_X_compare_81
    · replace h := hx_ip c8 h
      refine lv_bipush (v := -2) hx hb d_X_compare_19 (by decide) ?_
      exact W.iret hx hb hr (fun t ht hW => hx_endi h ht hW hP hK hD hS) hS.2.2 d_X_compare_21
abbrev m_X_flags : Room := { frames := 0, cells := 0, slots := 0, locals := 0 }
set_option maxHeartbeats 4000000 in
set_option maxRecDepth 100000 in
theorem c_X_flags (l : Launch) (D : va_G) (T3 : hx_T3) (ad : Nat → Nat) (sz : Nat) (σ : hx_S) (r0 : Int32) (σ0 : hx_S) (h : f_X_flags σ = some (r0, σ0)) : hx_Wi l D (hx_ty T3) y_X_flags w_X_flags m_X_flags [.ref (ad 0)] sz (hx_W T3 ad σ) r0 (hx_W T3 ad σ0) := by
  refine Met.ofW (cc := b_X_flags) (maxL := 2) (ret := (some .int)) (by decide) rfl ?_
  intro p e s m args below meth c s₁ B hml hv
  obtain ⟨hargs, hsz, hP, hK, hD0⟩ := hv
  have hx := B.exec
  have hb := B.bytes
  have hr := B.returns
  have hts := atoms_spec (ws := w_X_flags) B.pre
  have hown : s.vm.findClass "HalfFloats" = some m.cls := findClass_of_methodNamed B.named
  have hlocks := B.notSynchronized
  subst hsz
  have hD := hD0.self (sz := s.heap.size)
  generalize hAe : va_A (hx_W T3 ad σ) s.heap.size = A at hD ⊢
  have hA : ∀ q : Nat, s.heap.size ≤ q → A q := fun q h => by rw [← hAe]; exact Or.inr h
  have hS : va_S A s.heap s.heap [] := va_S.rf
  refine W.eq (g2 := F0 m 0 ((lg_sl [.ref (ad 0)] ++ List.replicate (2 - (lg_sl [.ref (ad 0)]).length) Slot.unset).toArray) []) (by rw [hargs, lg_entry_eq]) ?_
  have hl := lv_entry ([.ref (ad 0)]) (n := 2) (Nat.le_of_ble_eq_true rfl)
  generalize (lg_sl ([.ref (ad 0)]) ++ List.replicate (2 - (lg_sl ([.ref (ad 0)])).length) Slot.unset).toArray = ls at hl ⊢
  have hl : lv_has ls 2 [(0, .ref (ad 0))] := hl
  rw [f_X_flags] at h
  refine lv_aload_n hx hb d_X_flags_0 rfl (lv_at hl 0 rfl) ?_
  refine va_get (D := D) (ci := 0) (v := .ref (ad 12)) (C := "HalfFloats") (T := T_X) (N := 9) hx hb hts (hx_up in_X) hown hK hP (0) hx_at_X rfl 4 (by decide) (hts _ (hx_cons _ k_208)) (fun _ h9 => h9) rfl d_X_flags_1 ?_
  refine va_get (D := D) (ci := 4) (v := .int (hx_rd_raised σ)) (C := "HalfFloats$Rounder") (T := T_D) (N := 2) hx hb hts (hx_up in_D) hown hK hP (12) hx_at_D rfl 0 (by decide) (hts _ (hx_cons _ k_196)) (fun _ h9 => h9) rfl d_X_flags_4 ?_
  refine lv_topi (fun x1 ex1 => ?_)
  replace h := hx_ns ex1 h
  clear ex1
  refine lv_istore_n (lv' := [(1, .int x1), (0, .ref (ad 0))]) hx hb d_X_flags_7 rfl hl (by decide) rfl (fun ls hl => ?_)
  refine lv_aload_n hx hb d_X_flags_8 rfl (lv_at hl 1 rfl) ?_
  refine va_get (D := D) (ci := 0) (v := .ref (ad 12)) (C := "HalfFloats") (T := T_X) (N := 9) hx hb hts (hx_up in_X) hown hK hP (0) hx_at_X rfl 4 (by decide) (hts _ (hx_cons _ k_208)) (fun _ h9 => h9) rfl d_X_flags_9 ?_
  refine lv_iconst (v := 0) hx hb d_X_flags_12 (by decide) ?_
  refine va_put (D := D) (ci := 4) (v := .int (0 : Int32)) (ty := .int) (C := "HalfFloats$Rounder") (T := T_D) (N := 2) hx hb hts (hx_up in_D) ty_D tyok_D nm_D hown hK hP hD hS (12) hx_at_D rfl 0 (by decide) (hts _ (hx_cons _ k_196)) (fun _ h9 => h9) rfl (by decide +kernel) rfl rfl (Nat.le_of_ble_eq_true rfl) d_X_flags_13 (fun H locs hP hD hS => ?_)
  obtain ⟨σ2, eσ2⟩ : ∃ y : hx_S, y = (hx_rd_raised_s σ (0 : Int32)) := ⟨_, rfl⟩
  replace hP : va_P D vwCl (hx_W T3 ad σ2) H := by rw [eσ2]; exact hP
  replace hD : va_D A (hx_W T3 ad σ2) := by rw [eσ2]; exact hD
  replace h := hx_ns eσ2 h
  clear eσ2
  refine lv_iload_n hx hb d_X_flags_16 rfl (lv_at hl 0 rfl) ?_
  exact W.iret hx hb hr (fun t ht hW => hx_endi h ht hW hP hK hD hS) hS.2.2 d_X_flags_17
abbrev m_X_seed : Room := { frames := 0, cells := 0, slots := 0, locals := 0 }
set_option maxHeartbeats 4000000 in
set_option maxRecDepth 100000 in
theorem c_X_seed (l : Launch) (D : va_G) (T3 : hx_T3) (ad : Nat → Nat) (sz : Nat) (σ : hx_S) (x1 : Int32) (r0 : Int32) (σ0 : hx_S) (h : f_X_seed σ x1 = some (r0, σ0)) : hx_Wi l D (hx_ty T3) y_X_seed w_X_seed m_X_seed [.ref (ad 0), .int x1] sz (hx_W T3 ad σ) r0 (hx_W T3 ad σ0) := by
  refine Met.ofW (cc := b_X_seed) (maxL := 3) (ret := (some .int)) (by decide) rfl ?_
  intro p e s m args below meth c s₁ B hml hv
  obtain ⟨hargs, hsz, hP, hK, hD0⟩ := hv
  have hx := B.exec
  have hb := B.bytes
  have hr := B.returns
  have hts := atoms_spec (ws := w_X_seed) B.pre
  have hown : s.vm.findClass "HalfFloats" = some m.cls := findClass_of_methodNamed B.named
  have hlocks := B.notSynchronized
  subst hsz
  have hD := hD0.self (sz := s.heap.size)
  generalize hAe : va_A (hx_W T3 ad σ) s.heap.size = A at hD ⊢
  have hA : ∀ q : Nat, s.heap.size ≤ q → A q := fun q h => by rw [← hAe]; exact Or.inr h
  have hS : va_S A s.heap s.heap [] := va_S.rf
  refine W.eq (g2 := F0 m 0 ((lg_sl [.ref (ad 0), .int x1] ++ List.replicate (3 - (lg_sl [.ref (ad 0), .int x1]).length) Slot.unset).toArray) []) (by rw [hargs, lg_entry_eq]) ?_
  have hl := lv_entry ([.ref (ad 0), .int x1]) (n := 3) (Nat.le_of_ble_eq_true rfl)
  generalize (lg_sl ([.ref (ad 0), .int x1]) ++ List.replicate (3 - (lg_sl ([.ref (ad 0), .int x1])).length) Slot.unset).toArray = ls at hl ⊢
  have hl : lv_has ls 3 [(0, .ref (ad 0)), (1, .int x1)] := hl
  rw [f_X_seed] at h
  refine lv_iload_n hx hb d_X_seed_0 rfl (lv_at hl 1 rfl) ?_
  refine lv_iconst (v := 1) hx hb d_X_seed_1 (by decide) ?_
  refine lv_icmp_lt (tgt := 11) hx hb d_X_seed_2 (by decide) (fun c2 => ?_) (fun c2 => ?_)
  · replace h := hx_ip c2 h
    refine lv_bipush (v := -2) hx hb d_X_seed_11 (by decide) ?_
    exact W.iret hx hb hr (fun t ht hW => hx_endi h ht hW hP hK hD hS) hS.2.2 d_X_seed_13
  · replace h := hx_in c2 h
    refine lv_iload_n hx hb d_X_seed_5 rfl (lv_at hl 1 rfl) ?_
    refine lv_ldc (v := 2147483646) hx hb hown (hts _ (hx_cons _ k_426)) d_X_seed_6 ?_
    refine lv_icmp_le (tgt := 14) hx hb d_X_seed_8 (by decide) (fun c3 => ?_) (fun c3 => ?_)
    · replace h := hx_ip c3 h
      refine lv_aload_n hx hb d_X_seed_14 rfl (lv_at hl 0 rfl) ?_
      refine va_get (D := D) (ci := 0) (v := .ref (ad 12)) (C := "HalfFloats") (T := T_X) (N := 9) hx hb hts (hx_up in_X) hown hK hP (0) hx_at_X rfl 4 (by decide) (hts _ (hx_cons _ k_208)) (fun _ h9 => h9) rfl d_X_seed_15 ?_
      refine va_get (D := D) (ci := 4) (v := .long (hx_rd_state σ)) (C := "HalfFloats$Rounder") (T := T_D) (N := 2) hx hb hts (hx_up in_D) hown hK hP (12) hx_at_D rfl 1 (by decide) (hts _ (hx_cons _ k_198)) (fun _ h9 => h9) rfl d_X_seed_18 ?_
      refine lv_l2i hx hb d_X_seed_21 rfl ?_
      refine lv_topi (fun x4 ex4 => ?_)
      replace h := hx_ns ex4 h
      clear ex4
      refine lv_istore_n (lv' := [(2, .int x4), (0, .ref (ad 0)), (1, .int x1)]) hx hb d_X_seed_22 rfl hl (by decide) rfl (fun ls hl => ?_)
      refine lv_aload_n hx hb d_X_seed_23 rfl (lv_at hl 1 rfl) ?_
      refine va_get (D := D) (ci := 0) (v := .ref (ad 12)) (C := "HalfFloats") (T := T_X) (N := 9) hx hb hts (hx_up in_X) hown hK hP (0) hx_at_X rfl 4 (by decide) (hts _ (hx_cons _ k_208)) (fun _ h9 => h9) rfl d_X_seed_24 ?_
      refine lv_iload_n hx hb d_X_seed_27 rfl (lv_at hl 2 rfl) ?_
      refine lv_i2l hx hb d_X_seed_28 rfl ?_
      refine va_put (D := D) (ci := 4) (v := .long x1.toInt64) (ty := .long) (C := "HalfFloats$Rounder") (T := T_D) (N := 2) hx hb hts (hx_up in_D) ty_D tyok_D nm_D hown hK hP hD hS (12) hx_at_D rfl 1 (by decide) (hts _ (hx_cons _ k_198)) (fun _ h9 => h9) rfl (by decide +kernel) rfl rfl (Nat.le_of_ble_eq_true rfl) d_X_seed_29 (fun H locs hP hD hS => ?_)
      obtain ⟨σ5, eσ5⟩ : ∃ y : hx_S, y = (hx_rd_state_s σ x1.toInt64) := ⟨_, rfl⟩
      replace hP : va_P D vwCl (hx_W T3 ad σ5) H := by rw [eσ5]; exact hP
      replace hD : va_D A (hx_W T3 ad σ5) := by rw [eσ5]; exact hD
      replace h := hx_ns eσ5 h
      clear eσ5
      refine lv_iload_n hx hb d_X_seed_32 rfl (lv_at hl 0 rfl) ?_
      exact W.iret hx hb hr (fun t ht hW => hx_endi h ht hW hP hK hD hS) hS.2.2 d_X_seed_33
    · replace h := hx_in c3 h
      refine lv_bipush (v := -2) hx hb d_X_seed_11 (by decide) ?_
      exact W.iret hx hb hr (fun t ht hW => hx_endi h ht hW hP hK hD hS) hS.2.2 d_X_seed_13
abbrev m_X_isRow : Room := { frames := 0, cells := 0, slots := 0, locals := 0 }
set_option maxHeartbeats 4000000 in
set_option maxRecDepth 100000 in
theorem c_X_isRow (l : Launch) (D : va_G) (T3 : hx_T3)  (x1 : Int32) (r0 : Int32) (h : f_X_isRow x1 = some r0) : hx_R l D (hx_ty T3) [] y_X_isRow w_X_isRow m_X_isRow [.int x1] (.int r0) := by
  refine Met.ofW (cc := b_X_isRow) (maxL := 1) (ret := (some .boolean)) (by decide) rfl ?_
  intro p e s m args below meth c s₁ B hml hv
  obtain ⟨hargs, hP, hK⟩ := hv
  have hx := B.exec
  have hb := B.bytes
  have hr := B.returns
  have hts := atoms_spec (ws := w_X_isRow) B.pre
  have hown : s.vm.findClass "HalfFloats" = some m.cls := findClass_of_methodNamed B.named
  have hlocks := B.notSynchronized
  refine W.eq (g2 := F0 m 0 ((lg_sl [.int x1] ++ List.replicate (1 - (lg_sl [.int x1]).length) Slot.unset).toArray) []) (by rw [hargs, lg_entry_eq]) ?_
  have hl := lv_entry ([.int x1]) (n := 1) (Nat.le_of_ble_eq_true rfl)
  generalize (lg_sl ([.int x1]) ++ List.replicate (1 - (lg_sl ([.int x1])).length) Slot.unset).toArray = ls at hl ⊢
  have hl : lv_has ls 1 [(0, .int x1)] := hl
  rw [f_X_isRow] at h
  refine lv_iload_n hx hb d_X_isRow_0 rfl (lv_at hl 0 rfl) ?_
  refine lv_if_lt (tgt := 13) hx hb d_X_isRow_1 (by decide) (fun c2 => ?_) (fun c2 => ?_)
  · replace h := hx_ip c2 h
    refine lv_iconst (v := 0) hx hb d_X_isRow_13 (by decide) ?_
    exact W.zret hx hb hr (hx_nb (Or.inl rfl)) (fun t ht hW => ⟨by rw [Option.some.inj h], ht⟩) (fun q hq => nomatch hq) d_X_isRow_14
  · replace h := hx_in c2 h
    refine lv_iload_n hx hb d_X_isRow_4 rfl (lv_at hl 0 rfl) ?_
    refine lv_iconst (v := 2) hx hb d_X_isRow_5 (by decide) ?_
    refine lv_icmp_ge (tgt := 13) hx hb d_X_isRow_6 (by decide) (fun c3 => ?_) (fun c3 => ?_)
    · replace h := hx_ip c3 h
      refine lv_iconst (v := 0) hx hb d_X_isRow_13 (by decide) ?_
      exact W.zret hx hb hr (hx_nb (Or.inl rfl)) (fun t ht hW => ⟨by rw [Option.some.inj h], ht⟩) (fun q hq => nomatch hq) d_X_isRow_14
    · replace h := hx_in c3 h
      refine lv_iconst (v := 1) hx hb d_X_isRow_9 (by decide) ?_
      refine lv_goto (tgt := 14) hx hb d_X_isRow_10 (by decide) ?_
      exact W.zret hx hb hr (hx_nb (Or.inr rfl)) (fun t ht hW => ⟨by rw [Option.some.inj h], ht⟩) (fun q hq => nomatch hq) d_X_isRow_14
abbrev m_X_rowOf : Room := { frames := 0, cells := 0, slots := 0, locals := 0 }
set_option maxHeartbeats 4000000 in
set_option maxRecDepth 100000 in
theorem c_X_rowOf (l : Launch) (D : va_G) (T3 : hx_T3) (ad : Nat → Nat) (σ : hx_S) (x1 : Int32) (r0 : Nat) (h : f_X_rowOf σ x1 = some r0) : hx_R l D (hx_ty T3) (hx_W T3 ad σ) y_X_rowOf w_X_rowOf m_X_rowOf [.ref (ad 0), .int x1] (.ref (ad (6 + 2 * r0))) := by
  refine Met.ofW (cc := b_X_rowOf) (maxL := 2) (ret := (some (.object "HalfFloats$Row"))) (by decide) rfl ?_
  intro p e s m args below meth c s₁ B hml hv
  obtain ⟨hargs, hP, hK⟩ := hv
  have hx := B.exec
  have hb := B.bytes
  have hr := B.returns
  have hts := atoms_spec (ws := w_X_rowOf) B.pre
  have hown : s.vm.findClass "HalfFloats" = some m.cls := findClass_of_methodNamed B.named
  have hlocks := B.notSynchronized
  refine W.eq (g2 := F0 m 0 ((lg_sl [.ref (ad 0), .int x1] ++ List.replicate (2 - (lg_sl [.ref (ad 0), .int x1]).length) Slot.unset).toArray) []) (by rw [hargs, lg_entry_eq]) ?_
  have hl := lv_entry ([.ref (ad 0), .int x1]) (n := 2) (Nat.le_of_ble_eq_true rfl)
  generalize (lg_sl ([.ref (ad 0), .int x1]) ++ List.replicate (2 - (lg_sl ([.ref (ad 0), .int x1])).length) Slot.unset).toArray = ls at hl ⊢
  have hl : lv_has ls 2 [(0, .ref (ad 0)), (1, .int x1)] := hl
  rw [f_X_rowOf] at h
  refine lv_iload_n hx hb d_X_rowOf_0 rfl (lv_at hl 1 rfl) ?_
  refine lv_if_ne (tgt := 11) hx hb d_X_rowOf_1 (by decide) (fun c2 => ?_) (fun c2 => ?_)
  · replace h := hx_in c2 h
    refine lv_aload_n hx hb d_X_rowOf_11 rfl (lv_at hl 0 rfl) ?_
    refine va_get (D := D) (ci := 0) (v := .ref (ad (6 + 2 * 1))) (C := "HalfFloats") (T := T_X) (N := 9) hx hb hts (hx_up in_X) hown hK hP (0) hx_at_X rfl 2 (by decide) (hts _ (hx_cons _ k_206)) (fun _ h9 => h9) rfl d_X_rowOf_12 ?_
    exact W.aret hx hb hr (Or.inl ⟨_, rfl⟩) (Or.inr ⟨_, rfl⟩) (fun t ht hW => ⟨by rw [Option.some.inj h], ht⟩) (fun q hq => nomatch hq) d_X_rowOf_15
  · replace h := hx_ip c2 h
    refine lv_aload_n hx hb d_X_rowOf_4 rfl (lv_at hl 0 rfl) ?_
    refine va_get (D := D) (ci := 0) (v := .ref (ad (6 + 2 * 0))) (C := "HalfFloats") (T := T_X) (N := 9) hx hb hts (hx_up in_X) hown hK hP (0) hx_at_X rfl 1 (by decide) (hts _ (hx_cons _ k_205)) (fun _ h9 => h9) rfl d_X_rowOf_5 ?_
    refine lv_goto (tgt := 15) hx hb d_X_rowOf_8 (by decide) ?_
    exact W.aret hx hb hr (Or.inl ⟨_, rfl⟩) (Or.inr ⟨_, rfl⟩) (fun t ht hW => ⟨by rw [Option.some.inj h], ht⟩) (fun q hq => nomatch hq) d_X_rowOf_15
abbrev m_X_clear : Room := { frames := 1, cells := 0, slots := 0, locals := 21 }
set_option maxHeartbeats 4000000 in
set_option maxRecDepth 100000 in
theorem c_X_clear (l : Launch) (D : va_G) (T3 : hx_T3) (ad : Nat → Nat) (sz : Nat) (σ : hx_S) (x1 : Int32) (x2 : Int32) (r0 : Int32) (σ0 : hx_S) (h : f_X_clear σ x1 x2 = some (r0, σ0)) : hx_Wi l D (hx_ty T3) y_X_clear w_X_clear m_X_clear [.ref (ad 0), .int x1, .int x2] sz (hx_W T3 ad σ) r0 (hx_W T3 ad σ0) := by
  refine Met.ofW (cc := b_X_clear) (maxL := 5) (ret := (some .int)) (by decide) rfl ?_
  intro p e s m args below meth c s₁ B hml hv
  obtain ⟨hargs, hsz, hP, hK, hD0⟩ := hv
  have hx := B.exec
  have hb := B.bytes
  have hr := B.returns
  have hts := atoms_spec (ws := w_X_clear) B.pre
  have hown : s.vm.findClass "HalfFloats" = some m.cls := findClass_of_methodNamed B.named
  have hlocks := B.notSynchronized
  subst hsz
  have hD := hD0.self (sz := s.heap.size)
  generalize hAe : va_A (hx_W T3 ad σ) s.heap.size = A at hD ⊢
  have hA : ∀ q : Nat, s.heap.size ≤ q → A q := fun q h => by rw [← hAe]; exact Or.inr h
  have hS : va_S A s.heap s.heap [] := va_S.rf
  refine W.eq (g2 := F0 m 0 ((lg_sl [.ref (ad 0), .int x1, .int x2] ++ List.replicate (5 - (lg_sl [.ref (ad 0), .int x1, .int x2]).length) Slot.unset).toArray) []) (by rw [hargs, lg_entry_eq]) ?_
  have hl := lv_entry ([.ref (ad 0), .int x1, .int x2]) (n := 5) (Nat.le_of_ble_eq_true rfl)
  generalize (lg_sl ([.ref (ad 0), .int x1, .int x2]) ++ List.replicate (5 - (lg_sl ([.ref (ad 0), .int x1, .int x2])).length) Slot.unset).toArray = ls at hl ⊢
  have hl : lv_has ls 5 [(0, .ref (ad 0)), (1, .int x1), (2, .int x2)] := hl
  rw [f_X_clear] at h
  refine lv_iload_n hx hb d_X_clear_0 rfl (lv_at hl 1 rfl) ?_
  obtain ⟨r3, er3, h⟩ := hx_b1s h
  refine hx_rd (va_runS (As := [.int x1]) (rest := []) ⟨hx, hb, hml, hown, hts⟩ (c_X_isRow l D T3 x1 _ er3) (va_cwS 1 hts (hx_gS hx_cons k_431 k_432 k_50 k_433) rfl rfl rfl (by decide +kernel) ⟨Nat.le_of_ble_eq_true rfl, Nat.le_of_ble_eq_true rfl⟩) (hx_preS hx_nil hK) rfl rfl hl.1 rfl (lv_room (Nat.le_of_ble_eq_true rfl)) d_X_clear_1 ⟨Nat.zero_le _, Nat.zero_le _⟩) ?_
  refine lv_if_eq (tgt := 14) hx hb d_X_clear_4 (by decide) (fun c4 => ?_) (fun c4 => ?_)
  · replace h := hx_ip c4 h
    refine lv_bipush (v := -2) hx hb d_X_clear_14 (by decide) ?_
    exact W.iret hx hb hr (fun t ht hW => hx_endi h ht hW hP hK hD hS) hS.2.2 d_X_clear_16
  · replace h := hx_in c4 h
    refine lv_iload_n hx hb d_X_clear_7 rfl (lv_at hl 2 rfl) ?_
    obtain ⟨r5, er5, h⟩ := hx_b1s h
    refine hx_rd (va_runS (As := [.int x2]) (rest := []) ⟨hx, hb, hml, hown, hts⟩ (c_X_isFormat l D T3 x2 _ er5) (va_cwS 1 hts (hx_gS hx_cons k_236 k_237 k_50 k_238) rfl rfl rfl (by decide +kernel) ⟨Nat.le_of_ble_eq_true rfl, Nat.le_of_ble_eq_true rfl⟩) (hx_preS hx_nil hK) rfl rfl hl.1 rfl (lv_room (Nat.le_of_ble_eq_true rfl)) d_X_clear_8 ⟨Nat.zero_le _, Nat.zero_le _⟩) ?_
    refine lv_if_ne (tgt := 17) hx hb d_X_clear_11 (by decide) (fun c6 => ?_) (fun c6 => ?_)
    · replace h := hx_in c6 h
      refine lv_aload_n hx hb d_X_clear_17 rfl (lv_at hl 0 rfl) ?_
      refine lv_iload_n hx hb d_X_clear_18 rfl (lv_at hl 1 rfl) ?_
      obtain ⟨r7, er7, h⟩ := hx_b1s h
      obtain ⟨g8, h⟩ := hx_gt h
      refine hx_rd (va_runV (As := [.int x1]) (rest := []) ⟨hx, hb, hml, hown, hts⟩ (c_X_rowOf l D T3 ad σ x1 _ er7) (cwV 1 hts (hx_gV hx_cons k_434 k_436 k_9 k_50 k_437) rfl rfl rfl (by decide +kernel) ⟨Nat.le_of_ble_eq_true rfl, Nat.le_of_ble_eq_true rfl⟩) (hx_preV (va_recv hK hP (ci := 0) (q0 := 0) rfl hx_at_X) hP hK) rfl rfl hl.1 rfl (lv_room (Nat.le_of_ble_eq_true rfl)) d_X_clear_19 ⟨Nat.zero_le _, Nat.zero_le _⟩) ?_
      refine lv_astore_n (lv' := [(3, .ref (ad (6 + 2 * r7))), (0, .ref (ad 0)), (1, .int x1), (2, .int x2)]) hx hb d_X_clear_22 rfl hl (by decide) rfl (fun ls hl => ?_)
      refine lv_aload_n hx hb d_X_clear_23 rfl (lv_at hl 0 rfl) ?_
      refine va_get (D := D) (ci := 2) (v := .int (hx_size σ r7)) (C := "HalfFloats$Row") (T := T_R) (N := 3) hx hb hts (hx_up in_R) hown hK hP (6 + 2 * r7) (hx_at_R g8) rfl 1 (by decide) (hts _ (hx_cons _ k_125)) (fun _ h9 => h9) rfl d_X_clear_24 ?_
      refine lv_topi (fun x9 ex9 => ?_)
      replace h := hx_ns ex9 h
      clear ex9
      refine lv_istore (lv' := [(4, .int x9), (3, .ref (ad (6 + 2 * r7))), (0, .ref (ad 0)), (1, .int x1), (2, .int x2)]) hx hb d_X_clear_27 hl (by decide) rfl (fun ls hl => ?_)
      refine lv_aload_n hx hb d_X_clear_29 rfl (lv_at hl 1 rfl) ?_
      refine lv_iconst (v := 0) hx hb d_X_clear_30 (by decide) ?_
      refine va_put (D := D) (ci := 2) (v := .int (0 : Int32)) (ty := .int) (C := "HalfFloats$Row") (T := T_R) (N := 3) hx hb hts (hx_up in_R) ty_R tyok_R nm_R hown hK hP hD hS (6 + 2 * r7) (hx_at_R g8) rfl 1 (by decide) (hts _ (hx_cons _ k_125)) (fun _ h9 => h9) rfl (by decide +kernel) rfl rfl (Nat.le_of_ble_eq_true rfl) d_X_clear_31 (fun H locs hP hD hS => ?_)
      obtain ⟨σ10, eσ10⟩ : ∃ y : hx_S, y = (hx_size_s σ r7 (0 : Int32)) := ⟨_, rfl⟩
      replace hP : va_P D vwCl (hx_W T3 ad σ10) H := by rw [eσ10, hx_w_size g8]; exact hP
      replace hD : va_D A (hx_W T3 ad σ10) := by rw [eσ10, hx_w_size g8]; exact hD
      replace h := hx_ns eσ10 h
      clear eσ10
      refine lv_aload_n hx hb d_X_clear_34 rfl (lv_at hl 1 rfl) ?_
      refine lv_iload_n hx hb d_X_clear_35 rfl (lv_at hl 4 rfl) ?_
      refine va_put (D := D) (ci := 2) (v := .int x2) (ty := .int) (C := "HalfFloats$Row") (T := T_R) (N := 3) hx hb hts (hx_up in_R) ty_R tyok_R nm_R hown hK hP hD hS (6 + 2 * r7) (hx_at_R g8) rfl 2 (by decide) (hts _ (hx_cons _ k_127)) (fun _ h9 => h9) rfl (by decide +kernel) rfl rfl (Nat.le_of_ble_eq_true rfl) d_X_clear_36 (fun H locs hP hD hS => ?_)
      obtain ⟨σ11, eσ11⟩ : ∃ y : hx_S, y = (hx_format_s σ10 r7 x2) := ⟨_, rfl⟩
      replace hP : va_P D vwCl (hx_W T3 ad σ11) H := by rw [eσ11, hx_w_format g8]; exact hP
      replace hD : va_D A (hx_W T3 ad σ11) := by rw [eσ11, hx_w_format g8]; exact hD
      replace h := hx_ns eσ11 h
      clear eσ11
      refine lv_iload hx hb d_X_clear_39 (lv_at hl 0 rfl) ?_
      exact W.iret hx hb hr (fun t ht hW => hx_endi h ht hW hP hK hD hS) hS.2.2 d_X_clear_41
    · replace h := hx_ip c6 h
      refine lv_bipush (v := -2) hx hb d_X_clear_14 (by decide) ?_
      exact W.iret hx hb hr (fun t ht hW => hx_endi h ht hW hP hK hD hS) hS.2.2 d_X_clear_16
abbrev m_X_push : Room := { frames := 2, cells := 0, slots := 0, locals := 43 }
set_option maxHeartbeats 4000000 in
set_option maxRecDepth 100000 in
theorem c_X_push (l : Launch) (D : va_G) (T3 : hx_T3) (ad : Nat → Nat) (sz : Nat) (σ : hx_S) (x1 : Int32) (x2 : Int32) (r0 : Int32) (σ0 : hx_S) (h : f_X_push σ x1 x2 = some (r0, σ0)) : hx_Wi l D (hx_ty T3) y_X_push w_X_push m_X_push [.ref (ad 0), .int x1, .int x2] sz (hx_W T3 ad σ) r0 (hx_W T3 ad σ0) := by
  refine Met.ofW (cc := b_X_push) (maxL := 4) (ret := (some .int)) (by decide) rfl ?_
  intro p e s m args below meth c s₁ B hml hv
  obtain ⟨hargs, hsz, hP, hK, hD0⟩ := hv
  have hx := B.exec
  have hb := B.bytes
  have hr := B.returns
  have hts := atoms_spec (ws := w_X_push) B.pre
  have hown : s.vm.findClass "HalfFloats" = some m.cls := findClass_of_methodNamed B.named
  have hlocks := B.notSynchronized
  subst hsz
  have hD := hD0.self (sz := s.heap.size)
  generalize hAe : va_A (hx_W T3 ad σ) s.heap.size = A at hD ⊢
  have hA : ∀ q : Nat, s.heap.size ≤ q → A q := fun q h => by rw [← hAe]; exact Or.inr h
  have hS : va_S A s.heap s.heap [] := va_S.rf
  refine W.eq (g2 := F0 m 0 ((lg_sl [.ref (ad 0), .int x1, .int x2] ++ List.replicate (4 - (lg_sl [.ref (ad 0), .int x1, .int x2]).length) Slot.unset).toArray) []) (by rw [hargs, lg_entry_eq]) ?_
  have hl := lv_entry ([.ref (ad 0), .int x1, .int x2]) (n := 4) (Nat.le_of_ble_eq_true rfl)
  generalize (lg_sl ([.ref (ad 0), .int x1, .int x2]) ++ List.replicate (4 - (lg_sl ([.ref (ad 0), .int x1, .int x2])).length) Slot.unset).toArray = ls at hl ⊢
  have hl : lv_has ls 4 [(0, .ref (ad 0)), (1, .int x1), (2, .int x2)] := hl
  rw [f_X_push] at h
  refine lv_iload_n hx hb d_X_push_0 rfl (lv_at hl 1 rfl) ?_
  obtain ⟨r3, er3, h⟩ := hx_b1s h
  refine hx_rd (va_runS (As := [.int x1]) (rest := []) ⟨hx, hb, hml, hown, hts⟩ (c_X_isRow l D T3 x1 _ er3) (va_cwS 1 hts (hx_gS hx_cons k_431 k_432 k_50 k_433) rfl rfl rfl (by decide +kernel) ⟨Nat.le_of_ble_eq_true rfl, Nat.le_of_ble_eq_true rfl⟩) (hx_preS hx_nil hK) rfl rfl hl.1 rfl (lv_room (Nat.le_of_ble_eq_true rfl)) d_X_push_1 ⟨Nat.zero_le _, Nat.zero_le _⟩) ?_
  refine lv_if_eq (tgt := 23) hx hb d_X_push_4 (by decide) (fun c4 => ?_) (fun c4 => ?_)
  · replace h := hx_ip c4 h
    refine lv_bipush (v := -2) hx hb d_X_push_23 (by decide) ?_
    exact W.iret hx hb hr (fun t ht hW => hx_endi h ht hW hP hK hD hS) hS.2.2 d_X_push_25
  · replace h := hx_in c4 h
    refine lv_aload_n hx hb d_X_push_7 rfl (lv_at hl 0 rfl) ?_
    refine lv_aload_n hx hb d_X_push_8 rfl (lv_at hl 0 rfl) ?_
    refine lv_iload_n hx hb d_X_push_9 rfl (lv_at hl 1 rfl) ?_
    obtain ⟨r5, er5, h⟩ := hx_b1s h
    obtain ⟨g6, h⟩ := hx_gt h
    refine hx_rd (va_runV (As := [.int x1]) (rest := [.ref (ad 0)]) ⟨hx, hb, hml, hown, hts⟩ (c_X_rowOf l D T3 ad σ x1 _ er5) (cwV 1 hts (hx_gV hx_cons k_434 k_436 k_9 k_50 k_437) rfl rfl rfl (by decide +kernel) ⟨Nat.le_of_ble_eq_true rfl, Nat.le_of_ble_eq_true rfl⟩) (hx_preV (va_recv hK hP (ci := 0) (q0 := 0) rfl hx_at_X) hP hK) rfl rfl hl.1 rfl (lv_room (Nat.le_of_ble_eq_true rfl)) d_X_push_10 ⟨Nat.zero_le _, Nat.zero_le _⟩) ?_
    refine va_get (D := D) (ci := 2) (v := .int (hx_format σ r5)) (C := "HalfFloats$Row") (T := T_R) (N := 3) hx hb hts (hx_up in_R) hown hK hP (6 + 2 * r5) (hx_at_R g6) rfl 2 (by decide) (hts _ (hx_cons _ k_127)) (fun _ h9 => h9) rfl d_X_push_13 ?_
    refine lv_iload_n hx hb d_X_push_16 rfl (lv_at hl 2 rfl) ?_
    obtain ⟨r7, er7, h⟩ := hx_b1s h
    refine hx_rd (va_runV (As := [.int (hx_format σ r5), .int x2]) (rest := []) ⟨hx, hb, hml, hown, hts⟩ (c_X_isPattern l D T3 ad σ (hx_format σ r5) x2 _ er7) (cwV 2 hts (hx_gV hx_cons k_252 k_254 k_0 k_50 k_255) rfl rfl rfl (by decide +kernel) ⟨Nat.le_of_ble_eq_true rfl, Nat.le_of_ble_eq_true rfl⟩) (hx_preV (va_recv hK hP (ci := 0) (q0 := 0) rfl hx_at_X) hP hK) rfl rfl hl.1 rfl (lv_room (Nat.le_of_ble_eq_true rfl)) d_X_push_17 ⟨Nat.zero_le _, Nat.zero_le _⟩) ?_
    refine lv_if_ne (tgt := 26) hx hb d_X_push_20 (by decide) (fun c8 => ?_) (fun c8 => ?_)
    · replace h := hx_in c8 h
      refine lv_aload_n hx hb d_X_push_26 rfl (lv_at hl 0 rfl) ?_
      refine lv_iload_n hx hb d_X_push_27 rfl (lv_at hl 1 rfl) ?_
      obtain ⟨r9, er9, h⟩ := hx_b1s h
      obtain ⟨g10, h⟩ := hx_gt h
      refine hx_rd (va_runV (As := [.int x1]) (rest := []) ⟨hx, hb, hml, hown, hts⟩ (c_X_rowOf l D T3 ad σ x1 _ er9) (cwV 1 hts (hx_gV hx_cons k_434 k_436 k_9 k_50 k_437) rfl rfl rfl (by decide +kernel) ⟨Nat.le_of_ble_eq_true rfl, Nat.le_of_ble_eq_true rfl⟩) (hx_preV (va_recv hK hP (ci := 0) (q0 := 0) rfl hx_at_X) hP hK) rfl rfl hl.1 rfl (lv_room (Nat.le_of_ble_eq_true rfl)) d_X_push_28 ⟨Nat.zero_le _, Nat.zero_le _⟩) ?_
      refine lv_astore_n (lv' := [(3, .ref (ad (6 + 2 * r9))), (0, .ref (ad 0)), (1, .int x1), (2, .int x2)]) hx hb d_X_push_31 rfl hl (by decide) rfl (fun ls hl => ?_)
      refine lv_aload_n hx hb d_X_push_32 rfl (lv_at hl 0 rfl) ?_
      refine va_get (D := D) (ci := 2) (v := .int (hx_size σ r9)) (C := "HalfFloats$Row") (T := T_R) (N := 3) hx hb hts (hx_up in_R) hown hK hP (6 + 2 * r9) (hx_at_R g10) rfl 1 (by decide) (hts _ (hx_cons _ k_125)) (fun _ h9 => h9) rfl d_X_push_33 ?_
      refine lv_bipush (v := 32) hx hb d_X_push_36 (by decide) ?_
      refine lv_icmp_lt (tgt := 44) hx hb d_X_push_38 (by decide) (fun c11 => ?_) (fun c11 => ?_)
      · replace h := hx_ip c11 h
        refine lv_aload_n hx hb d_X_push_44 rfl (lv_at hl 0 rfl) ?_
        refine va_get (D := D) (ci := 2) (v := .ref (ad (7 + 2 * r9))) (C := "HalfFloats$Row") (T := T_R) (N := 3) hx hb hts (hx_up in_R) hown hK hP (6 + 2 * r9) (hx_at_R g10) rfl 0 (by decide) (hts _ (hx_cons _ k_123)) (fun _ h9 => h9) rfl d_X_push_45 ?_
        refine lv_aload_n hx hb d_X_push_48 rfl (lv_at hl 0 rfl) ?_
        refine va_get (D := D) (ci := 2) (v := .int (hx_size σ r9)) (C := "HalfFloats$Row") (T := T_R) (N := 3) hx hb hts (hx_up in_R) hown hK hP (6 + 2 * r9) (hx_at_R g10) rfl 1 (by decide) (hts _ (hx_cons _ k_125)) (fun _ h9 => h9) rfl d_X_push_49 ?_
        refine lv_iload_n hx hb d_X_push_52 rfl (lv_at hl 3 rfl) ?_
        obtain ⟨g12, h⟩ := hx_gs h
        refine va_iast hx hb hK hP hD hS (7 + 2 * r9) 1 (hx_at_RP g10) rfl g12 d_X_push_53 (fun H locs hP hD hS => ?_)
        obtain ⟨σ13, eσ13⟩ : ∃ y : hx_S, y = (hx_pat_s σ r9 (hx_size σ r9).toNatClampNeg x2) := ⟨_, rfl⟩
        replace hP : va_P D vwCl (hx_W T3 ad σ13) H := by rw [eσ13, hx_w_pat g10]; exact hP
        replace hD : va_D A (hx_W T3 ad σ13) := by rw [eσ13, hx_w_pat g10]; exact hD
        replace h := hx_ns eσ13 h
        clear eσ13
        refine lv_aload_n hx hb d_X_push_54 rfl (lv_at hl 0 rfl) ?_
        refine lv_dup hx hb d_X_push_55 rfl ?_
        refine va_get (D := D) (ci := 2) (v := .int (hx_size σ13 r9)) (C := "HalfFloats$Row") (T := T_R) (N := 3) hx hb hts (hx_up in_R) hown hK hP (6 + 2 * r9) (hx_at_R g10) rfl 1 (by decide) (hts _ (hx_cons _ k_125)) (fun _ h9 => h9) rfl d_X_push_56 ?_
        refine lv_iconst (v := 1) hx hb d_X_push_59 (by decide) ?_
        refine lv_iadd hx hb d_X_push_60 ?_
        refine lv_topi (fun x14 ex14 => ?_)
        replace h := hx_ns ex14 h
        clear ex14
        refine va_put (D := D) (ci := 2) (v := .int x14) (ty := .int) (C := "HalfFloats$Row") (T := T_R) (N := 3) hx hb hts (hx_up in_R) ty_R tyok_R nm_R hown hK hP hD hS (6 + 2 * r9) (hx_at_R g10) rfl 1 (by decide) (hts _ (hx_cons _ k_125)) (fun _ h9 => h9) rfl (by decide +kernel) rfl rfl (Nat.le_of_ble_eq_true rfl) d_X_push_61 (fun H locs hP hD hS => ?_)
        obtain ⟨σ15, eσ15⟩ : ∃ y : hx_S, y = (hx_size_s σ13 r9 x14) := ⟨_, rfl⟩
        replace hP : va_P D vwCl (hx_W T3 ad σ15) H := by rw [eσ15, hx_w_size g10]; exact hP
        replace hD : va_D A (hx_W T3 ad σ15) := by rw [eσ15, hx_w_size g10]; exact hD
        replace h := hx_ns eσ15 h
        clear eσ15
        refine lv_aload_n hx hb d_X_push_64 rfl (lv_at hl 0 rfl) ?_
        refine va_get (D := D) (ci := 2) (v := .int (hx_size σ15 r9)) (C := "HalfFloats$Row") (T := T_R) (N := 3) hx hb hts (hx_up in_R) hown hK hP (6 + 2 * r9) (hx_at_R g10) rfl 1 (by decide) (hts _ (hx_cons _ k_125)) (fun _ h9 => h9) rfl d_X_push_65 ?_
        exact W.iret hx hb hr (fun t ht hW => hx_endi h ht hW hP hK hD hS) hS.2.2 d_X_push_68
      · replace h := hx_in c11 h
        refine lv_bipush (v := -3) hx hb d_X_push_41 (by decide) ?_
        exact W.iret hx hb hr (fun t ht hW => hx_endi h ht hW hP hK hD hS) hS.2.2 d_X_push_43
    · replace h := hx_ip c8 h
      refine lv_bipush (v := -2) hx hb d_X_push_23 (by decide) ?_
      exact W.iret hx hb hr (fun t ht hW => hx_endi h ht hW hP hK hD hS) hS.2.2 d_X_push_25
abbrev m_X_at : Room := { frames := 1, cells := 0, slots := 0, locals := 21 }
set_option maxHeartbeats 4000000 in
set_option maxRecDepth 100000 in
theorem c_X_at (l : Launch) (D : va_G) (T3 : hx_T3) (ad : Nat → Nat) (σ : hx_S) (x1 : Int32) (x2 : Int32) (r0 : Int64) (h : f_X_at σ x1 x2 = some r0) : hx_R l D (hx_ty T3) (hx_W T3 ad σ) y_X_at w_X_at m_X_at [.ref (ad 0), .int x1, .int x2] (.long r0) := by
  refine Met.ofW (cc := b_X_at) (maxL := 3) (ret := (some .long)) (by decide) rfl ?_
  intro p e s m args below meth c s₁ B hml hv
  obtain ⟨hargs, hP, hK⟩ := hv
  have hx := B.exec
  have hb := B.bytes
  have hr := B.returns
  have hts := atoms_spec (ws := w_X_at) B.pre
  have hown : s.vm.findClass "HalfFloats" = some m.cls := findClass_of_methodNamed B.named
  have hlocks := B.notSynchronized
  refine W.eq (g2 := F0 m 0 ((lg_sl [.ref (ad 0), .int x1, .int x2] ++ List.replicate (3 - (lg_sl [.ref (ad 0), .int x1, .int x2]).length) Slot.unset).toArray) []) (by rw [hargs, lg_entry_eq]) ?_
  have hl := lv_entry ([.ref (ad 0), .int x1, .int x2]) (n := 3) (Nat.le_of_ble_eq_true rfl)
  generalize (lg_sl ([.ref (ad 0), .int x1, .int x2]) ++ List.replicate (3 - (lg_sl ([.ref (ad 0), .int x1, .int x2])).length) Slot.unset).toArray = ls at hl ⊢
  have hl : lv_has ls 3 [(0, .ref (ad 0)), (1, .int x1), (2, .int x2)] := hl
  rw [f_X_at] at h
  refine lv_iload_n hx hb d_X_at_0 rfl (lv_at hl 1 rfl) ?_
  obtain ⟨r3, er3, h⟩ := hx_b1s h
  refine hx_rd (va_runS (As := [.int x1]) (rest := []) ⟨hx, hb, hml, hown, hts⟩ (c_X_isRow l D T3 x1 _ er3) (va_cwS 1 hts (hx_gS hx_cons k_431 k_432 k_50 k_433) rfl rfl rfl (by decide +kernel) ⟨Nat.le_of_ble_eq_true rfl, Nat.le_of_ble_eq_true rfl⟩) (hx_preS hx_nil hK) rfl rfl hl.1 rfl (lv_room (Nat.le_of_ble_eq_true rfl)) d_X_at_1 ⟨Nat.zero_le _, Nat.zero_le _⟩) ?_
  refine lv_if_eq (tgt := 19) hx hb d_X_at_4 (by decide) (fun c4 => ?_) (fun c4 => ?_)
  · replace h := hx_ip c4 h
    refine lv_ldc2 (v := -2) hx hb hown (hts _ (hx_cons _ k_291)) d_X_at_19 ?_
    exact W.lret hx hb hr (fun t ht hW => ⟨by rw [Option.some.inj h], ht⟩) (fun q hq => nomatch hq) d_X_at_22
  · replace h := hx_in c4 h
    refine lv_aload_n hx hb d_X_at_7 rfl (lv_at hl 0 rfl) ?_
    refine lv_iload_n hx hb d_X_at_8 rfl (lv_at hl 1 rfl) ?_
    obtain ⟨r5, er5, h⟩ := hx_b1s h
    obtain ⟨g6, h⟩ := hx_gt h
    refine hx_rd (va_runV (As := [.int x1]) (rest := []) ⟨hx, hb, hml, hown, hts⟩ (c_X_rowOf l D T3 ad σ x1 _ er5) (cwV 1 hts (hx_gV hx_cons k_434 k_436 k_9 k_50 k_437) rfl rfl rfl (by decide +kernel) ⟨Nat.le_of_ble_eq_true rfl, Nat.le_of_ble_eq_true rfl⟩) (hx_preV (va_recv hK hP (ci := 0) (q0 := 0) rfl hx_at_X) hP hK) rfl rfl hl.1 rfl (lv_room (Nat.le_of_ble_eq_true rfl)) d_X_at_9 ⟨Nat.zero_le _, Nat.zero_le _⟩) ?_
    refine lv_iload_n hx hb d_X_at_12 rfl (lv_at hl 2 rfl) ?_
    obtain ⟨r7, er7, h⟩ := hx_b1s h
    refine hx_rd (va_runV (As := [.int x2]) (rest := []) ⟨hx, hb, hml, hown, hts⟩ (c_R_has l D T3 (ad (6 + 2 * r5)) (ad (7 + 2 * r5)) (hx_rw σ r5) x2 _ er7) (cwV 1 hts (hx_gV hx_cons k_446 k_447 k_448 k_52 k_449) rfl rfl rfl (by decide +kernel) ⟨Nat.le_of_ble_eq_true rfl, Nat.le_of_ble_eq_true rfl⟩) (hx_preV (va_recv hK hP (ci := 2) (q0 := 6 + 2 * r5) rfl (hx_at_R g6)) (hx_one hP (hx_at_R g6)) hK) rfl rfl hl.1 rfl (lv_room (Nat.le_of_ble_eq_true rfl)) d_X_at_13 ⟨Nat.zero_le _, Nat.zero_le _⟩) ?_
    refine lv_if_ne (tgt := 23) hx hb d_X_at_16 (by decide) (fun c8 => ?_) (fun c8 => ?_)
    · replace h := hx_in c8 h
      refine lv_aload_n hx hb d_X_at_23 rfl (lv_at hl 0 rfl) ?_
      refine lv_iload_n hx hb d_X_at_24 rfl (lv_at hl 1 rfl) ?_
      obtain ⟨r9, er9, h⟩ := hx_b1s h
      obtain ⟨g10, h⟩ := hx_gt h
      refine hx_rd (va_runV (As := [.int x1]) (rest := []) ⟨hx, hb, hml, hown, hts⟩ (c_X_rowOf l D T3 ad σ x1 _ er9) (cwV 1 hts (hx_gV hx_cons k_434 k_436 k_9 k_50 k_437) rfl rfl rfl (by decide +kernel) ⟨Nat.le_of_ble_eq_true rfl, Nat.le_of_ble_eq_true rfl⟩) (hx_preV (va_recv hK hP (ci := 0) (q0 := 0) rfl hx_at_X) hP hK) rfl rfl hl.1 rfl (lv_room (Nat.le_of_ble_eq_true rfl)) d_X_at_25 ⟨Nat.zero_le _, Nat.zero_le _⟩) ?_
      refine va_get (D := D) (ci := 2) (v := .ref (ad (7 + 2 * r9))) (C := "HalfFloats$Row") (T := T_R) (N := 3) hx hb hts (hx_up in_R) hown hK hP (6 + 2 * r9) (hx_at_R g10) rfl 0 (by decide) (hts _ (hx_cons _ k_123)) (fun _ h9 => h9) rfl d_X_at_28 ?_
      refine lv_iload_n hx hb d_X_at_31 rfl (lv_at hl 2 rfl) ?_
      obtain ⟨g11, h⟩ := hx_gs h
      refine va_iald hx hb hK hP (7 + 2 * r9) 1 (hx_at_RP g10) rfl g11 d_X_at_32 ?_
      obtain ⟨r12, er12, h⟩ := hx_b1s h
      refine hx_rd (va_runS (As := [.int (hx_pat σ r9 x2.toNatClampNeg)]) (rest := []) ⟨hx, hb, hml, hown, hts⟩ (c_X_bits l D T3 (hx_pat σ r9 x2.toNatClampNeg) _ er12) (va_cwS 1 hts (hx_gS hx_cons k_342 k_343 k_50 k_344) rfl rfl rfl (by decide +kernel) ⟨Nat.le_of_ble_eq_true rfl, Nat.le_of_ble_eq_true rfl⟩) (hx_preS hx_nil hK) rfl rfl hl.1 rfl (lv_room (Nat.le_of_ble_eq_true rfl)) d_X_at_33 ⟨Nat.zero_le _, Nat.zero_le _⟩) ?_
      exact W.lret hx hb hr (fun t ht hW => ⟨by rw [Option.some.inj h], ht⟩) (fun q hq => nomatch hq) d_X_at_36
    · replace h := hx_ip c8 h
      refine lv_ldc2 (v := -2) hx hb hown (hts _ (hx_cons _ k_291)) d_X_at_19 ?_
      exact W.lret hx hb hr (fun t ht hW => ⟨by rw [Option.some.inj h], ht⟩) (fun q hq => nomatch hq) d_X_at_22
abbrev m_X_count : Room := { frames := 0, cells := 0, slots := 0, locals := 0 }
set_option maxHeartbeats 4000000 in
set_option maxRecDepth 100000 in
theorem c_X_count (l : Launch) (D : va_G) (T3 : hx_T3) (ad : Nat → Nat) (σ : hx_S) (x1 : Int32) (r0 : Int32) (h : f_X_count σ x1 = some r0) : hx_R l D (hx_ty T3) (hx_W T3 ad σ) y_X_count w_X_count m_X_count [.ref (ad 0), .int x1] (.int r0) := by
  refine Met.ofW (cc := b_X_count) (maxL := 2) (ret := (some .int)) (by decide) rfl ?_
  intro p e s m args below meth c s₁ B hml hv
  obtain ⟨hargs, hP, hK⟩ := hv
  have hx := B.exec
  have hb := B.bytes
  have hr := B.returns
  have hts := atoms_spec (ws := w_X_count) B.pre
  have hown : s.vm.findClass "HalfFloats" = some m.cls := findClass_of_methodNamed B.named
  have hlocks := B.notSynchronized
  refine W.eq (g2 := F0 m 0 ((lg_sl [.ref (ad 0), .int x1] ++ List.replicate (2 - (lg_sl [.ref (ad 0), .int x1]).length) Slot.unset).toArray) []) (by rw [hargs, lg_entry_eq]) ?_
  have hl := lv_entry ([.ref (ad 0), .int x1]) (n := 2) (Nat.le_of_ble_eq_true rfl)
  generalize (lg_sl ([.ref (ad 0), .int x1]) ++ List.replicate (2 - (lg_sl ([.ref (ad 0), .int x1])).length) Slot.unset).toArray = ls at hl ⊢
  have hl : lv_has ls 2 [(0, .ref (ad 0)), (1, .int x1)] := hl
  rw [f_X_count] at h
  refine lv_iload_n hx hb d_X_count_0 rfl (lv_at hl 1 rfl) ?_
  by_cases c2 : x1 = 0
  · replace h := hx_ip c2 h
    refine lv_tableIn (tgt := 44) hx hb d_X_count_1 (by rw [c2]; decide) (by rw [c2]; decide) (by rw [c2]; rfl) (by decide) ?_
    refine lv_aload_n hx hb d_X_count_44 rfl (lv_at hl 0 rfl) ?_
    refine va_get (D := D) (ci := 0) (v := .ref (ad (6 + 2 * 0))) (C := "HalfFloats") (T := T_X) (N := 9) hx hb hts (hx_up in_X) hown hK hP (0) hx_at_X rfl 1 (by decide) (hts _ (hx_cons _ k_205)) (fun _ h9 => h9) rfl d_X_count_45 ?_
    refine va_get (D := D) (ci := 2) (v := .int (hx_size σ 0)) (C := "HalfFloats$Row") (T := T_R) (N := 3) hx hb hts (hx_up in_R) hown hK hP (6 + 2 * 0) (hx_at_R (by decide)) rfl 1 (by decide) (hts _ (hx_cons _ k_125)) (fun _ h9 => h9) rfl d_X_count_48 ?_
    exact W.iret hx hb hr (fun t ht hW => ⟨by rw [Option.some.inj h], ht⟩) (fun q hq => nomatch hq) d_X_count_51
  · replace h := hx_in c2 h
    by_cases c3 : x1 = 1
    · replace h := hx_ip c3 h
      refine lv_tableIn (tgt := 52) hx hb d_X_count_1 (by rw [c3]; decide) (by rw [c3]; decide) (by rw [c3]; rfl) (by decide) ?_
      refine lv_aload_n hx hb d_X_count_52 rfl (lv_at hl 0 rfl) ?_
      refine va_get (D := D) (ci := 0) (v := .ref (ad (6 + 2 * 1))) (C := "HalfFloats") (T := T_X) (N := 9) hx hb hts (hx_up in_X) hown hK hP (0) hx_at_X rfl 2 (by decide) (hts _ (hx_cons _ k_206)) (fun _ h9 => h9) rfl d_X_count_53 ?_
      refine va_get (D := D) (ci := 2) (v := .int (hx_size σ 1)) (C := "HalfFloats$Row") (T := T_R) (N := 3) hx hb hts (hx_up in_R) hown hK hP (6 + 2 * 1) (hx_at_R (by decide)) rfl 1 (by decide) (hts _ (hx_cons _ k_125)) (fun _ h9 => h9) rfl d_X_count_56 ?_
      exact W.iret hx hb hr (fun t ht hW => ⟨by rw [Option.some.inj h], ht⟩) (fun q hq => nomatch hq) d_X_count_59
    · replace h := hx_in c3 h
      by_cases c4 : x1 = 2
      · replace h := hx_ip c4 h
        refine lv_tableIn (tgt := 60) hx hb d_X_count_1 (by rw [c4]; decide) (by rw [c4]; decide) (by rw [c4]; rfl) (by decide) ?_
        refine lv_aload_n hx hb d_X_count_60 rfl (lv_at hl 0 rfl) ?_
        refine va_get (D := D) (ci := 0) (v := .ref (ad (6 + 2 * 0))) (C := "HalfFloats") (T := T_X) (N := 9) hx hb hts (hx_up in_X) hown hK hP (0) hx_at_X rfl 1 (by decide) (hts _ (hx_cons _ k_205)) (fun _ h9 => h9) rfl d_X_count_61 ?_
        refine va_get (D := D) (ci := 2) (v := .int (hx_format σ 0)) (C := "HalfFloats$Row") (T := T_R) (N := 3) hx hb hts (hx_up in_R) hown hK hP (6 + 2 * 0) (hx_at_R (by decide)) rfl 2 (by decide) (hts _ (hx_cons _ k_127)) (fun _ h9 => h9) rfl d_X_count_64 ?_
        exact W.iret hx hb hr (fun t ht hW => ⟨by rw [Option.some.inj h], ht⟩) (fun q hq => nomatch hq) d_X_count_67
      · replace h := hx_in c4 h
        by_cases c5 : x1 = 3
        · replace h := hx_ip c5 h
          refine lv_tableIn (tgt := 68) hx hb d_X_count_1 (by rw [c5]; decide) (by rw [c5]; decide) (by rw [c5]; rfl) (by decide) ?_
          refine lv_aload_n hx hb d_X_count_68 rfl (lv_at hl 0 rfl) ?_
          refine va_get (D := D) (ci := 0) (v := .ref (ad (6 + 2 * 1))) (C := "HalfFloats") (T := T_X) (N := 9) hx hb hts (hx_up in_X) hown hK hP (0) hx_at_X rfl 2 (by decide) (hts _ (hx_cons _ k_206)) (fun _ h9 => h9) rfl d_X_count_69 ?_
          refine va_get (D := D) (ci := 2) (v := .int (hx_format σ 1)) (C := "HalfFloats$Row") (T := T_R) (N := 3) hx hb hts (hx_up in_R) hown hK hP (6 + 2 * 1) (hx_at_R (by decide)) rfl 2 (by decide) (hts _ (hx_cons _ k_127)) (fun _ h9 => h9) rfl d_X_count_72 ?_
          exact W.iret hx hb hr (fun t ht hW => ⟨by rw [Option.some.inj h], ht⟩) (fun q hq => nomatch hq) d_X_count_75
        · replace h := hx_in c5 h
          by_cases c6 : x1 = 4
          · replace h := hx_ip c6 h
            refine lv_tableIn (tgt := 76) hx hb d_X_count_1 (by rw [c6]; decide) (by rw [c6]; decide) (by rw [c6]; rfl) (by decide) ?_
            refine lv_aload_n hx hb d_X_count_76 rfl (lv_at hl 0 rfl) ?_
            refine va_get (D := D) (ci := 0) (v := .int (hx_shift σ)) (C := "HalfFloats") (T := T_X) (N := 9) hx hb hts (hx_up in_X) hown hK hP (0) hx_at_X rfl 6 (by decide) (hts _ (hx_cons _ k_210)) (fun _ h9 => h9) rfl d_X_count_77 ?_
            exact W.iret hx hb hr (fun t ht hW => ⟨by rw [Option.some.inj h], ht⟩) (fun q hq => nomatch hq) d_X_count_80
          · replace h := hx_in c6 h
            by_cases c7 : x1 = 5
            · replace h := hx_ip c7 h
              refine lv_tableIn (tgt := 81) hx hb d_X_count_1 (by rw [c7]; decide) (by rw [c7]; decide) (by rw [c7]; rfl) (by decide) ?_
              refine lv_aload_n hx hb d_X_count_81 rfl (lv_at hl 0 rfl) ?_
              refine va_get (D := D) (ci := 0) (v := .int (hx_streak σ)) (C := "HalfFloats") (T := T_X) (N := 9) hx hb hts (hx_up in_X) hown hK hP (0) hx_at_X rfl 7 (by decide) (hts _ (hx_cons _ k_211)) (fun _ h9 => h9) rfl d_X_count_82 ?_
              exact W.iret hx hb hr (fun t ht hW => ⟨by rw [Option.some.inj h], ht⟩) (fun q hq => nomatch hq) d_X_count_85
            · replace h := hx_in c7 h
              by_cases c8 : x1 = 6
              · replace h := hx_ip c8 h
                refine lv_tableIn (tgt := 86) hx hb d_X_count_1 (by rw [c8]; decide) (by rw [c8]; decide) (by rw [c8]; rfl) (by decide) ?_
                refine lv_aload_n hx hb d_X_count_86 rfl (lv_at hl 0 rfl) ?_
                refine va_get (D := D) (ci := 0) (v := .int (hx_goal σ)) (C := "HalfFloats") (T := T_X) (N := 9) hx hb hts (hx_up in_X) hown hK hP (0) hx_at_X rfl 8 (by decide) (hts _ (hx_cons _ k_212)) (fun _ h9 => h9) rfl d_X_count_87 ?_
                exact W.iret hx hb hr (fun t ht hW => ⟨by rw [Option.some.inj h], ht⟩) (fun q hq => nomatch hq) d_X_count_90
              · replace h := hx_in c8 h
                have tc2 := lv_neT (a := 0) c2 (by decide)
                have tc3 := lv_neT (a := 1) c3 (by decide)
                have tc4 := lv_neT (a := 2) c4 (by decide)
                have tc5 := lv_neT (a := 3) c5 (by decide)
                have tc6 := lv_neT (a := 4) c6 (by decide)
                have tc7 := lv_neT (a := 5) c7 (by decide)
                have tc8 := lv_neT (a := 6) c8 (by decide)
                refine lv_tableOut (tgt := 91) hx hb d_X_count_1 (by omega) (by decide) ?_
                refine lv_ldc (v := 1000000) hx hb hown (hts _ (hx_cons _ k_260)) d_X_count_91 ?_
                exact W.iret hx hb hr (fun t ht hW => ⟨by rw [Option.some.inj h], ht⟩) (fun q hq => nomatch hq) d_X_count_93
