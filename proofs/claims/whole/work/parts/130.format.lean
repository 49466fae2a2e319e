def f_F_become_74 (σ : hx_Fm) (x20 : Int32) (x21 : Int32) (x22 : Int32) : Option hx_Fm := hx_n (hx_fm_theNan_s σ x22) (fun σ23 => hx_n (((1 : Int32) <<< ((x20 - (1 : Int32)) &&& 31)) - (1 : Int32)) (fun x24 => hx_n ((1 : Int32) - x24) (fun x25 => hx_n (hx_fm_leastTop_s σ23 x25) (fun σ26 => hx_n ((hx_fm_leastTop σ26) - x21) (fun x27 => hx_n (hx_fm_leastPower_s σ26 x27) (fun σ28 => some σ28))))))
def f_F_become_53 (σ : hx_Fm) (x12 : Int32) (x13 : Int32) (x14 : Int32) (x15 : Int32) (x16 : Int32) (x17 : Int32) : Option hx_Fm := hx_n (hx_fm_limit_s σ x17) (fun σ18 => (if x14 = 0 then (f_F_become_74 σ18 x12 x13 (x15 + ((1 : Int32) <<< ((x13 - (1 : Int32)) &&& 31)))) else (f_F_become_74 σ18 x12 x13 x16)))
def f_F_become (v : hx_Fm) (x1 : Int32) (x2 : Int32) (x3 : Int32) : Option hx_Fm := hx_n (hx_fm_expBits_s v x1) (fun σ4 => hx_n (hx_fm_fracBits_s σ4 x2) (fun σ5 => hx_n (hx_fm_kind_s σ5 x3) (fun σ6 => hx_n (x1 + x2) (fun x7 => hx_n (hx_fm_width_s σ6 x7) (fun σ8 => hx_n ((((1 : Int32) <<< (x1 &&& 31)) - (1 : Int32)) <<< (x2 &&& 31)) (fun x9 => hx_n ((x9 + ((1 : Int32) <<< (x2 &&& 31))) - (1 : Int32)) (fun x10 => (if x3 = 0 then (f_F_become_53 σ8 x1 x2 x3 x9 x10 x9) else (f_F_become_53 σ8 x1 x2 x3 x9 x10 x10)))))))))
def f_F_holds (v : hx_Fm) (x1 : Int32) : Option Int32 := (if (31 : Int32) ≤ (hx_fm_width v) then some (1 : Int32) else (if (x1.toUInt32 >>> (((hx_fm_width v) + (1 : Int32)).toUInt32 &&& Int32.toUInt32 31)).toInt32 = 0 then some (1 : Int32) else some (0 : Int32)))
def f_F_unsigned (v : hx_Fm) (x1 : Int32) : Option Int32 := some (x1 &&& (((1 : Int64) <<< ((hx_fm_width v).toInt64 &&& 63)) - (1 : Int64)).toInt32)
def f_F_isNegative (v : hx_Fm) (x1 : Int32) : Option Int32 := (if ((x1.toUInt32 >>> ((hx_fm_width v).toUInt32 &&& Int32.toUInt32 31)).toInt32 &&& (1 : Int32)) = (1 : Int32) then some (1 : Int32) else some (0 : Int32))
def f_F_signed (v : hx_Fm) (x1 : Int32) (x2 : Int32) : Option Int32 := (if x1 = 0 then some x2 else some (x2 ||| ((1 : Int32) <<< ((hx_fm_width v) &&& 31))))
def f_F_turnedOver (v : hx_Fm) (x1 : Int32) : Option Int32 := some (x1 ^^^ ((1 : Int32) <<< ((hx_fm_width v) &&& 31)))
def f_F_sortOf (v : hx_Fm) (x1 : Int32) : Option Int32 := hx_b1 (f_F_unsigned v x1) (fun r2 => (if r2 = 0 then some (0 : Int32) else (if (hx_fm_limit v) ≤ r2 then (if r2 = (hx_fm_limit v) then (if (hx_fm_kind v) = 0 then some (3 : Int32) else some (4 : Int32)) else some (4 : Int32)) else (if (r2.toUInt32 >>> ((hx_fm_fracBits v).toUInt32 &&& Int32.toUInt32 31)).toInt32 = 0 then some (1 : Int32) else some (2 : Int32)))))
def f_F_wholeOf (v : hx_Fm) (x1 : Int32) : Option Int64 := hx_b1 (f_F_unsigned v x1) (fun r2 => hx_n (r2 &&& (((1 : Int32) <<< ((hx_fm_fracBits v) &&& 31)) - (1 : Int32))) (fun x3 => (if (r2.toUInt32 >>> ((hx_fm_fracBits v).toUInt32 &&& Int32.toUInt32 31)).toInt32 = 0 then some x3.toInt64 else some ((x3 + ((1 : Int32) <<< ((hx_fm_fracBits v) &&& 31))).toInt64))))
def f_F_powerOf (v : hx_Fm) (x1 : Int32) : Option Int32 := hx_b1 (f_F_unsigned v x1) (fun r2 => some (((hx_fm_leastPower v) + (if (r2.toUInt32 >>> ((hx_fm_fracBits v).toUInt32 &&& Int32.toUInt32 31)).toInt32 < (1 : Int32) then (1 : Int32) else (r2.toUInt32 >>> ((hx_fm_fracBits v).toUInt32 &&& Int32.toUInt32 31)).toInt32)) - (1 : Int32)))
def f_F_topOf (v : hx_Fm) (x1 : Int32) : Option Int32 := hx_b1 (f_F_powerOf v x1) (fun r2 => hx_b1 (f_F_wholeOf v x1) (fun r3 => hx_b1 (f_JL_numberOfLeadingZeros r3) (fun r4 => some ((r2 + (63 : Int32)) - r4))))
def f_R_has (v : hx_Rw) (x1 : Int32) : Option Int32 := (if x1 < 0 then some (0 : Int32) else (if (hx_rw_size v) ≤ x1 then some (0 : Int32) else some (1 : Int32)))
def f_R_uses (v : hx_Rw) (x1 : Int32) : Option Int32 := (if (hx_rw_size v) ≤ 0 then some (0 : Int32) else (if (hx_rw_format v) = x1 then some (1 : Int32) else some (0 : Int32)))
abbrev m_F_become : Room := { frames := 0, cells := 0, slots := 0, locals := 0 }
set_option maxHeartbeats 4000000 in
set_option maxRecDepth 100000 in
theorem c_F_become (l : Launch) (D : va_G) (T3 : hx_T3) (h1 : Nat) (sz : Nat) (v : hx_Fm) (x1 : Int32) (x2 : Int32) (x3 : Int32)  (σ0 : hx_Fm) (h : f_F_become v x1 x2 x3 = some σ0) : hx_Wv l D (hx_ty T3) y_F_become w_F_become m_F_become [.ref (h1), .int x1, .int x2, .int x3] sz (hx_F1 h1 v) (hx_F1 h1 σ0) := by
  refine Met.ofW (cc := b_F_become) (maxL := 7) (ret := none) (by decide) rfl ?_
  intro p e s m args below meth c s₁ B hml hv
  obtain ⟨hargs, hsz, hP, hK, hD0⟩ := hv
  have hx := B.exec
  have hb := B.bytes
  have hr := B.returns
  have hts := atoms_spec (ws := w_F_become) B.pre
  have hown : s.vm.findClass "HalfFloats$Format" = some m.cls := findClass_of_methodNamed B.named
  have hlocks := B.notSynchronized
  subst hsz
  have hD := hD0.self (sz := s.heap.size)
  generalize hAe : va_A (hx_F1 h1 v) s.heap.size = A at hD ⊢
  have hA : ∀ q : Nat, s.heap.size ≤ q → A q := fun q h => by rw [← hAe]; exact Or.inr h
  have hS : va_S A s.heap s.heap [] := va_S.rf
  have B_74 : ∀ (σ : hx_Fm) (x20 : Int32) (x21 : Int32) (x22 : Int32) (H : Heap) (locs : List Loc) (ls : Array Slot), va_P D vwCl (hx_F1 h1 σ) H → va_D A (hx_F1 h1 σ) → va_S A s.heap H locs → lv_has ls 7 [(0, .ref (h1)), (1, .int x20), (2, .int x21)] → f_F_become_74 σ x20 x21 x22 = some σ0 → W p l e (headSpec w_F_become m_F_become).room s m args below meth c H locs 0 0 (MQ below (hx_Qv D (hx_ty T3) A (hx_F1 h1 σ0)) args s 0 0 A) (F0 m 74 ls [.int x22, .ref (h1)]) := by
      intro σ x20 x21 x22 H locs ls hP hD hS hl h
      rw [f_F_become_74] at h
      refine va_put (D := D) (ci := 1) (v := .int x22) (ty := .int) (C := "HalfFloats$Format") (T := T_F) (N := 8) hx hb hts (hx_up in_F) ty_F tyok_F nm_F hown hK hP hD hS (0) hx_at_F1 rfl 5 (by decide) (hts _ (hx_cons _ k_93)) (fun _ h9 => h9) rfl (by decide +kernel) rfl rfl (Nat.le_of_ble_eq_true rfl) d_F_become_74 (fun H locs hP hD hS => ?_)
      obtain ⟨σ23, eσ23⟩ : ∃ y : hx_Fm, y = (hx_fm_theNan_s σ x22) := ⟨_, rfl⟩
      replace hP : va_P D vwCl (hx_F1 h1 σ23) H := by rw [eσ23]; exact hP
      replace hD : va_D A (hx_F1 h1 σ23) := by rw [eσ23]; exact hD
      replace h := hx_ns eσ23 h
      clear eσ23
      refine lv_iconst (v := 1) hx hb d_F_become_77 (by decide) ?_
      refine lv_iload_n hx hb d_F_become_78 rfl (lv_at hl 1 rfl) ?_
      refine lv_iconst (v := 1) hx hb d_F_become_79 (by decide) ?_
      refine lv_isub hx hb d_F_become_80 ?_
      refine lv_ishl hx hb d_F_become_81 ?_
      refine lv_iconst (v := 1) hx hb d_F_become_82 (by decide) ?_
      refine lv_isub hx hb d_F_become_83 ?_
      refine lv_topi (fun x24 ex24 => ?_)
      replace h := hx_ns ex24 h
      clear ex24
      refine lv_istore (lv' := [(6, .int x24), (0, .ref (h1)), (1, .int x20), (2, .int x21)]) hx hb d_F_become_84 hl (by decide) rfl (fun ls hl => ?_)
      refine lv_aload_n hx hb d_F_become_86 rfl (lv_at hl 1 rfl) ?_
      refine lv_iconst (v := 1) hx hb d_F_become_87 (by decide) ?_
      refine lv_iload hx hb d_F_become_88 (lv_at hl 0 rfl) ?_
      refine lv_isub hx hb d_F_become_90 ?_
      refine lv_topi (fun x25 ex25 => ?_)
      replace h := hx_ns ex25 h
      clear ex25
      refine va_put (D := D) (ci := 1) (v := .int x25) (ty := .int) (C := "HalfFloats$Format") (T := T_F) (N := 8) hx hb hts (hx_up in_F) ty_F tyok_F nm_F hown hK hP hD hS (0) hx_at_F1 rfl 6 (by decide) (hts _ (hx_cons _ k_95)) (fun _ h9 => h9) rfl (by decide +kernel) rfl rfl (Nat.le_of_ble_eq_true rfl) d_F_become_91 (fun H locs hP hD hS => ?_)
      obtain ⟨σ26, eσ26⟩ : ∃ y : hx_Fm, y = (hx_fm_leastTop_s σ23 x25) := ⟨_, rfl⟩
      replace hP : va_P D vwCl (hx_F1 h1 σ26) H := by rw [eσ26]; exact hP
      replace hD : va_D A (hx_F1 h1 σ26) := by rw [eσ26]; exact hD
      replace h := hx_ns eσ26 h
      clear eσ26
      refine lv_aload_n hx hb d_F_become_94 rfl (lv_at hl 1 rfl) ?_
      refine lv_aload_n hx hb d_F_become_95 rfl (lv_at hl 1 rfl) ?_
      refine va_get (D := D) (ci := 1) (v := .int (hx_fm_leastTop σ26)) (C := "HalfFloats$Format") (T := T_F) (N := 8) hx hb hts (hx_up in_F) hown hK hP (0) hx_at_F1 rfl 6 (by decide) (hts _ (hx_cons _ k_95)) (fun _ h9 => h9) rfl d_F_become_96 ?_
      refine lv_iload_n hx hb d_F_become_99 rfl (lv_at hl 3 rfl) ?_
      refine lv_isub hx hb d_F_become_100 ?_
      refine lv_topi (fun x27 ex27 => ?_)
      replace h := hx_ns ex27 h
      clear ex27
      refine va_put (D := D) (ci := 1) (v := .int x27) (ty := .int) (C := "HalfFloats$Format") (T := T_F) (N := 8) hx hb hts (hx_up in_F) ty_F tyok_F nm_F hown hK hP hD hS (0) hx_at_F1 rfl 7 (by decide) (hts _ (hx_cons _ k_97)) (fun _ h9 => h9) rfl (by decide +kernel) rfl rfl (Nat.le_of_ble_eq_true rfl) d_F_become_101 (fun H locs hP hD hS => ?_)
      obtain ⟨σ28, eσ28⟩ : ∃ y : hx_Fm, y = (hx_fm_leastPower_s σ26 x27) := ⟨_, rfl⟩
      replace hP : va_P D vwCl (hx_F1 h1 σ28) H := by rw [eσ28]; exact hP
      replace hD : va_D A (hx_F1 h1 σ28) := by rw [eσ28]; exact hD
      replace h := hx_ns eσ28 h
      clear eσ28
      exact W.vret hx hb hr (fun t ht hW => hx_endv h ht hW hP hK hD hS) hS.2.2 d_F_become_104
  have B_53 : ∀ (σ : hx_Fm) (x12 : Int32) (x13 : Int32) (x14 : Int32) (x15 : Int32) (x16 : Int32) (x17 : Int32) (H : Heap) (locs : List Loc) (ls : Array Slot), va_P D vwCl (hx_F1 h1 σ) H → va_D A (hx_F1 h1 σ) → va_S A s.heap H locs → lv_has ls 7 [(0, .ref (h1)), (1, .int x12), (2, .int x13), (3, .int x14), (4, .int x15), (5, .int x16)] → f_F_become_53 σ x12 x13 x14 x15 x16 x17 = some σ0 → W p l e (headSpec w_F_become m_F_become).room s m args below meth c H locs 0 0 (MQ below (hx_Qv D (hx_ty T3) A (hx_F1 h1 σ0)) args s 0 0 A) (F0 m 53 ls [.int x17, .ref (h1)]) := by
      intro σ x12 x13 x14 x15 x16 x17 H locs ls hP hD hS hl h
      rw [f_F_become_53] at h
      refine va_put (D := D) (ci := 1) (v := .int x17) (ty := .int) (C := "HalfFloats$Format") (T := T_F) (N := 8) hx hb hts (hx_up in_F) ty_F tyok_F nm_F hown hK hP hD hS (0) hx_at_F1 rfl 4 (by decide) (hts _ (hx_cons _ k_89)) (fun _ h9 => h9) rfl (by decide +kernel) rfl rfl (Nat.le_of_ble_eq_true rfl) d_F_become_53 (fun H locs hP hD hS => ?_)
      obtain ⟨σ18, eσ18⟩ : ∃ y : hx_Fm, y = (hx_fm_limit_s σ x17) := ⟨_, rfl⟩
      replace hP : va_P D vwCl (hx_F1 h1 σ18) H := by rw [eσ18]; exact hP
      replace hD : va_D A (hx_F1 h1 σ18) := by rw [eσ18]; exact hD
      replace h := hx_ns eσ18 h
      clear eσ18
      refine lv_aload_n hx hb d_F_become_56 rfl (lv_at hl 0 rfl) ?_
      refine lv_iload_n hx hb d_F_become_57 rfl (lv_at hl 3 rfl) ?_
      refine lv_if_ne (tgt := 72) hx hb d_F_become_58 (by decide) (fun c19 => ?_) (fun c19 => ?_)
      · replace h := hx_in c19 h
        refine lv_iload hx hb d_F_become_72 (lv_at hl 5 rfl) ?_
        exact B_74 σ18 x12 x13 x16 _ _ ls hP hD hS (lv_sub hl [0, 1, 2] rfl) h
      · replace h := hx_ip c19 h
        refine lv_iload hx hb d_F_become_61 (lv_at hl 4 rfl) ?_
        refine lv_iconst (v := 1) hx hb d_F_become_63 (by decide) ?_
        refine lv_iload_n hx hb d_F_become_64 rfl (lv_at hl 2 rfl) ?_
        refine lv_iconst (v := 1) hx hb d_F_become_65 (by decide) ?_
        refine lv_isub hx hb d_F_become_66 ?_
        refine lv_ishl hx hb d_F_become_67 ?_
        refine lv_iadd hx hb d_F_become_68 ?_
        refine lv_goto (tgt := 74) hx hb d_F_become_69 (by decide) ?_
        exact B_74 σ18 x12 x13 (x15 + ((1 : Int32) <<< ((x13 - (1 : Int32)) &&& 31))) _ _ ls hP hD hS (lv_sub hl [0, 1, 2] rfl) h
  refine W.eq (g2 := F0 m 0 ((lg_sl [.ref (h1), .int x1, .int x2, .int x3] ++ List.replicate (7 - (lg_sl [.ref (h1), .int x1, .int x2, .int x3]).length) Slot.unset).toArray) []) (by rw [hargs, lg_entry_eq]) ?_
  have hl := lv_entry ([.ref (h1), .int x1, .int x2, .int x3]) (n := 7) (Nat.le_of_ble_eq_true rfl)
  generalize (lg_sl ([.ref (h1), .int x1, .int x2, .int x3]) ++ List.replicate (7 - (lg_sl ([.ref (h1), .int x1, .int x2, .int x3])).length) Slot.unset).toArray = ls at hl ⊢
  have hl : lv_has ls 7 [(0, .ref (h1)), (1, .int x1), (2, .int x2), (3, .int x3)] := hl
  rw [f_F_become] at h
  refine lv_aload_n hx hb d_F_become_0 rfl (lv_at hl 0 rfl) ?_
  refine lv_iload_n hx hb d_F_become_1 rfl (lv_at hl 1 rfl) ?_
  refine va_put (D := D) (ci := 1) (v := .int x1) (ty := .int) (C := "HalfFloats$Format") (T := T_F) (N := 8) hx hb hts (hx_up in_F) ty_F tyok_F nm_F hown hK hP hD hS (0) hx_at_F1 rfl 0 (by decide) (hts _ (hx_cons _ k_79)) (fun _ h9 => h9) rfl (by decide +kernel) rfl rfl (Nat.le_of_ble_eq_true rfl) d_F_become_2 (fun H locs hP hD hS => ?_)
  obtain ⟨σ4, eσ4⟩ : ∃ y : hx_Fm, y = (hx_fm_expBits_s v x1) := ⟨_, rfl⟩
  replace hP : va_P D vwCl (hx_F1 h1 σ4) H := by rw [eσ4]; exact hP
  replace hD : va_D A (hx_F1 h1 σ4) := by rw [eσ4]; exact hD
  replace h := hx_ns eσ4 h
  clear eσ4
  refine lv_aload_n hx hb d_F_become_5 rfl (lv_at hl 0 rfl) ?_
  refine lv_iload_n hx hb d_F_become_6 rfl (lv_at hl 2 rfl) ?_
  refine va_put (D := D) (ci := 1) (v := .int x2) (ty := .int) (C := "HalfFloats$Format") (T := T_F) (N := 8) hx hb hts (hx_up in_F) ty_F tyok_F nm_F hown hK hP hD hS (0) hx_at_F1 rfl 1 (by decide) (hts _ (hx_cons _ k_81)) (fun _ h9 => h9) rfl (by decide +kernel) rfl rfl (Nat.le_of_ble_eq_true rfl) d_F_become_7 (fun H locs hP hD hS => ?_)
  obtain ⟨σ5, eσ5⟩ : ∃ y : hx_Fm, y = (hx_fm_fracBits_s σ4 x2) := ⟨_, rfl⟩
  replace hP : va_P D vwCl (hx_F1 h1 σ5) H := by rw [eσ5]; exact hP
  replace hD : va_D A (hx_F1 h1 σ5) := by rw [eσ5]; exact hD
  replace h := hx_ns eσ5 h
  clear eσ5
  refine lv_aload_n hx hb d_F_become_10 rfl (lv_at hl 0 rfl) ?_
  refine lv_iload_n hx hb d_F_become_11 rfl (lv_at hl 3 rfl) ?_
  refine va_put (D := D) (ci := 1) (v := .int x3) (ty := .int) (C := "HalfFloats$Format") (T := T_F) (N := 8) hx hb hts (hx_up in_F) ty_F tyok_F nm_F hown hK hP hD hS (0) hx_at_F1 rfl 2 (by decide) (hts _ (hx_cons _ k_84)) (fun _ h9 => h9) rfl (by decide +kernel) rfl rfl (Nat.le_of_ble_eq_true rfl) d_F_become_12 (fun H locs hP hD hS => ?_)
  obtain ⟨σ6, eσ6⟩ : ∃ y : hx_Fm, y = (hx_fm_kind_s σ5 x3) := ⟨_, rfl⟩
  replace hP : va_P D vwCl (hx_F1 h1 σ6) H := by rw [eσ6]; exact hP
  replace hD : va_D A (hx_F1 h1 σ6) := by rw [eσ6]; exact hD
  replace h := hx_ns eσ6 h
  clear eσ6
  refine lv_aload_n hx hb d_F_become_15 rfl (lv_at hl 0 rfl) ?_
  refine lv_iload_n hx hb d_F_become_16 rfl (lv_at hl 1 rfl) ?_
  refine lv_iload_n hx hb d_F_become_17 rfl (lv_at hl 2 rfl) ?_
  refine lv_iadd hx hb d_F_become_18 ?_
  refine lv_topi (fun x7 ex7 => ?_)
  replace h := hx_ns ex7 h
  clear ex7
  refine va_put (D := D) (ci := 1) (v := .int x7) (ty := .int) (C := "HalfFloats$Format") (T := T_F) (N := 8) hx hb hts (hx_up in_F) ty_F tyok_F nm_F hown hK hP hD hS (0) hx_at_F1 rfl 3 (by decide) (hts _ (hx_cons _ k_87)) (fun _ h9 => h9) rfl (by decide +kernel) rfl rfl (Nat.le_of_ble_eq_true rfl) d_F_become_19 (fun H locs hP hD hS => ?_)
  obtain ⟨σ8, eσ8⟩ : ∃ y : hx_Fm, y = (hx_fm_width_s σ6 x7) := ⟨_, rfl⟩
  replace hP : va_P D vwCl (hx_F1 h1 σ8) H := by rw [eσ8]; exact hP
  replace hD : va_D A (hx_F1 h1 σ8) := by rw [eσ8]; exact hD
  replace h := hx_ns eσ8 h
  clear eσ8
  refine lv_iconst (v := 1) hx hb d_F_become_22 (by decide) ?_
  refine lv_iload_n hx hb d_F_become_23 rfl (lv_at hl 1 rfl) ?_
  refine lv_ishl hx hb d_F_become_24 ?_
  refine lv_iconst (v := 1) hx hb d_F_become_25 (by decide) ?_
  refine lv_isub hx hb d_F_become_26 ?_
  refine lv_iload_n hx hb d_F_become_27 rfl (lv_at hl 2 rfl) ?_
  refine lv_ishl hx hb d_F_become_28 ?_
  refine lv_topi (fun x9 ex9 => ?_)
  replace h := hx_ns ex9 h
  clear ex9
  refine lv_istore (lv' := [(4, .int x9), (0, .ref (h1)), (1, .int x1), (2, .int x2), (3, .int x3)]) hx hb d_F_become_29 hl (by decide) rfl (fun ls hl => ?_)
  refine lv_iload hx hb d_F_become_31 (lv_at hl 0 rfl) ?_
  refine lv_iconst (v := 1) hx hb d_F_become_33 (by decide) ?_
  refine lv_iload_n hx hb d_F_become_34 rfl (lv_at hl 3 rfl) ?_
  refine lv_ishl hx hb d_F_become_35 ?_
  refine lv_iadd hx hb d_F_become_36 ?_
  refine lv_iconst (v := 1) hx hb d_F_become_37 (by decide) ?_
  refine lv_isub hx hb d_F_become_38 ?_
  refine lv_topi (fun x10 ex10 => ?_)
  replace h := hx_ns ex10 h
  clear ex10
  refine lv_istore (lv' := [(5, .int x10), (4, .int x9), (0, .ref (h1)), (1, .int x1), (2, .int x2), (3, .int x3)]) hx hb d_F_become_39 hl (by decide) rfl (fun ls hl => ?_)
  refine lv_aload_n hx hb d_F_become_41 rfl (lv_at hl 2 rfl) ?_
  refine lv_iload_n hx hb d_F_become_42 rfl (lv_at hl 5 rfl) ?_
  refine lv_if_ne (tgt := 51) hx hb d_F_become_43 (by decide) (fun c11 => ?_) (fun c11 => ?_)
  · replace h := hx_in c11 h
    refine lv_iload hx hb d_F_become_51 (lv_at hl 0 rfl) ?_
    exact B_53 σ8 x1 x2 x3 x9 x10 x10 _ _ ls hP hD hS (lv_sub hl [2, 3, 4, 5, 1, 0] rfl) h
  · replace h := hx_ip c11 h
    refine lv_iload hx hb d_F_become_46 (lv_at hl 1 rfl) ?_
    refine lv_goto (tgt := 53) hx hb d_F_become_48 (by decide) ?_
    exact B_53 σ8 x1 x2 x3 x9 x10 x9 _ _ ls hP hD hS (lv_sub hl [2, 3, 4, 5, 1, 0] rfl) h
abbrev m_F_holds : Room := { frames := 0, cells := 0, slots := 0, locals := 0 }
set_option maxHeartbeats 4000000 in
set_option maxRecDepth 100000 in
theorem c_F_holds (l : Launch) (D : va_G) (T3 : hx_T3) (h1 : Nat) (v : hx_Fm) (x1 : Int32) (r0 : Int32) (h : f_F_holds v x1 = some r0) : hx_R l D (hx_ty T3) (hx_F1 h1 v) y_F_holds w_F_holds m_F_holds [.ref (h1), .int x1] (.int r0) := by
  refine Met.ofW (cc := b_F_holds) (maxL := 2) (ret := (some .boolean)) (by decide) rfl ?_
  intro p e s m args below meth c s₁ B hml hv
  obtain ⟨hargs, hP, hK⟩ := hv
  have hx := B.exec
  have hb := B.bytes
  have hr := B.returns
  have hts := atoms_spec (ws := w_F_holds) B.pre
  have hown : s.vm.findClass "HalfFloats$Format" = some m.cls := findClass_of_methodNamed B.named
  have hlocks := B.notSynchronized
  refine W.eq (g2 := F0 m 0 ((lg_sl [.ref (h1), .int x1] ++ List.replicate (2 - (lg_sl [.ref (h1), .int x1]).length) Slot.unset).toArray) []) (by rw [hargs, lg_entry_eq]) ?_
  have hl := lv_entry ([.ref (h1), .int x1]) (n := 2) (Nat.le_of_ble_eq_true rfl)
  generalize (lg_sl ([.ref (h1), .int x1]) ++ List.replicate (2 - (lg_sl ([.ref (h1), .int x1])).length) Slot.unset).toArray = ls at hl ⊢
  have hl : lv_has ls 2 [(0, .ref (h1)), (1, .int x1)] := hl
  rw [f_F_holds] at h
  refine lv_aload_n hx hb d_F_holds_0 rfl (lv_at hl 0 rfl) ?_
  refine va_get (D := D) (ci := 1) (v := .int (hx_fm_width v)) (C := "HalfFloats$Format") (T := T_F) (N := 8) hx hb hts (hx_up in_F) hown hK hP (0) hx_at_F1 rfl 3 (by decide) (hts _ (hx_cons _ k_87)) (fun _ h9 => h9) rfl d_F_holds_1 ?_
  refine lv_bipush (v := 31) hx hb d_F_holds_4 (by decide) ?_
  refine lv_icmp_ge (tgt := 20) hx hb d_F_holds_6 (by decide) (fun c2 => ?_) (fun c2 => ?_)
  · replace h := hx_ip c2 h
    refine lv_iconst (v := 1) hx hb d_F_holds_20 (by decide) ?_
    refine lv_goto (tgt := 25) hx hb d_F_holds_21 (by decide) ?_
    exact W.zret hx hb hr (hx_nb (Or.inr rfl)) (fun t ht hW => ⟨by rw [Option.some.inj h], ht⟩) (fun q hq => nomatch hq) d_F_holds_25
  · replace h := hx_in c2 h
    refine lv_iload_n hx hb d_F_holds_9 rfl (lv_at hl 1 rfl) ?_
    refine lv_aload_n hx hb d_F_holds_10 rfl (lv_at hl 0 rfl) ?_
    refine va_get (D := D) (ci := 1) (v := .int (hx_fm_width v)) (C := "HalfFloats$Format") (T := T_F) (N := 8) hx hb hts (hx_up in_F) hown hK hP (0) hx_at_F1 rfl 3 (by decide) (hts _ (hx_cons _ k_87)) (fun _ h9 => h9) rfl d_F_holds_11 ?_
    refine lv_iconst (v := 1) hx hb d_F_holds_14 (by decide) ?_
    refine lv_iadd hx hb d_F_holds_15 ?_
    refine lv_iushr hx hb d_F_holds_16 rfl ?_
    refine lv_if_ne (tgt := 24) hx hb d_F_holds_17 (by decide) (fun c3 => ?_) (fun c3 => ?_)
    · replace h := hx_in c3 h
      refine lv_iconst (v := 0) hx hb d_F_holds_24 (by decide) ?_
      exact W.zret hx hb hr (hx_nb (Or.inl rfl)) (fun t ht hW => ⟨by rw [Option.some.inj h], ht⟩) (fun q hq => nomatch hq) d_F_holds_25
    · replace h := hx_ip c3 h
      refine lv_iconst (v := 1) hx hb d_F_holds_20 (by decide) ?_
      refine lv_goto (tgt := 25) hx hb d_F_holds_21 (by decide) ?_
      exact W.zret hx hb hr (hx_nb (Or.inr rfl)) (fun t ht hW => ⟨by rw [Option.some.inj h], ht⟩) (fun q hq => nomatch hq) d_F_holds_25
abbrev m_F_unsigned : Room := { frames := 0, cells := 0, slots := 0, locals := 0 }
set_option maxHeartbeats 4000000 in
set_option maxRecDepth 100000 in
theorem c_F_unsigned (l : Launch) (D : va_G) (T3 : hx_T3) (h1 : Nat) (v : hx_Fm) (x1 : Int32) (r0 : Int32) (h : f_F_unsigned v x1 = some r0) : hx_R l D (hx_ty T3) (hx_F1 h1 v) y_F_unsigned w_F_unsigned m_F_unsigned [.ref (h1), .int x1] (.int r0) := by
  refine Met.ofW (cc := b_F_unsigned) (maxL := 2) (ret := (some .int)) (by decide) rfl ?_
  intro p e s m args below meth c s₁ B hml hv
  obtain ⟨hargs, hP, hK⟩ := hv
  have hx := B.exec
  have hb := B.bytes
  have hr := B.returns
  have hts := atoms_spec (ws := w_F_unsigned) B.pre
  have hown : s.vm.findClass "HalfFloats$Format" = some m.cls := findClass_of_methodNamed B.named
  have hlocks := B.notSynchronized
  refine W.eq (g2 := F0 m 0 ((lg_sl [.ref (h1), .int x1] ++ List.replicate (2 - (lg_sl [.ref (h1), .int x1]).length) Slot.unset).toArray) []) (by rw [hargs, lg_entry_eq]) ?_
  have hl := lv_entry ([.ref (h1), .int x1]) (n := 2) (Nat.le_of_ble_eq_true rfl)
  generalize (lg_sl ([.ref (h1), .int x1]) ++ List.replicate (2 - (lg_sl ([.ref (h1), .int x1])).length) Slot.unset).toArray = ls at hl ⊢
  have hl : lv_has ls 2 [(0, .ref (h1)), (1, .int x1)] := hl
  rw [f_F_unsigned] at h
  refine lv_iload_n hx hb d_F_unsigned_0 rfl (lv_at hl 1 rfl) ?_
  refine lv_lconst (v := 1) hx hb d_F_unsigned_1 rfl ?_
  refine lv_aload_n hx hb d_F_unsigned_2 rfl (lv_at hl 0 rfl) ?_
  refine va_get (D := D) (ci := 1) (v := .int (hx_fm_width v)) (C := "HalfFloats$Format") (T := T_F) (N := 8) hx hb hts (hx_up in_F) hown hK hP (0) hx_at_F1 rfl 3 (by decide) (hts _ (hx_cons _ k_87)) (fun _ h9 => h9) rfl d_F_unsigned_3 ?_
  refine lv_lshl hx hb d_F_unsigned_6 rfl ?_
  refine lv_lconst (v := 1) hx hb d_F_unsigned_7 rfl ?_
  refine lv_lsub hx hb d_F_unsigned_8 ?_
  refine lv_l2i hx hb d_F_unsigned_9 rfl ?_
  refine lv_iand hx hb d_F_unsigned_10 ?_
  exact W.iret hx hb hr (fun t ht hW => ⟨by rw [Option.some.inj h], ht⟩) (fun q hq => nomatch hq) d_F_unsigned_11
abbrev m_F_isNegative : Room := { frames := 0, cells := 0, slots := 0, locals := 0 }
set_option maxHeartbeats 4000000 in
set_option maxRecDepth 100000 in
theorem c_F_isNegative (l : Launch) (D : va_G) (T3 : hx_T3) (h1 : Nat) (v : hx_Fm) (x1 : Int32) (r0 : Int32) (h : f_F_isNegative v x1 = some r0) : hx_R l D (hx_ty T3) (hx_F1 h1 v) y_F_isNegative w_F_isNegative m_F_isNegative [.ref (h1), .int x1] (.int r0) := by
  refine Met.ofW (cc := b_F_isNegative) (maxL := 2) (ret := (some .boolean)) (by decide) rfl ?_
  intro p e s m args below meth c s₁ B hml hv
  obtain ⟨hargs, hP, hK⟩ := hv
  have hx := B.exec
  have hb := B.bytes
  have hr := B.returns
  have hts := atoms_spec (ws := w_F_isNegative) B.pre
  have hown : s.vm.findClass "HalfFloats$Format" = some m.cls := findClass_of_methodNamed B.named
  have hlocks := B.notSynchronized
  refine W.eq (g2 := F0 m 0 ((lg_sl [.ref (h1), .int x1] ++ List.replicate (2 - (lg_sl [.ref (h1), .int x1]).length) Slot.unset).toArray) []) (by rw [hargs, lg_entry_eq]) ?_
  have hl := lv_entry ([.ref (h1), .int x1]) (n := 2) (Nat.le_of_ble_eq_true rfl)
  generalize (lg_sl ([.ref (h1), .int x1]) ++ List.replicate (2 - (lg_sl ([.ref (h1), .int x1])).length) Slot.unset).toArray = ls at hl ⊢
  have hl : lv_has ls 2 [(0, .ref (h1)), (1, .int x1)] := hl
  rw [f_F_isNegative] at h
  refine lv_iload_n hx hb d_F_isNegative_0 rfl (lv_at hl 1 rfl) ?_
  refine lv_aload_n hx hb d_F_isNegative_1 rfl (lv_at hl 0 rfl) ?_
  refine va_get (D := D) (ci := 1) (v := .int (hx_fm_width v)) (C := "HalfFloats$Format") (T := T_F) (N := 8) hx hb hts (hx_up in_F) hown hK hP (0) hx_at_F1 rfl 3 (by decide) (hts _ (hx_cons _ k_87)) (fun _ h9 => h9) rfl d_F_isNegative_2 ?_
  refine lv_iushr hx hb d_F_isNegative_5 rfl ?_
  refine lv_iconst (v := 1) hx hb d_F_isNegative_6 (by decide) ?_
  refine lv_iand hx hb d_F_isNegative_7 ?_
  refine lv_iconst (v := 1) hx hb d_F_isNegative_8 (by decide) ?_
  refine lv_icmp_ne (tgt := 16) hx hb d_F_isNegative_9 (by decide) (fun c2 => ?_) (fun c2 => ?_)
  · replace h := hx_in c2 h
    refine lv_iconst (v := 0) hx hb d_F_isNegative_16 (by decide) ?_
    exact W.zret hx hb hr (hx_nb (Or.inl rfl)) (fun t ht hW => ⟨by rw [Option.some.inj h], ht⟩) (fun q hq => nomatch hq) d_F_isNegative_17
  · replace h := hx_ip c2 h
    refine lv_iconst (v := 1) hx hb d_F_isNegative_12 (by decide) ?_
    refine lv_goto (tgt := 17) hx hb d_F_isNegative_13 (by decide) ?_
    exact W.zret hx hb hr (hx_nb (Or.inr rfl)) (fun t ht hW => ⟨by rw [Option.some.inj h], ht⟩) (fun q hq => nomatch hq) d_F_isNegative_17
abbrev m_F_signed : Room := { frames := 0, cells := 0, slots := 0, locals := 0 }
set_option maxHeartbeats 4000000 in
set_option maxRecDepth 100000 in
theorem c_F_signed (l : Launch) (D : va_G) (T3 : hx_T3) (h1 : Nat) (v : hx_Fm) (x1 : Int32) (x2 : Int32) (r0 : Int32) (h : f_F_signed v x1 x2 = some r0) : hx_R l D (hx_ty T3) (hx_F1 h1 v) y_F_signed w_F_signed m_F_signed [.ref (h1), .int x1, .int x2] (.int r0) := by
  refine Met.ofW (cc := b_F_signed) (maxL := 3) (ret := (some .int)) (by decide) rfl ?_
  intro p e s m args below meth c s₁ B hml hv
  obtain ⟨hargs, hP, hK⟩ := hv
  have hx := B.exec
  have hb := B.bytes
  have hr := B.returns
  have hts := atoms_spec (ws := w_F_signed) B.pre
  have hown : s.vm.findClass "HalfFloats$Format" = some m.cls := findClass_of_methodNamed B.named
  have hlocks := B.notSynchronized
  refine W.eq (g2 := F0 m 0 ((lg_sl [.ref (h1), .int x1, .int x2] ++ List.replicate (3 - (lg_sl [.ref (h1), .int x1, .int x2]).length) Slot.unset).toArray) []) (by rw [hargs, lg_entry_eq]) ?_
  have hl := lv_entry ([.ref (h1), .int x1, .int x2]) (n := 3) (Nat.le_of_ble_eq_true rfl)
  generalize (lg_sl ([.ref (h1), .int x1, .int x2]) ++ List.replicate (3 - (lg_sl ([.ref (h1), .int x1, .int x2])).length) Slot.unset).toArray = ls at hl ⊢
  have hl : lv_has ls 3 [(0, .ref (h1)), (1, .int x1), (2, .int x2)] := hl
  rw [f_F_signed] at h
  refine lv_iload_n hx hb d_F_signed_0 rfl (lv_at hl 1 rfl) ?_
  refine lv_if_eq (tgt := 15) hx hb d_F_signed_1 (by decide) (fun c3 => ?_) (fun c3 => ?_)
  · replace h := hx_ip c3 h
    refine lv_iload_n hx hb d_F_signed_15 rfl (lv_at hl 2 rfl) ?_
    exact W.iret hx hb hr (fun t ht hW => ⟨by rw [Option.some.inj h], ht⟩) (fun q hq => nomatch hq) d_F_signed_16
  · replace h := hx_in c3 h
    refine lv_iload_n hx hb d_F_signed_4 rfl (lv_at hl 2 rfl) ?_
    refine lv_iconst (v := 1) hx hb d_F_signed_5 (by decide) ?_
    refine lv_aload_n hx hb d_F_signed_6 rfl (lv_at hl 0 rfl) ?_
    refine va_get (D := D) (ci := 1) (v := .int (hx_fm_width v)) (C := "HalfFloats$Format") (T := T_F) (N := 8) hx hb hts (hx_up in_F) hown hK hP (0) hx_at_F1 rfl 3 (by decide) (hts _ (hx_cons _ k_87)) (fun _ h9 => h9) rfl d_F_signed_7 ?_
    refine lv_ishl hx hb d_F_signed_10 ?_
    refine lv_ior hx hb d_F_signed_11 ?_
    refine lv_goto (tgt := 16) hx hb d_F_signed_12 (by decide) ?_
    exact W.iret hx hb hr (fun t ht hW => ⟨by rw [Option.some.inj h], ht⟩) (fun q hq => nomatch hq) d_F_signed_16
abbrev m_F_turnedOver : Room := { frames := 0, cells := 0, slots := 0, locals := 0 }
set_option maxHeartbeats 4000000 in
set_option maxRecDepth 100000 in
theorem c_F_turnedOver (l : Launch) (D : va_G) (T3 : hx_T3) (h1 : Nat) (v : hx_Fm) (x1 : Int32) (r0 : Int32) (h : f_F_turnedOver v x1 = some r0) : hx_R l D (hx_ty T3) (hx_F1 h1 v) y_F_turnedOver w_F_turnedOver m_F_turnedOver [.ref (h1), .int x1] (.int r0) := by
  refine Met.ofW (cc := b_F_turnedOver) (maxL := 2) (ret := (some .int)) (by decide) rfl ?_
  intro p e s m args below meth c s₁ B hml hv
  obtain ⟨hargs, hP, hK⟩ := hv
  have hx := B.exec
  have hb := B.bytes
  have hr := B.returns
  have hts := atoms_spec (ws := w_F_turnedOver) B.pre
  have hown : s.vm.findClass "HalfFloats$Format" = some m.cls := findClass_of_methodNamed B.named
  have hlocks := B.notSynchronized
  refine W.eq (g2 := F0 m 0 ((lg_sl [.ref (h1), .int x1] ++ List.replicate (2 - (lg_sl [.ref (h1), .int x1]).length) Slot.unset).toArray) []) (by rw [hargs, lg_entry_eq]) ?_
  have hl := lv_entry ([.ref (h1), .int x1]) (n := 2) (Nat.le_of_ble_eq_true rfl)
  generalize (lg_sl ([.ref (h1), .int x1]) ++ List.replicate (2 - (lg_sl ([.ref (h1), .int x1])).length) Slot.unset).toArray = ls at hl ⊢
  have hl : lv_has ls 2 [(0, .ref (h1)), (1, .int x1)] := hl
  rw [f_F_turnedOver] at h
  refine lv_iload_n hx hb d_F_turnedOver_0 rfl (lv_at hl 1 rfl) ?_
  refine lv_iconst (v := 1) hx hb d_F_turnedOver_1 (by decide) ?_
  refine lv_aload_n hx hb d_F_turnedOver_2 rfl (lv_at hl 0 rfl) ?_
  refine va_get (D := D) (ci := 1) (v := .int (hx_fm_width v)) (C := "HalfFloats$Format") (T := T_F) (N := 8) hx hb hts (hx_up in_F) hown hK hP (0) hx_at_F1 rfl 3 (by decide) (hts _ (hx_cons _ k_87)) (fun _ h9 => h9) rfl d_F_turnedOver_3 ?_
  refine lv_ishl hx hb d_F_turnedOver_6 ?_
  refine lv_ixor hx hb d_F_turnedOver_7 ?_
  exact W.iret hx hb hr (fun t ht hW => ⟨by rw [Option.some.inj h], ht⟩) (fun q hq => nomatch hq) d_F_turnedOver_8
abbrev m_F_sortOf : Room := { frames := 1, cells := 0, slots := 0, locals := 21 }
set_option maxHeartbeats 4000000 in
set_option maxRecDepth 100000 in
theorem c_F_sortOf (l : Launch) (D : va_G) (T3 : hx_T3) (h1 : Nat) (v : hx_Fm) (x1 : Int32) (r0 : Int32) (h : f_F_sortOf v x1 = some r0) : hx_R l D (hx_ty T3) (hx_F1 h1 v) y_F_sortOf w_F_sortOf m_F_sortOf [.ref (h1), .int x1] (.int r0) := by
  refine Met.ofW (cc := b_F_sortOf) (maxL := 3) (ret := (some .int)) (by decide) rfl ?_
  intro p e s m args below meth c s₁ B hml hv
  obtain ⟨hargs, hP, hK⟩ := hv
  have hx := B.exec
  have hb := B.bytes
  have hr := B.returns
  have hts := atoms_spec (ws := w_F_sortOf) B.pre
  have hown : s.vm.findClass "HalfFloats$Format" = some m.cls := findClass_of_methodNamed B.named
  have hlocks := B.notSynchronized
  refine W.eq (g2 := F0 m 0 ((lg_sl [.ref (h1), .int x1] ++ List.replicate (3 - (lg_sl [.ref (h1), .int x1]).length) Slot.unset).toArray) []) (by rw [hargs, lg_entry_eq]) ?_
  have hl := lv_entry ([.ref (h1), .int x1]) (n := 3) (Nat.le_of_ble_eq_true rfl)
  generalize (lg_sl ([.ref (h1), .int x1]) ++ List.replicate (3 - (lg_sl ([.ref (h1), .int x1])).length) Slot.unset).toArray = ls at hl ⊢
  have hl : lv_has ls 3 [(0, .ref (h1)), (1, .int x1)] := hl
  rw [f_F_sortOf] at h
  refine lv_aload_n hx hb d_F_sortOf_0 rfl (lv_at hl 0 rfl) ?_
  refine lv_iload_n hx hb d_F_sortOf_1 rfl (lv_at hl 1 rfl) ?_
  obtain ⟨r2, er2, h⟩ := hx_b1s h
  refine hx_rd (va_runV (As := [.int x1]) (rest := []) ⟨hx, hb, hml, hown, hts⟩ (c_F_unsigned l D T3 h1 v x1 _ er2) (cwV 1 hts (hx_gV hx_cons k_265 k_266 k_267 k_51 k_268) rfl rfl rfl (by decide +kernel) ⟨Nat.le_of_ble_eq_true rfl, Nat.le_of_ble_eq_true rfl⟩) (hx_preV (va_recv hK hP (ci := 1) (q0 := 0) rfl hx_at_F1) hP hK) rfl rfl hl.1 rfl (lv_room (Nat.le_of_ble_eq_true rfl)) d_F_sortOf_2 ⟨Nat.zero_le _, Nat.zero_le _⟩) ?_
  refine lv_istore_n (lv' := [(2, .int r2), (0, .ref (h1)), (1, .int x1)]) hx hb d_F_sortOf_5 rfl hl (by decide) rfl (fun ls hl => ?_)
  refine lv_iload_n hx hb d_F_sortOf_6 rfl (lv_at hl 0 rfl) ?_
  refine lv_if_ne (tgt := 12) hx hb d_F_sortOf_7 (by decide) (fun c3 => ?_) (fun c3 => ?_)
  · replace h := hx_in c3 h
    refine lv_iload_n hx hb d_F_sortOf_12 rfl (lv_at hl 0 rfl) ?_
    refine lv_aload_n hx hb d_F_sortOf_13 rfl (lv_at hl 1 rfl) ?_
    refine va_get (D := D) (ci := 1) (v := .int (hx_fm_limit v)) (C := "HalfFloats$Format") (T := T_F) (N := 8) hx hb hts (hx_up in_F) hown hK hP (0) hx_at_F1 rfl 4 (by decide) (hts _ (hx_cons _ k_89)) (fun _ h9 => h9) rfl d_F_sortOf_14 ?_
    refine lv_icmp_ge (tgt := 35) hx hb d_F_sortOf_17 (by decide) (fun c4 => ?_) (fun c4 => ?_)
    · replace h := hx_ip c4 h
      refine lv_iload_n hx hb d_F_sortOf_35 rfl (lv_at hl 0 rfl) ?_
      refine lv_aload_n hx hb d_F_sortOf_36 rfl (lv_at hl 1 rfl) ?_
      refine va_get (D := D) (ci := 1) (v := .int (hx_fm_limit v)) (C := "HalfFloats$Format") (T := T_F) (N := 8) hx hb hts (hx_up in_F) hown hK hP (0) hx_at_F1 rfl 4 (by decide) (hts _ (hx_cons _ k_89)) (fun _ h9 => h9) rfl d_F_sortOf_37 ?_
      refine lv_icmp_ne (tgt := 54) hx hb d_F_sortOf_40 (by decide) (fun c5 => ?_) (fun c5 => ?_)
      · replace h := hx_in c5 h
        refine lv_iconst (v := 4) hx hb d_F_sortOf_54 (by decide) ?_
        exact W.iret hx hb hr (fun t ht hW => ⟨by rw [Option.some.inj h], ht⟩) (fun q hq => nomatch hq) d_F_sortOf_55
      · replace h := hx_ip c5 h
        refine lv_aload_n hx hb d_F_sortOf_43 rfl (lv_at hl 1 rfl) ?_
        refine va_get (D := D) (ci := 1) (v := .int (hx_fm_kind v)) (C := "HalfFloats$Format") (T := T_F) (N := 8) hx hb hts (hx_up in_F) hown hK hP (0) hx_at_F1 rfl 2 (by decide) (hts _ (hx_cons _ k_84)) (fun _ h9 => h9) rfl d_F_sortOf_44 ?_
        refine lv_if_ne (tgt := 54) hx hb d_F_sortOf_47 (by decide) (fun c6 => ?_) (fun c6 => ?_)
        · replace h := hx_in c6 h
          refine lv_iconst (v := 4) hx hb d_F_sortOf_54 (by decide) ?_
          exact W.iret hx hb hr (fun t ht hW => ⟨by rw [Option.some.inj h], ht⟩) (fun q hq => nomatch hq) d_F_sortOf_55
        · replace h := hx_ip c6 h
          refine lv_iconst (v := 3) hx hb d_F_sortOf_50 (by decide) ?_
          refine lv_goto (tgt := 55) hx hb d_F_sortOf_51 (by decide) ?_
          exact W.iret hx hb hr (fun t ht hW => ⟨by rw [Option.some.inj h], ht⟩) (fun q hq => nomatch hq) d_F_sortOf_55
    · replace h := hx_in c4 h
      refine lv_iload_n hx hb d_F_sortOf_20 rfl (lv_at hl 0 rfl) ?_
      refine lv_aload_n hx hb d_F_sortOf_21 rfl (lv_at hl 1 rfl) ?_
      refine va_get (D := D) (ci := 1) (v := .int (hx_fm_fracBits v)) (C := "HalfFloats$Format") (T := T_F) (N := 8) hx hb hts (hx_up in_F) hown hK hP (0) hx_at_F1 rfl 1 (by decide) (hts _ (hx_cons _ k_81)) (fun _ h9 => h9) rfl d_F_sortOf_22 ?_
      refine lv_iushr hx hb d_F_sortOf_25 rfl ?_
      refine lv_if_ne (tgt := 33) hx hb d_F_sortOf_26 (by decide) (fun c7 => ?_) (fun c7 => ?_)
      · replace h := hx_in c7 h
        refine lv_iconst (v := 2) hx hb d_F_sortOf_33 (by decide) ?_
        exact W.iret hx hb hr (fun t ht hW => ⟨by rw [Option.some.inj h], ht⟩) (fun q hq => nomatch hq) d_F_sortOf_34
      · replace h := hx_ip c7 h
        refine lv_iconst (v := 1) hx hb d_F_sortOf_29 (by decide) ?_
        refine lv_goto (tgt := 34) hx hb d_F_sortOf_30 (by decide) ?_
        exact W.iret hx hb hr (fun t ht hW => ⟨by rw [Option.some.inj h], ht⟩) (fun q hq => nomatch hq) d_F_sortOf_34
  · replace h := hx_ip c3 h
    refine lv_iconst (v := 0) hx hb d_F_sortOf_10 (by decide) ?_
    exact W.iret hx hb hr (fun t ht hW => ⟨by rw [Option.some.inj h], ht⟩) (fun q hq => nomatch hq) d_F_sortOf_11
abbrev m_F_wholeOf : Room := { frames := 1, cells := 0, slots := 0, locals := 21 }
set_option maxHeartbeats 4000000 in
set_option maxRecDepth 100000 in
theorem c_F_wholeOf (l : Launch) (D : va_G) (T3 : hx_T3) (h1 : Nat) (v : hx_Fm) (x1 : Int32) (r0 : Int64) (h : f_F_wholeOf v x1 = some r0) : hx_R l D (hx_ty T3) (hx_F1 h1 v) y_F_wholeOf w_F_wholeOf m_F_wholeOf [.ref (h1), .int x1] (.long r0) := by
  refine Met.ofW (cc := b_F_wholeOf) (maxL := 4) (ret := (some .long)) (by decide) rfl ?_
  intro p e s m args below meth c s₁ B hml hv
  obtain ⟨hargs, hP, hK⟩ := hv
  have hx := B.exec
  have hb := B.bytes
  have hr := B.returns
  have hts := atoms_spec (ws := w_F_wholeOf) B.pre
  have hown : s.vm.findClass "HalfFloats$Format" = some m.cls := findClass_of_methodNamed B.named
  have hlocks := B.notSynchronized
  refine W.eq (g2 := F0 m 0 ((lg_sl [.ref (h1), .int x1] ++ List.replicate (4 - (lg_sl [.ref (h1), .int x1]).length) Slot.unset).toArray) []) (by rw [hargs, lg_entry_eq]) ?_
  have hl := lv_entry ([.ref (h1), .int x1]) (n := 4) (Nat.le_of_ble_eq_true rfl)
  generalize (lg_sl ([.ref (h1), .int x1]) ++ List.replicate (4 - (lg_sl ([.ref (h1), .int x1])).length) Slot.unset).toArray = ls at hl ⊢
  have hl : lv_has ls 4 [(0, .ref (h1)), (1, .int x1)] := hl
  rw [f_F_wholeOf] at h
  refine lv_aload_n hx hb d_F_wholeOf_0 rfl (lv_at hl 0 rfl) ?_
  refine lv_iload_n hx hb d_F_wholeOf_1 rfl (lv_at hl 1 rfl) ?_
  obtain ⟨r2, er2, h⟩ := hx_b1s h
  refine hx_rd (va_runV (As := [.int x1]) (rest := []) ⟨hx, hb, hml, hown, hts⟩ (c_F_unsigned l D T3 h1 v x1 _ er2) (cwV 1 hts (hx_gV hx_cons k_265 k_266 k_267 k_51 k_268) rfl rfl rfl (by decide +kernel) ⟨Nat.le_of_ble_eq_true rfl, Nat.le_of_ble_eq_true rfl⟩) (hx_preV (va_recv hK hP (ci := 1) (q0 := 0) rfl hx_at_F1) hP hK) rfl rfl hl.1 rfl (lv_room (Nat.le_of_ble_eq_true rfl)) d_F_wholeOf_2 ⟨Nat.zero_le _, Nat.zero_le _⟩) ?_
  refine lv_istore_n (lv' := [(2, .int r2), (0, .ref (h1)), (1, .int x1)]) hx hb d_F_wholeOf_5 rfl hl (by decide) rfl (fun ls hl => ?_)
  refine lv_iload_n hx hb d_F_wholeOf_6 rfl (lv_at hl 0 rfl) ?_
  refine lv_iconst (v := 1) hx hb d_F_wholeOf_7 (by decide) ?_
  refine lv_aload_n hx hb d_F_wholeOf_8 rfl (lv_at hl 1 rfl) ?_
  refine va_get (D := D) (ci := 1) (v := .int (hx_fm_fracBits v)) (C := "HalfFloats$Format") (T := T_F) (N := 8) hx hb hts (hx_up in_F) hown hK hP (0) hx_at_F1 rfl 1 (by decide) (hts _ (hx_cons _ k_81)) (fun _ h9 => h9) rfl d_F_wholeOf_9 ?_
  refine lv_ishl hx hb d_F_wholeOf_12 ?_
  refine lv_iconst (v := 1) hx hb d_F_wholeOf_13 (by decide) ?_
  refine lv_isub hx hb d_F_wholeOf_14 ?_
  refine lv_iand hx hb d_F_wholeOf_15 ?_
  refine lv_topi (fun x3 ex3 => ?_)
  replace h := hx_ns ex3 h
  clear ex3
  refine lv_istore_n (lv' := [(3, .int x3), (2, .int r2), (0, .ref (h1)), (1, .int x1)]) hx hb d_F_wholeOf_16 rfl hl (by decide) rfl (fun ls hl => ?_)
  refine lv_iload_n hx hb d_F_wholeOf_17 rfl (lv_at hl 1 rfl) ?_
  refine lv_aload_n hx hb d_F_wholeOf_18 rfl (lv_at hl 2 rfl) ?_
  refine va_get (D := D) (ci := 1) (v := .int (hx_fm_fracBits v)) (C := "HalfFloats$Format") (T := T_F) (N := 8) hx hb hts (hx_up in_F) hown hK hP (0) hx_at_F1 rfl 1 (by decide) (hts _ (hx_cons _ k_81)) (fun _ h9 => h9) rfl d_F_wholeOf_19 ?_
  refine lv_iushr hx hb d_F_wholeOf_22 rfl ?_
  refine lv_if_ne (tgt := 31) hx hb d_F_wholeOf_23 (by decide) (fun c4 => ?_) (fun c4 => ?_)
  · replace h := hx_in c4 h
    refine lv_iload_n hx hb d_F_wholeOf_31 rfl (lv_at hl 0 rfl) ?_
    refine lv_iconst (v := 1) hx hb d_F_wholeOf_32 (by decide) ?_
    refine lv_aload_n hx hb d_F_wholeOf_33 rfl (lv_at hl 2 rfl) ?_
    refine va_get (D := D) (ci := 1) (v := .int (hx_fm_fracBits v)) (C := "HalfFloats$Format") (T := T_F) (N := 8) hx hb hts (hx_up in_F) hown hK hP (0) hx_at_F1 rfl 1 (by decide) (hts _ (hx_cons _ k_81)) (fun _ h9 => h9) rfl d_F_wholeOf_34 ?_
    refine lv_ishl hx hb d_F_wholeOf_37 ?_
    refine lv_iadd hx hb d_F_wholeOf_38 ?_
    refine lv_i2l hx hb d_F_wholeOf_39 rfl ?_
    exact W.lret hx hb hr (fun t ht hW => ⟨by rw [Option.some.inj h], ht⟩) (fun q hq => nomatch hq) d_F_wholeOf_40
  · replace h := hx_ip c4 h
    refine lv_iload_n hx hb d_F_wholeOf_26 rfl (lv_at hl 0 rfl) ?_
    refine lv_i2l hx hb d_F_wholeOf_27 rfl ?_
    refine lv_goto (tgt := 40) hx hb d_F_wholeOf_28 (by decide) ?_
    exact W.lret hx hb hr (fun t ht hW => ⟨by rw [Option.some.inj h], ht⟩) (fun q hq => nomatch hq) d_F_wholeOf_40
abbrev m_F_powerOf : Room := { frames := 1, cells := 0, slots := 0, locals := 21 }
set_option maxHeartbeats 4000000 in
set_option maxRecDepth 100000 in
theorem c_F_powerOf (l : Launch) (D : va_G) (T3 : hx_T3) (h1 : Nat) (v : hx_Fm) (x1 : Int32) (r0 : Int32) (h : f_F_powerOf v x1 = some r0) : hx_R l D (hx_ty T3) (hx_F1 h1 v) y_F_powerOf w_F_powerOf m_F_powerOf [.ref (h1), .int x1] (.int r0) := by
  refine Met.ofW (cc := b_F_powerOf) (maxL := 2) (ret := (some .int)) (by decide) rfl ?_
  intro p e s m args below meth c s₁ B hml hv
  obtain ⟨hargs, hP, hK⟩ := hv
  have hx := B.exec
  have hb := B.bytes
  have hr := B.returns
  have hts := atoms_spec (ws := w_F_powerOf) B.pre
  have hown : s.vm.findClass "HalfFloats$Format" = some m.cls := findClass_of_methodNamed B.named
  have hlocks := B.notSynchronized
  refine W.eq (g2 := F0 m 0 ((lg_sl [.ref (h1), .int x1] ++ List.replicate (2 - (lg_sl [.ref (h1), .int x1]).length) Slot.unset).toArray) []) (by rw [hargs, lg_entry_eq]) ?_
  have hl := lv_entry ([.ref (h1), .int x1]) (n := 2) (Nat.le_of_ble_eq_true rfl)
  generalize (lg_sl ([.ref (h1), .int x1]) ++ List.replicate (2 - (lg_sl ([.ref (h1), .int x1])).length) Slot.unset).toArray = ls at hl ⊢
  have hl : lv_has ls 2 [(0, .ref (h1)), (1, .int x1)] := hl
  rw [f_F_powerOf] at h
  refine lv_aload_n hx hb d_F_powerOf_0 rfl (lv_at hl 0 rfl) ?_
  refine va_get (D := D) (ci := 1) (v := .int (hx_fm_leastPower v)) (C := "HalfFloats$Format") (T := T_F) (N := 8) hx hb hts (hx_up in_F) hown hK hP (0) hx_at_F1 rfl 7 (by decide) (hts _ (hx_cons _ k_97)) (fun _ h9 => h9) rfl d_F_powerOf_1 ?_
  refine lv_aload_n hx hb d_F_powerOf_4 rfl (lv_at hl 0 rfl) ?_
  refine lv_iload_n hx hb d_F_powerOf_5 rfl (lv_at hl 1 rfl) ?_
  obtain ⟨r2, er2, h⟩ := hx_b1s h
  refine hx_rd (va_runV (As := [.int x1]) (rest := [.int (hx_fm_leastPower v)]) ⟨hx, hb, hml, hown, hts⟩ (c_F_unsigned l D T3 h1 v x1 _ er2) (cwV 1 hts (hx_gV hx_cons k_265 k_266 k_267 k_51 k_268) rfl rfl rfl (by decide +kernel) ⟨Nat.le_of_ble_eq_true rfl, Nat.le_of_ble_eq_true rfl⟩) (hx_preV (va_recv hK hP (ci := 1) (q0 := 0) rfl hx_at_F1) hP hK) rfl rfl hl.1 rfl (lv_room (Nat.le_of_ble_eq_true rfl)) d_F_powerOf_6 ⟨Nat.zero_le _, Nat.zero_le _⟩) ?_
  refine lv_aload_n hx hb d_F_powerOf_9 rfl (lv_at hl 0 rfl) ?_
  refine va_get (D := D) (ci := 1) (v := .int (hx_fm_fracBits v)) (C := "HalfFloats$Format") (T := T_F) (N := 8) hx hb hts (hx_up in_F) hown hK hP (0) hx_at_F1 rfl 1 (by decide) (hts _ (hx_cons _ k_81)) (fun _ h9 => h9) rfl d_F_powerOf_10 ?_
  refine lv_iushr hx hb d_F_powerOf_13 rfl ?_
  refine lv_iconst (v := 1) hx hb d_F_powerOf_14 (by decide) ?_
  refine va_mmax hx hb (hml.trans hl.1.symm) hown (hts _ (hx_cons _ k_281)) (hts _ (hx_cons _ k_282)) (hts _ (hx_cons _ k_56)) (hts _ (hx_cons _ k_283)) (Nat.le_of_ble_eq_true rfl) (Nat.le_of_ble_eq_true rfl) (Nat.zero_le _) (Nat.zero_le _) d_F_powerOf_15 ?_
  refine lv_iadd hx hb d_F_powerOf_18 ?_
  refine lv_iconst (v := 1) hx hb d_F_powerOf_19 (by decide) ?_
  refine lv_isub hx hb d_F_powerOf_20 ?_
  exact W.iret hx hb hr (fun t ht hW => ⟨by rw [Option.some.inj h], ht⟩) (fun q hq => nomatch hq) d_F_powerOf_21
abbrev m_F_topOf : Room := { frames := 2, cells := 0, slots := 0, locals := 44 }
set_option maxHeartbeats 4000000 in
set_option maxRecDepth 100000 in
theorem c_F_topOf (l : Launch) (D : va_G) (T3 : hx_T3) (h1 : Nat) (v : hx_Fm) (x1 : Int32) (r0 : Int32) (h : f_F_topOf v x1 = some r0) : hx_R l D (hx_ty T3) (hx_F1 h1 v) y_F_topOf w_F_topOf m_F_topOf [.ref (h1), .int x1] (.int r0) := by
  refine Met.ofW (cc := b_F_topOf) (maxL := 2) (ret := (some .int)) (by decide) rfl ?_
  intro p e s m args below meth c s₁ B hml hv
  obtain ⟨hargs, hP, hK⟩ := hv
  have hx := B.exec
  have hb := B.bytes
  have hr := B.returns
  have hts := atoms_spec (ws := w_F_topOf) B.pre
  have hown : s.vm.findClass "HalfFloats$Format" = some m.cls := findClass_of_methodNamed B.named
  have hlocks := B.notSynchronized
  refine W.eq (g2 := F0 m 0 ((lg_sl [.ref (h1), .int x1] ++ List.replicate (2 - (lg_sl [.ref (h1), .int x1]).length) Slot.unset).toArray) []) (by rw [hargs, lg_entry_eq]) ?_
  have hl := lv_entry ([.ref (h1), .int x1]) (n := 2) (Nat.le_of_ble_eq_true rfl)
  generalize (lg_sl ([.ref (h1), .int x1]) ++ List.replicate (2 - (lg_sl ([.ref (h1), .int x1])).length) Slot.unset).toArray = ls at hl ⊢
  have hl : lv_has ls 2 [(0, .ref (h1)), (1, .int x1)] := hl
  rw [f_F_topOf] at h
  refine lv_aload_n hx hb d_F_topOf_0 rfl (lv_at hl 0 rfl) ?_
  refine lv_iload_n hx hb d_F_topOf_1 rfl (lv_at hl 1 rfl) ?_
  obtain ⟨r2, er2, h⟩ := hx_b1s h
  refine hx_rd (va_runV (As := [.int x1]) (rest := []) ⟨hx, hb, hml, hown, hts⟩ (c_F_powerOf l D T3 h1 v x1 _ er2) (cwV 1 hts (hx_gV hx_cons k_511 k_278 k_279 k_51 k_280) rfl rfl rfl (by decide +kernel) ⟨Nat.le_of_ble_eq_true rfl, Nat.le_of_ble_eq_true rfl⟩) (hx_preV (va_recv hK hP (ci := 1) (q0 := 0) rfl hx_at_F1) hP hK) rfl rfl hl.1 rfl (lv_room (Nat.le_of_ble_eq_true rfl)) d_F_topOf_2 ⟨Nat.zero_le _, Nat.zero_le _⟩) ?_
  refine lv_bipush (v := 63) hx hb d_F_topOf_5 (by decide) ?_
  refine lv_iadd hx hb d_F_topOf_7 ?_
  refine lv_aload_n hx hb d_F_topOf_8 rfl (lv_at hl 0 rfl) ?_
  refine lv_iload_n hx hb d_F_topOf_9 rfl (lv_at hl 1 rfl) ?_
  obtain ⟨r3, er3, h⟩ := hx_b1s h
  refine hx_rd (va_runV (As := [.int x1]) (rest := [.int (r2 + (63 : Int32))]) ⟨hx, hb, hml, hown, hts⟩ (c_F_wholeOf l D T3 h1 v x1 _ er3) (cwV 1 hts (hx_gV hx_cons k_512 k_274 k_275 k_51 k_276) rfl rfl rfl (by decide +kernel) ⟨Nat.le_of_ble_eq_true rfl, Nat.le_of_ble_eq_true rfl⟩) (hx_preV (va_recv hK hP (ci := 1) (q0 := 0) rfl hx_at_F1) hP hK) rfl rfl hl.1 rfl (lv_room (Nat.le_of_ble_eq_true rfl)) d_F_topOf_10 ⟨Nat.zero_le _, Nat.zero_le _⟩) ?_
  obtain ⟨r4, er4, h⟩ := hx_b1s h
  refine hx_rd (va_runS (As := [.long r3]) (rest := [.int (r2 + (63 : Int32))]) ⟨hx, hb, hml, hown, hts⟩ (c_JL_numberOfLeadingZeros l D T3 r3 _ er4) (va_cwS 1 hts (hx_gS hx_cons k_513 k_313 k_57 k_314) rfl rfl rfl (by decide +kernel) ⟨Nat.le_of_ble_eq_true rfl, Nat.le_of_ble_eq_true rfl⟩) (hx_preS hx_nil hK) rfl rfl hl.1 rfl (lv_room (Nat.le_of_ble_eq_true rfl)) d_F_topOf_13 ⟨Nat.zero_le _, Nat.zero_le _⟩) ?_
  refine lv_isub hx hb d_F_topOf_16 ?_
  exact W.iret hx hb hr (fun t ht hW => ⟨by rw [Option.some.inj h], ht⟩) (fun q hq => nomatch hq) d_F_topOf_17
abbrev m_R_has : Room := { frames := 0, cells := 0, slots := 0, locals := 0 }
set_option maxHeartbeats 4000000 in
set_option maxRecDepth 100000 in
theorem c_R_has (l : Launch) (D : va_G) (T3 : hx_T3) (h1 h2 : Nat) (v : hx_Rw) (x1 : Int32) (r0 : Int32) (h : f_R_has v x1 = some r0) : hx_R l D (hx_ty T3) (hx_R1 h1 h2 v) y_R_has w_R_has m_R_has [.ref (h1), .int x1] (.int r0) := by
  refine Met.ofW (cc := b_R_has) (maxL := 2) (ret := (some .boolean)) (by decide) rfl ?_
  intro p e s m args below meth c s₁ B hml hv
  obtain ⟨hargs, hP, hK⟩ := hv
  have hx := B.exec
  have hb := B.bytes
  have hr := B.returns
  have hts := atoms_spec (ws := w_R_has) B.pre
  have hown : s.vm.findClass "HalfFloats$Row" = some m.cls := findClass_of_methodNamed B.named
  have hlocks := B.notSynchronized
  refine W.eq (g2 := F0 m 0 ((lg_sl [.ref (h1), .int x1] ++ List.replicate (2 - (lg_sl [.ref (h1), .int x1]).length) Slot.unset).toArray) []) (by rw [hargs, lg_entry_eq]) ?_
  have hl := lv_entry ([.ref (h1), .int x1]) (n := 2) (Nat.le_of_ble_eq_true rfl)
  generalize (lg_sl ([.ref (h1), .int x1]) ++ List.replicate (2 - (lg_sl ([.ref (h1), .int x1])).length) Slot.unset).toArray = ls at hl ⊢
  have hl : lv_has ls 2 [(0, .ref (h1)), (1, .int x1)] := hl
  rw [f_R_has] at h
  refine lv_iload_n hx hb d_R_has_0 rfl (lv_at hl 1 rfl) ?_
  refine lv_if_lt (tgt := 16) hx hb d_R_has_1 (by decide) (fun c2 => ?_) (fun c2 => ?_)
  · replace h := hx_ip c2 h
    refine lv_iconst (v := 0) hx hb d_R_has_16 (by decide) ?_
    exact W.zret hx hb hr (hx_nb (Or.inl rfl)) (fun t ht hW => ⟨by rw [Option.some.inj h], ht⟩) (fun q hq => nomatch hq) d_R_has_17
  · replace h := hx_in c2 h
    refine lv_iload_n hx hb d_R_has_4 rfl (lv_at hl 1 rfl) ?_
    refine lv_aload_n hx hb d_R_has_5 rfl (lv_at hl 0 rfl) ?_
    refine va_get (D := D) (ci := 2) (v := .int (hx_rw_size v)) (C := "HalfFloats$Row") (T := T_R) (N := 3) hx hb hts (hx_up in_R) hown hK hP (0) hx_at_R1 rfl 1 (by decide) (hts _ (hx_cons _ k_124)) (fun _ h9 => h9) rfl d_R_has_6 ?_
    refine lv_icmp_ge (tgt := 16) hx hb d_R_has_9 (by decide) (fun c3 => ?_) (fun c3 => ?_)
    · replace h := hx_ip c3 h
      refine lv_iconst (v := 0) hx hb d_R_has_16 (by decide) ?_
      exact W.zret hx hb hr (hx_nb (Or.inl rfl)) (fun t ht hW => ⟨by rw [Option.some.inj h], ht⟩) (fun q hq => nomatch hq) d_R_has_17
    · replace h := hx_in c3 h
      refine lv_iconst (v := 1) hx hb d_R_has_12 (by decide) ?_
      refine lv_goto (tgt := 17) hx hb d_R_has_13 (by decide) ?_
      exact W.zret hx hb hr (hx_nb (Or.inr rfl)) (fun t ht hW => ⟨by rw [Option.some.inj h], ht⟩) (fun q hq => nomatch hq) d_R_has_17
abbrev m_R_uses : Room := { frames := 0, cells := 0, slots := 0, locals := 0 }
set_option maxHeartbeats 4000000 in
set_option maxRecDepth 100000 in
theorem c_R_uses (l : Launch) (D : va_G) (T3 : hx_T3) (h1 h2 : Nat) (v : hx_Rw) (x1 : Int32) (r0 : Int32) (h : f_R_uses v x1 = some r0) : hx_R l D (hx_ty T3) (hx_R1 h1 h2 v) y_R_uses w_R_uses m_R_uses [.ref (h1), .int x1] (.int r0) := by
  refine Met.ofW (cc := b_R_uses) (maxL := 2) (ret := (some .boolean)) (by decide) rfl ?_
  intro p e s m args below meth c s₁ B hml hv
  obtain ⟨hargs, hP, hK⟩ := hv
  have hx := B.exec
  have hb := B.bytes
  have hr := B.returns
  have hts := atoms_spec (ws := w_R_uses) B.pre
  have hown : s.vm.findClass "HalfFloats$Row" = some m.cls := findClass_of_methodNamed B.named
  have hlocks := B.notSynchronized
  refine W.eq (g2 := F0 m 0 ((lg_sl [.ref (h1), .int x1] ++ List.replicate (2 - (lg_sl [.ref (h1), .int x1]).length) Slot.unset).toArray) []) (by rw [hargs, lg_entry_eq]) ?_
  have hl := lv_entry ([.ref (h1), .int x1]) (n := 2) (Nat.le_of_ble_eq_true rfl)
  generalize (lg_sl ([.ref (h1), .int x1]) ++ List.replicate (2 - (lg_sl ([.ref (h1), .int x1])).length) Slot.unset).toArray = ls at hl ⊢
  have hl : lv_has ls 2 [(0, .ref (h1)), (1, .int x1)] := hl
  rw [f_R_uses] at h
  refine lv_aload_n hx hb d_R_uses_0 rfl (lv_at hl 0 rfl) ?_
  refine va_get (D := D) (ci := 2) (v := .int (hx_rw_size v)) (C := "HalfFloats$Row") (T := T_R) (N := 3) hx hb hts (hx_up in_R) hown hK hP (0) hx_at_R1 rfl 1 (by decide) (hts _ (hx_cons _ k_124)) (fun _ h9 => h9) rfl d_R_uses_1 ?_
  refine lv_if_le (tgt := 19) hx hb d_R_uses_4 (by decide) (fun c2 => ?_) (fun c2 => ?_)
  · replace h := hx_ip c2 h
    refine lv_iconst (v := 0) hx hb d_R_uses_19 (by decide) ?_
    exact W.zret hx hb hr (hx_nb (Or.inl rfl)) (fun t ht hW => ⟨by rw [Option.some.inj h], ht⟩) (fun q hq => nomatch hq) d_R_uses_20
  · replace h := hx_in c2 h
    refine lv_aload_n hx hb d_R_uses_7 rfl (lv_at hl 0 rfl) ?_
    refine va_get (D := D) (ci := 2) (v := .int (hx_rw_format v)) (C := "HalfFloats$Row") (T := T_R) (N := 3) hx hb hts (hx_up in_R) hown hK hP (0) hx_at_R1 rfl 2 (by decide) (hts _ (hx_cons _ k_126)) (fun _ h9 => h9) rfl d_R_uses_8 ?_
    refine lv_iload_n hx hb d_R_uses_11 rfl (lv_at hl 1 rfl) ?_
    refine lv_icmp_ne (tgt := 19) hx hb d_R_uses_12 (by decide) (fun c3 => ?_) (fun c3 => ?_)
    · replace h := hx_in c3 h
      refine lv_iconst (v := 0) hx hb d_R_uses_19 (by decide) ?_
      exact W.zret hx hb hr (hx_nb (Or.inl rfl)) (fun t ht hW => ⟨by rw [Option.some.inj h], ht⟩) (fun q hq => nomatch hq) d_R_uses_20
    · replace h := hx_ip c3 h
      refine lv_iconst (v := 1) hx hb d_R_uses_15 (by decide) ?_
      refine lv_goto (tgt := 20) hx hb d_R_uses_16 (by decide) ?_
      exact W.zret hx hb hr (hx_nb (Or.inr rfl)) (fun t ht hW => ⟨by rw [Option.some.inj h], ht⟩) (fun q hq => nomatch hq) d_R_uses_20
