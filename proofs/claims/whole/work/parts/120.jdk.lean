def f_JI_numberOfLeadingZeros_73 (x13 : Int32) (x14 : Int32) : Option Int32 := some (x14 - (x13.toUInt32 >>> ((1 : Int32).toUInt32 &&& Int32.toUInt32 31)).toInt32)
def f_JI_numberOfLeadingZeros_61 (x10 : Int32) (x11 : Int32) : Option Int32 := (if x10 < (4 : Int32) then (f_JI_numberOfLeadingZeros_73 x10 x11) else hx_n (x11 + (-2)) (fun x15 => hx_n ((x10.toUInt32 >>> ((2 : Int32).toUInt32 &&& Int32.toUInt32 31)).toInt32) (fun x16 => (f_JI_numberOfLeadingZeros_73 x16 x15))))
def f_JI_numberOfLeadingZeros_48 (x7 : Int32) (x8 : Int32) : Option Int32 := (if x7 < (16 : Int32) then (f_JI_numberOfLeadingZeros_61 x7 x8) else hx_n (x8 + (-4)) (fun x17 => hx_n ((x7.toUInt32 >>> ((4 : Int32).toUInt32 &&& Int32.toUInt32 31)).toInt32) (fun x18 => (f_JI_numberOfLeadingZeros_61 x18 x17))))
def f_JI_numberOfLeadingZeros_33 (x4 : Int32) (x5 : Int32) : Option Int32 := (if x4 < (256 : Int32) then (f_JI_numberOfLeadingZeros_48 x4 x5) else hx_n (x5 + (-8)) (fun x19 => hx_n ((x4.toUInt32 >>> ((8 : Int32).toUInt32 &&& Int32.toUInt32 31)).toInt32) (fun x20 => (f_JI_numberOfLeadingZeros_48 x20 x19))))
def f_JI_numberOfLeadingZeros (x1 : Int32) : Option Int32 := (if 0 < x1 then (if x1 < (65536 : Int32) then (f_JI_numberOfLeadingZeros_33 x1 (31 : Int32)) else hx_n ((31 : Int32) + (-16)) (fun x21 => hx_n ((x1.toUInt32 >>> ((16 : Int32).toUInt32 &&& Int32.toUInt32 31)).toInt32) (fun x22 => (f_JI_numberOfLeadingZeros_33 x22 x21)))) else (if x1 = 0 then some (32 : Int32) else some (0 : Int32)))
def f_JL_compare (x1 : Int64) (x2 : Int64) : Option Int32 := (if 0 ≤ (lg_cmp x1 x2) then (if (lg_cmp x1 x2) = 0 then some (0 : Int32) else some (1 : Int32)) else some (-1 : Int32))
def f_JL_numberOfLeadingZeros (x1 : Int64) : Option Int32 := hx_n (((x1.toUInt64 >>> ((32 : Int32).toInt64.toUInt64 &&& Int64.toUInt64 63)).toInt64).toInt32) (fun x2 => (if x2 = 0 then hx_b1 (f_JI_numberOfLeadingZeros x1.toInt32) (fun r5 => some ((32 : Int32) + r5)) else hx_b1 (f_JI_numberOfLeadingZeros x2) (fun r4 => some r4)))
def f_JA_fill_6 : Nat → (Nat → Int64) → Int64 → Int32 → Int32 → Option (Nat → Int64)
  | 0, _, _, _, _ => none
  | n + 1, σ, x2, x3, x4 => (if x4 ≤ x3 then some σ else (if x3 < 0 ∨ 20 ≤ x3.toNatClampNeg then none else hx_n (vp_updL σ x3.toNatClampNeg x2) (fun σ7 => hx_n (x3 + 1) (fun x8 => ((f_JA_fill_6 n) σ7 x2 x8 x4)))))
def f_JA_fill (v : (Nat → Int64)) (x1 : Int64) : Option (Nat → Int64) := (f_JA_fill_6 hx_fuel v x1 (0 : Int32) (20 : Int32))
abbrev m_JI_numberOfLeadingZeros : Room := { frames := 0, cells := 0, slots := 0, locals := 0 }
set_option maxHeartbeats 4000000 in
set_option maxRecDepth 100000 in
theorem c_JI_numberOfLeadingZeros (l : Launch) (D : va_G) (T3 : hx_T3)  (x1 : Int32) (r0 : Int32) (h : f_JI_numberOfLeadingZeros x1 = some r0) : hx_R l D (hx_ty T3) [] y_JI_numberOfLeadingZeros w_JI_numberOfLeadingZeros m_JI_numberOfLeadingZeros [.int x1] (.int r0) := by
  refine Met.ofW (cc := b_JI_numberOfLeadingZeros) (maxL := 2) (ret := (some .int)) (by decide) rfl ?_
  intro p e s m args below meth c s₁ B hml hv
  obtain ⟨hargs, hP, hK⟩ := hv
  have hx := B.exec
  have hb := B.bytes
  have hr := B.returns
  have hts := atoms_spec (ws := w_JI_numberOfLeadingZeros) B.pre
  have hown : s.vm.findClass "java/lang/Integer" = some m.cls := findClass_of_methodNamed B.named
  have hlocks := B.notSynchronized
  have B_73 : ∀ (x13 : Int32) (x14 : Int32) (ls : Array Slot), lv_has ls 2 [(0, .int x13), (1, .int x14)] → f_JI_numberOfLeadingZeros_73 x13 x14 = some r0 → W p l e (headSpec w_JI_numberOfLeadingZeros m_JI_numberOfLeadingZeros).room s m args below meth c s.heap [] 0 0 (MQ below (hx_Q (.int r0)) args s 0 0 (fun _ => False)) (F0 m 73 ls []) := by
      intro x13 x14 ls hl h
      rw [f_JI_numberOfLeadingZeros_73] at h
      refine lv_iload_n hx hb d_JI_numberOfLeadingZeros_73 rfl (lv_at hl 1 rfl) ?_
      refine lv_iload_n hx hb d_JI_numberOfLeadingZeros_74 rfl (lv_at hl 0 rfl) ?_
      refine lv_iconst (v := 1) hx hb d_JI_numberOfLeadingZeros_75 (by decide) ?_
      refine lv_iushr hx hb d_JI_numberOfLeadingZeros_76 rfl ?_
      refine lv_isub hx hb d_JI_numberOfLeadingZeros_77 ?_
      exact W.iret hx hb hr (fun t ht hW => ⟨by rw [Option.some.inj h], ht⟩) (fun q hq => nomatch hq) d_JI_numberOfLeadingZeros_78
  have B_61 : ∀ (x10 : Int32) (x11 : Int32) (ls : Array Slot), lv_has ls 2 [(0, .int x10), (1, .int x11)] → f_JI_numberOfLeadingZeros_61 x10 x11 = some r0 → W p l e (headSpec w_JI_numberOfLeadingZeros m_JI_numberOfLeadingZeros).room s m args below meth c s.heap [] 0 0 (MQ below (hx_Q (.int r0)) args s 0 0 (fun _ => False)) (F0 m 61 ls []) := by
      intro x10 x11 ls hl h
      rw [f_JI_numberOfLeadingZeros_61] at h
      refine lv_iload_n hx hb d_JI_numberOfLeadingZeros_61 rfl (lv_at hl 0 rfl) ?_
      refine lv_iconst (v := 4) hx hb d_JI_numberOfLeadingZeros_62 (by decide) ?_
      refine lv_icmp_lt (tgt := 73) hx hb d_JI_numberOfLeadingZeros_63 (by decide) (fun c12 => ?_) (fun c12 => ?_)
      · replace h := hx_ip c12 h
        exact B_73 x10 x11 ls (lv_sub hl [0, 1] rfl) h
      · replace h := hx_in c12 h
        obtain ⟨x15, ex15⟩ : ∃ y : Int32, y = x11 + (-2) := ⟨_, rfl⟩
        replace h := hx_ns ex15 h
        refine lv_iinc (v := x15) (lv' := [(1, .int x15), (0, .int x10)]) hx hb d_JI_numberOfLeadingZeros_66 hl (k := 1) rfl (by rw [ex15]; rfl) (by decide) rfl (fun ls hl => ?_)
        clear ex15
        refine lv_iload_n hx hb d_JI_numberOfLeadingZeros_69 rfl (lv_at hl 1 rfl) ?_
        refine lv_iconst (v := 2) hx hb d_JI_numberOfLeadingZeros_70 (by decide) ?_
        refine lv_iushr hx hb d_JI_numberOfLeadingZeros_71 rfl ?_
        refine lv_topi (fun x16 ex16 => ?_)
        replace h := hx_ns ex16 h
        clear ex16
        refine lv_istore_n (lv' := [(0, .int x16), (1, .int x15)]) hx hb d_JI_numberOfLeadingZeros_72 rfl hl (by decide) rfl (fun ls hl => ?_)
        exact B_73 x16 x15 ls (lv_sub hl [0, 1] rfl) h
  have B_48 : ∀ (x7 : Int32) (x8 : Int32) (ls : Array Slot), lv_has ls 2 [(0, .int x7), (1, .int x8)] → f_JI_numberOfLeadingZeros_48 x7 x8 = some r0 → W p l e (headSpec w_JI_numberOfLeadingZeros m_JI_numberOfLeadingZeros).room s m args below meth c s.heap [] 0 0 (MQ below (hx_Q (.int r0)) args s 0 0 (fun _ => False)) (F0 m 48 ls []) := by
      intro x7 x8 ls hl h
      rw [f_JI_numberOfLeadingZeros_48] at h
      refine lv_iload_n hx hb d_JI_numberOfLeadingZeros_48 rfl (lv_at hl 0 rfl) ?_
      refine lv_bipush (v := 16) hx hb d_JI_numberOfLeadingZeros_49 (by decide) ?_
      refine lv_icmp_lt (tgt := 61) hx hb d_JI_numberOfLeadingZeros_51 (by decide) (fun c9 => ?_) (fun c9 => ?_)
      · replace h := hx_ip c9 h
        exact B_61 x7 x8 ls (lv_sub hl [0, 1] rfl) h
      · replace h := hx_in c9 h
        obtain ⟨x17, ex17⟩ : ∃ y : Int32, y = x8 + (-4) := ⟨_, rfl⟩
        replace h := hx_ns ex17 h
        refine lv_iinc (v := x17) (lv' := [(1, .int x17), (0, .int x7)]) hx hb d_JI_numberOfLeadingZeros_54 hl (k := 1) rfl (by rw [ex17]; rfl) (by decide) rfl (fun ls hl => ?_)
        clear ex17
        refine lv_iload_n hx hb d_JI_numberOfLeadingZeros_57 rfl (lv_at hl 1 rfl) ?_
        refine lv_iconst (v := 4) hx hb d_JI_numberOfLeadingZeros_58 (by decide) ?_
        refine lv_iushr hx hb d_JI_numberOfLeadingZeros_59 rfl ?_
        refine lv_topi (fun x18 ex18 => ?_)
        replace h := hx_ns ex18 h
        clear ex18
        refine lv_istore_n (lv' := [(0, .int x18), (1, .int x17)]) hx hb d_JI_numberOfLeadingZeros_60 rfl hl (by decide) rfl (fun ls hl => ?_)
        exact B_61 x18 x17 ls (lv_sub hl [0, 1] rfl) h
  have B_33 : ∀ (x4 : Int32) (x5 : Int32) (ls : Array Slot), lv_has ls 2 [(0, .int x4), (1, .int x5)] → f_JI_numberOfLeadingZeros_33 x4 x5 = some r0 → W p l e (headSpec w_JI_numberOfLeadingZeros m_JI_numberOfLeadingZeros).room s m args below meth c s.heap [] 0 0 (MQ below (hx_Q (.int r0)) args s 0 0 (fun _ => False)) (F0 m 33 ls []) := by
      intro x4 x5 ls hl h
      rw [f_JI_numberOfLeadingZeros_33] at h
      refine lv_iload_n hx hb d_JI_numberOfLeadingZeros_33 rfl (lv_at hl 0 rfl) ?_
      refine lv_sipush (v := 256) hx hb d_JI_numberOfLeadingZeros_34 (by decide) ?_
      refine lv_icmp_lt (tgt := 48) hx hb d_JI_numberOfLeadingZeros_37 (by decide) (fun c6 => ?_) (fun c6 => ?_)
      · replace h := hx_ip c6 h
        exact B_48 x4 x5 ls (lv_sub hl [0, 1] rfl) h
      · replace h := hx_in c6 h
        obtain ⟨x19, ex19⟩ : ∃ y : Int32, y = x5 + (-8) := ⟨_, rfl⟩
        replace h := hx_ns ex19 h
        refine lv_iinc (v := x19) (lv' := [(1, .int x19), (0, .int x4)]) hx hb d_JI_numberOfLeadingZeros_40 hl (k := 1) rfl (by rw [ex19]; rfl) (by decide) rfl (fun ls hl => ?_)
        clear ex19
        refine lv_iload_n hx hb d_JI_numberOfLeadingZeros_43 rfl (lv_at hl 1 rfl) ?_
        refine lv_bipush (v := 8) hx hb d_JI_numberOfLeadingZeros_44 (by decide) ?_
        refine lv_iushr hx hb d_JI_numberOfLeadingZeros_46 rfl ?_
        refine lv_topi (fun x20 ex20 => ?_)
        replace h := hx_ns ex20 h
        clear ex20
        refine lv_istore_n (lv' := [(0, .int x20), (1, .int x19)]) hx hb d_JI_numberOfLeadingZeros_47 rfl hl (by decide) rfl (fun ls hl => ?_)
        exact B_48 x20 x19 ls (lv_sub hl [0, 1] rfl) h
  refine W.eq (g2 := F0 m 0 ((lg_sl [.int x1] ++ List.replicate (2 - (lg_sl [.int x1]).length) Slot.unset).toArray) []) (by rw [hargs, lg_entry_eq]) ?_
  have hl := lv_entry ([.int x1]) (n := 2) (Nat.le_of_ble_eq_true rfl)
  generalize (lg_sl ([.int x1]) ++ List.replicate (2 - (lg_sl ([.int x1])).length) Slot.unset).toArray = ls at hl ⊢
  have hl : lv_has ls 2 [(0, .int x1)] := hl
  rw [f_JI_numberOfLeadingZeros] at h
  refine lv_iload_n hx hb d_JI_numberOfLeadingZeros_0 rfl (lv_at hl 0 rfl) ?_
  refine lv_if_gt (tgt := 15) hx hb d_JI_numberOfLeadingZeros_1 (by decide) (fun c2 => ?_) (fun c2 => ?_)
  · replace h := hx_ip c2 h
    refine lv_bipush (v := 31) hx hb d_JI_numberOfLeadingZeros_15 (by decide) ?_
    refine lv_istore_n (lv' := [(1, .int (31 : Int32)), (0, .int x1)]) hx hb d_JI_numberOfLeadingZeros_17 rfl hl (by decide) rfl (fun ls hl => ?_)
    refine lv_iload_n hx hb d_JI_numberOfLeadingZeros_18 rfl (lv_at hl 1 rfl) ?_
    refine lv_ldcw (v := 65536) hx hb hown (hts _ (hx_cons _ k_318)) d_JI_numberOfLeadingZeros_19 ?_
    refine lv_icmp_lt (tgt := 33) hx hb d_JI_numberOfLeadingZeros_22 (by decide) (fun c3 => ?_) (fun c3 => ?_)
    · replace h := hx_ip c3 h
      exact B_33 x1 (31 : Int32) ls (lv_sub hl [1, 0] rfl) h
    · replace h := hx_in c3 h
      obtain ⟨x21, ex21⟩ : ∃ y : Int32, y = (31 : Int32) + (-16) := ⟨_, rfl⟩
      replace h := hx_ns ex21 h
      refine lv_iinc (v := x21) (lv' := [(1, .int x21), (0, .int x1)]) hx hb d_JI_numberOfLeadingZeros_25 hl (k := 0) rfl (by rw [ex21]; rfl) (by decide) rfl (fun ls hl => ?_)
      clear ex21
      refine lv_iload_n hx hb d_JI_numberOfLeadingZeros_28 rfl (lv_at hl 1 rfl) ?_
      refine lv_bipush (v := 16) hx hb d_JI_numberOfLeadingZeros_29 (by decide) ?_
      refine lv_iushr hx hb d_JI_numberOfLeadingZeros_31 rfl ?_
      refine lv_topi (fun x22 ex22 => ?_)
      replace h := hx_ns ex22 h
      clear ex22
      refine lv_istore_n (lv' := [(0, .int x22), (1, .int x21)]) hx hb d_JI_numberOfLeadingZeros_32 rfl hl (by decide) rfl (fun ls hl => ?_)
      exact B_33 x22 x21 ls (lv_sub hl [0, 1] rfl) h
  · replace h := hx_in c2 h
    refine lv_iload_n hx hb d_JI_numberOfLeadingZeros_4 rfl (lv_at hl 0 rfl) ?_
    refine lv_if_ne (tgt := 13) hx hb d_JI_numberOfLeadingZeros_5 (by decide) (fun c23 => ?_) (fun c23 => ?_)
    · replace h := hx_in c23 h
      refine lv_iconst (v := 0) hx hb d_JI_numberOfLeadingZeros_13 (by decide) ?_
      exact W.iret hx hb hr (fun t ht hW => ⟨by rw [Option.some.inj h], ht⟩) (fun q hq => nomatch hq) d_JI_numberOfLeadingZeros_14
    · replace h := hx_ip c23 h
      refine lv_bipush (v := 32) hx hb d_JI_numberOfLeadingZeros_8 (by decide) ?_
      refine lv_goto (tgt := 14) hx hb d_JI_numberOfLeadingZeros_10 (by decide) ?_
      exact W.iret hx hb hr (fun t ht hW => ⟨by rw [Option.some.inj h], ht⟩) (fun q hq => nomatch hq) d_JI_numberOfLeadingZeros_14
abbrev m_JL_compare : Room := { frames := 0, cells := 0, slots := 0, locals := 0 }
set_option maxHeartbeats 4000000 in
set_option maxRecDepth 100000 in
theorem c_JL_compare (l : Launch) (D : va_G) (T3 : hx_T3)  (x1 : Int64) (x2 : Int64) (r0 : Int32) (h : f_JL_compare x1 x2 = some r0) : hx_R l D (hx_ty T3) [] y_JL_compare w_JL_compare m_JL_compare [.long x1, .long x2] (.int r0) := by
  refine Met.ofW (cc := b_JL_compare) (maxL := 4) (ret := (some .int)) (by decide) rfl ?_
  intro p e s m args below meth c s₁ B hml hv
  obtain ⟨hargs, hP, hK⟩ := hv
  have hx := B.exec
  have hb := B.bytes
  have hr := B.returns
  have hts := atoms_spec (ws := w_JL_compare) B.pre
  have hown : s.vm.findClass "java/lang/Long" = some m.cls := findClass_of_methodNamed B.named
  have hlocks := B.notSynchronized
  refine W.eq (g2 := F0 m 0 ((lg_sl [.long x1, .long x2] ++ List.replicate (4 - (lg_sl [.long x1, .long x2]).length) Slot.unset).toArray) []) (by rw [hargs, lg_entry_eq]) ?_
  have hl := lv_entry ([.long x1, .long x2]) (n := 4) (Nat.le_of_ble_eq_true rfl)
  generalize (lg_sl ([.long x1, .long x2]) ++ List.replicate (4 - (lg_sl ([.long x1, .long x2])).length) Slot.unset).toArray = ls at hl ⊢
  have hl : lv_has ls 4 [(0, .long x1), (2, .long x2)] := hl
  rw [f_JL_compare] at h
  refine lv_lload_n hx hb d_JL_compare_0 rfl (lv_at hl 0 rfl) ?_
  refine lv_lload_n hx hb d_JL_compare_1 rfl (lv_at hl 1 rfl) ?_
  refine W.lcmp hx hb d_JL_compare_2 ?_
  refine lv_if_ge (tgt := 10) hx hb d_JL_compare_3 (by decide) (fun c3 => ?_) (fun c3 => ?_)
  · replace h := hx_ip c3 h
    refine lv_lload_n hx hb d_JL_compare_10 rfl (lv_at hl 0 rfl) ?_
    refine lv_lload_n hx hb d_JL_compare_11 rfl (lv_at hl 1 rfl) ?_
    refine W.lcmp hx hb d_JL_compare_12 ?_
    refine lv_if_ne (tgt := 20) hx hb d_JL_compare_13 (by decide) (fun c4 => ?_) (fun c4 => ?_)
    · replace h := hx_in c4 h
      refine lv_iconst (v := 1) hx hb d_JL_compare_20 (by decide) ?_
      exact W.iret hx hb hr (fun t ht hW => ⟨by rw [Option.some.inj h], ht⟩) (fun q hq => nomatch hq) d_JL_compare_21
    · replace h := hx_ip c4 h
      refine lv_iconst (v := 0) hx hb d_JL_compare_16 (by decide) ?_
      refine lv_goto (tgt := 21) hx hb d_JL_compare_17 (by decide) ?_
      exact W.iret hx hb hr (fun t ht hW => ⟨by rw [Option.some.inj h], ht⟩) (fun q hq => nomatch hq) d_JL_compare_21
  · replace h := hx_in c3 h
    refine lv_iconst (v := -1) hx hb d_JL_compare_6 (by decide) ?_
    refine lv_goto (tgt := 21) hx hb d_JL_compare_7 (by decide) ?_
    exact W.iret hx hb hr (fun t ht hW => ⟨by rw [Option.some.inj h], ht⟩) (fun q hq => nomatch hq) d_JL_compare_21
abbrev m_JL_numberOfLeadingZeros : Room := { frames := 1, cells := 0, slots := 0, locals := 21 }
set_option maxHeartbeats 4000000 in
set_option maxRecDepth 100000 in
theorem c_JL_numberOfLeadingZeros (l : Launch) (D : va_G) (T3 : hx_T3)  (x1 : Int64) (r0 : Int32) (h : f_JL_numberOfLeadingZeros x1 = some r0) : hx_R l D (hx_ty T3) [] y_JL_numberOfLeadingZeros w_JL_numberOfLeadingZeros m_JL_numberOfLeadingZeros [.long x1] (.int r0) := by
  refine Met.ofW (cc := b_JL_numberOfLeadingZeros) (maxL := 3) (ret := (some .int)) (by decide) rfl ?_
  intro p e s m args below meth c s₁ B hml hv
  obtain ⟨hargs, hP, hK⟩ := hv
  have hx := B.exec
  have hb := B.bytes
  have hr := B.returns
  have hts := atoms_spec (ws := w_JL_numberOfLeadingZeros) B.pre
  have hown : s.vm.findClass "java/lang/Long" = some m.cls := findClass_of_methodNamed B.named
  have hlocks := B.notSynchronized
  refine W.eq (g2 := F0 m 0 ((lg_sl [.long x1] ++ List.replicate (3 - (lg_sl [.long x1]).length) Slot.unset).toArray) []) (by rw [hargs, lg_entry_eq]) ?_
  have hl := lv_entry ([.long x1]) (n := 3) (Nat.le_of_ble_eq_true rfl)
  generalize (lg_sl ([.long x1]) ++ List.replicate (3 - (lg_sl ([.long x1])).length) Slot.unset).toArray = ls at hl ⊢
  have hl : lv_has ls 3 [(0, .long x1)] := hl
  rw [f_JL_numberOfLeadingZeros] at h
  refine lv_lload_n hx hb d_JL_numberOfLeadingZeros_0 rfl (lv_at hl 0 rfl) ?_
  refine lv_bipush (v := 32) hx hb d_JL_numberOfLeadingZeros_1 (by decide) ?_
  refine lv_lushr hx hb d_JL_numberOfLeadingZeros_3 rfl ?_
  refine lv_l2i hx hb d_JL_numberOfLeadingZeros_4 rfl ?_
  refine lv_topi (fun x2 ex2 => ?_)
  replace h := hx_ns ex2 h
  clear ex2
  refine lv_istore_n (lv' := [(2, .int x2), (0, .long x1)]) hx hb d_JL_numberOfLeadingZeros_5 rfl hl (by decide) rfl (fun ls hl => ?_)
  refine lv_iload_n hx hb d_JL_numberOfLeadingZeros_6 rfl (lv_at hl 0 rfl) ?_
  refine lv_if_ne (tgt := 21) hx hb d_JL_numberOfLeadingZeros_7 (by decide) (fun c3 => ?_) (fun c3 => ?_)
  · replace h := hx_in c3 h
    refine lv_iload_n hx hb d_JL_numberOfLeadingZeros_21 rfl (lv_at hl 0 rfl) ?_
    obtain ⟨r4, er4, h⟩ := hx_b1s h
    refine hx_rd (va_runS (As := [.int x2]) (rest := []) ⟨hx, hb, hml, hown, hts⟩ (c_JI_numberOfLeadingZeros l D T3 x2 _ er4) (va_cwS 1 hts (hx_gS hx_cons k_315 k_316 k_58 k_317) rfl rfl rfl (by decide +kernel) ⟨Nat.le_of_ble_eq_true rfl, Nat.le_of_ble_eq_true rfl⟩) (hx_preS hx_nil hK) rfl rfl hl.1 rfl (lv_room (Nat.le_of_ble_eq_true rfl)) d_JL_numberOfLeadingZeros_22 ⟨Nat.zero_le _, Nat.zero_le _⟩) ?_
    exact W.iret hx hb hr (fun t ht hW => ⟨by rw [Option.some.inj h], ht⟩) (fun q hq => nomatch hq) d_JL_numberOfLeadingZeros_25
  · replace h := hx_ip c3 h
    refine lv_bipush (v := 32) hx hb d_JL_numberOfLeadingZeros_10 (by decide) ?_
    refine lv_lload_n hx hb d_JL_numberOfLeadingZeros_12 rfl (lv_at hl 1 rfl) ?_
    refine lv_l2i hx hb d_JL_numberOfLeadingZeros_13 rfl ?_
    obtain ⟨r5, er5, h⟩ := hx_b1s h
    refine hx_rd (va_runS (As := [.int x1.toInt32]) (rest := [.int (32 : Int32)]) ⟨hx, hb, hml, hown, hts⟩ (c_JI_numberOfLeadingZeros l D T3 x1.toInt32 _ er5) (va_cwS 1 hts (hx_gS hx_cons k_315 k_316 k_58 k_317) rfl rfl rfl (by decide +kernel) ⟨Nat.le_of_ble_eq_true rfl, Nat.le_of_ble_eq_true rfl⟩) (hx_preS hx_nil hK) rfl rfl hl.1 rfl (lv_room (Nat.le_of_ble_eq_true rfl)) d_JL_numberOfLeadingZeros_14 ⟨Nat.zero_le _, Nat.zero_le _⟩) ?_
    refine lv_iadd hx hb d_JL_numberOfLeadingZeros_17 ?_
    refine lv_goto (tgt := 25) hx hb d_JL_numberOfLeadingZeros_18 (by decide) ?_
    exact W.iret hx hb hr (fun t ht hW => ⟨by rw [Option.some.inj h], ht⟩) (fun q hq => nomatch hq) d_JL_numberOfLeadingZeros_25
abbrev m_JA_fill : Room := { frames := 0, cells := 0, slots := 0, locals := 0 }
set_option maxHeartbeats 4000000 in
set_option maxRecDepth 100000 in
theorem c_JA_fill (l : Launch) (D : va_G) (T3 : hx_T3) (h1 : Nat) (sz : Nat) (v : (Nat → Int64)) (x1 : Int64)  (σ0 : (Nat → Int64)) (h : f_JA_fill v x1 = some σ0) : hx_Wv l D (hx_ty T3) y_JA_fill w_JA_fill m_JA_fill [.ref (h1), .long x1] sz (hx_A1 T3 h1 v) (hx_A1 T3 h1 σ0) := by
  refine Met.ofW (cc := b_JA_fill) (maxL := 5) (ret := none) (by decide) rfl ?_
  intro p e s m args below meth c s₁ B hml hv
  obtain ⟨hargs, hsz, hP, hK, hD0⟩ := hv
  have hx := B.exec
  have hb := B.bytes
  have hr := B.returns
  have hts := atoms_spec (ws := w_JA_fill) B.pre
  have hown : s.vm.findClass "java/util/Arrays" = some m.cls := findClass_of_methodNamed B.named
  have hlocks := B.notSynchronized
  subst hsz
  have hD := hD0.self (sz := s.heap.size)
  generalize hAe : va_A (hx_A1 T3 h1 v) s.heap.size = A at hD ⊢
  have hA : ∀ q : Nat, s.heap.size ≤ q → A q := fun q h => by rw [← hAe]; exact Or.inr h
  have hS : va_S A s.heap s.heap [] := va_S.rf
  have B_6 : ∀ (n : Nat), ∀ (σ : (Nat → Int64)) (x2 : Int64) (x3 : Int32) (x4 : Int32) (H : Heap) (locs : List Loc) (ls : Array Slot), va_P D vwCl (hx_A1 T3 h1 σ) H → va_D A (hx_A1 T3 h1 σ) → va_S A s.heap H locs → lv_has ls 5 [(0, .ref (h1)), (1, .long x2), (3, .int x3), (4, .int x4)] → f_JA_fill_6 n σ x2 x3 x4 = some σ0 → W p l e (headSpec w_JA_fill m_JA_fill).room s m args below meth c H locs 0 0 (MQ below (hx_Qv D (hx_ty T3) A (hx_A1 T3 h1 σ0)) args s 0 0 A) (F0 m 6 ls []) := by
    intro n
    induction n with
    | zero =>
      intro σ x2 x3 x4 H locs ls hP hD hS hl h
      rw [f_JA_fill_6] at h
      cases h
    | succ n ih =>
        intro σ x2 x3 x4 H locs ls hP hD hS hl h
        rw [f_JA_fill_6] at h
        refine lv_iload_n hx hb d_JA_fill_6 rfl (lv_at hl 2 rfl) ?_
        refine lv_iload hx hb d_JA_fill_7 (lv_at hl 3 rfl) ?_
        refine lv_icmp_ge (tgt := 22) hx hb d_JA_fill_9 (by decide) (fun c5 => ?_) (fun c5 => ?_)
        · replace h := hx_ip c5 h
          exact W.vret hx hb hr (fun t ht hW => hx_endv h ht hW hP hK hD hS) hS.2.2 d_JA_fill_22
        · replace h := hx_in c5 h
          refine lv_aload_n hx hb d_JA_fill_12 rfl (lv_at hl 0 rfl) ?_
          refine lv_iload_n hx hb d_JA_fill_13 rfl (lv_at hl 2 rfl) ?_
          refine lv_lload_n hx hb d_JA_fill_14 rfl (lv_at hl 1 rfl) ?_
          obtain ⟨g6, h⟩ := hx_gs h
          refine va_last hx hb hK hP hD hS (0) 2 hx_at_A1 rfl g6 d_JA_fill_15 (fun H locs hP hD hS => ?_)
          obtain ⟨σ7, eσ7⟩ : ∃ y : (Nat → Int64), y = (vp_updL σ x3.toNatClampNeg x2) := ⟨_, rfl⟩
          replace hP : va_P D vwCl (hx_A1 T3 h1 σ7) H := by rw [eσ7]; exact hP
          replace hD : va_D A (hx_A1 T3 h1 σ7) := by rw [eσ7]; exact hD
          replace h := hx_ns eσ7 h
          clear eσ7
          obtain ⟨x8, ex8⟩ : ∃ y : Int32, y = x3 + 1 := ⟨_, rfl⟩
          replace h := hx_ns ex8 h
          refine lv_iinc (v := x8) (lv' := [(3, .int x8), (0, .ref (h1)), (1, .long x2), (4, .int x4)]) hx hb d_JA_fill_16 hl (k := 2) rfl (by rw [ex8]; rfl) (by decide) rfl (fun ls hl => ?_)
          clear ex8
          refine lv_goto (tgt := 6) hx hb d_JA_fill_19 (by decide) ?_
          exact ih σ7 x2 x8 x4 _ _ ls hP hD hS (lv_sub hl [1, 2, 0, 3] rfl) h
  refine W.eq (g2 := F0 m 0 ((lg_sl [.ref (h1), .long x1] ++ List.replicate (5 - (lg_sl [.ref (h1), .long x1]).length) Slot.unset).toArray) []) (by rw [hargs, lg_entry_eq]) ?_
  have hl := lv_entry ([.ref (h1), .long x1]) (n := 5) (Nat.le_of_ble_eq_true rfl)
  generalize (lg_sl ([.ref (h1), .long x1]) ++ List.replicate (5 - (lg_sl ([.ref (h1), .long x1])).length) Slot.unset).toArray = ls at hl ⊢
  have hl : lv_has ls 5 [(0, .ref (h1)), (1, .long x1)] := hl
  rw [f_JA_fill] at h
  refine lv_iconst (v := 0) hx hb d_JA_fill_0 (by decide) ?_
  refine lv_istore_n (lv' := [(3, .int (0 : Int32)), (0, .ref (h1)), (1, .long x1)]) hx hb d_JA_fill_1 rfl hl (by decide) rfl (fun ls hl => ?_)
  refine lv_aload_n hx hb d_JA_fill_2 rfl (lv_at hl 1 rfl) ?_
  refine va_alen (v := 20) hx hb hK hP (0) 2 hx_at_A1 rfl rfl d_JA_fill_3 ?_
  refine lv_istore (lv' := [(4, .int (20 : Int32)), (3, .int (0 : Int32)), (0, .ref (h1)), (1, .long x1)]) hx hb d_JA_fill_4 hl (by decide) rfl (fun ls hl => ?_)
  exact B_6 hx_fuel v x1 (0 : Int32) (20 : Int32) _ _ ls hP hD hS (lv_sub hl [2, 3, 1, 0] rfl) h
