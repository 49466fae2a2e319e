/-! Constructors -/
theorem hx_same0 {D : va_G} {T3 : hx_T3} {s : State} {cA : ClassId} (hK : va_K D vwCl (hx_ty T3) s) (h : va_K D vwCl (hx_ty T3 ++ [(cA, .object "HalfFloats$Format")]) s) : cA = T3.1 := by
  obtain ⟨_, _, _, _, _, e1⟩ := (hK.2 0 _ rfl).2
  obtain ⟨_, _, _, _, _, e2⟩ := (h.2 3 _ rfl).2
  exact Option.some.inj (e2.symm.trans e1)
theorem hx_same1 {D : va_G} {T3 : hx_T3} {s : State} {cA : ClassId} (hK : va_K D vwCl (hx_ty T3) s) (h : va_K D vwCl (hx_ty T3 ++ [(cA, .int)]) s) : cA = T3.2.1 := Option.some.inj ((h.2 3 _ rfl).2.symm.trans (hK.2 1 _ rfl).2)
theorem hx_same2 {D : va_G} {T3 : hx_T3} {s : State} {cA : ClassId} (hK : va_K D vwCl (hx_ty T3) s) (h : va_K D vwCl (hx_ty T3 ++ [(cA, .long)]) s) : cA = T3.2.2 := Option.some.inj ((h.2 3 _ rfl).2.symm.trans (hK.2 2 _ rfl).2)
def hx_D1w (h : Nat) (v : hx_Rd) : va_W := [(h, .inr (4, [.int v.1, .long v.2]))]
def hx_D1w_at {h : Nat} {v : hx_Rd} : (hx_D1w h v)[0]? = some (h, .inr (4, [.int v.1, .long v.2])) := rfl
def hx_D1_r (v : hx_Rd) : Int32 := v.1
def hx_D1_t (v : hx_Rd) : Int64 := v.2
def hx_D1_rs (v : hx_Rd) (x : Int32) : hx_Rd := (x, v.2)
def hx_D1_ts (v : hx_Rd) (x : Int64) : hx_Rd := (v.1, x)
theorem hx_fmOf {o : Option hx_Fm} {v : hx_Fm} (h : (match o with | some u => (u.1 == v.1 && (u.2.1 == v.2.1 && (u.2.2.1 == v.2.2.1 && (u.2.2.2.1 == v.2.2.2.1 && (u.2.2.2.2.1 == v.2.2.2.2.1 && (u.2.2.2.2.2.1 == v.2.2.2.2.2.1 && (u.2.2.2.2.2.2.1 == v.2.2.2.2.2.2.1 && u.2.2.2.2.2.2.2 == v.2.2.2.2.2.2.2))))))) | none => false) = true) : o = some v := by
  cases o with
  | none => cases h
  | some u =>
    simp only [Bool.and_eq_true, beq_iff_eq] at h
    obtain ⟨h1, h2, h3, h4, h5, h6, h7, h8⟩ := h
    exact congrArg some (Prod.ext h1 (Prod.ext h2 (Prod.ext h3 (Prod.ext h4 (Prod.ext h5 (Prod.ext h6 (Prod.ext h7 h8)))))))
def hx_ad (l : List Nat) (k : Nat) : Nat := l.getD k 0
theorem hx_fix1 {D : va_G} {cl : List vw_C} {a : Nat × va_E} {q : Nat} {cA : ClassId} {n : Nat} {f g : Nat → Option Nat} {r : va_W} {H : Heap} (hfg : ∀ j, j < n → f j = g j) (hP : va_P D cl (a :: (q, .inl (cA, n, .inr (.inr (.inr (.inr f))))) :: r) H) : va_P D cl (a :: (q, .inl (cA, n, .inr (.inr (.inr (.inr g))))) :: r) H := by
  intro k x hk
  match k, hk with
  | 0, hk => exact hP 0 x hk
  | 1, hk =>
    cases hk
    have h := hP 1 _ rfl
    show H[q]? = some (vp_cell _ _)
    have h2 : H[q]? = some (vp_cell cA (n, .inr (.inr (.inr (.inr f))))) := h
    rw [h2, vp_cell_q, vp_cell_q]
    unfold arrV
    congr 3
    funext j
    show va_rf (f j.1) = va_rf (g j.1)
    rw [hfg j.1 j.2]
  | k + 2, hk => exact hP (k + 2) x hk
theorem hx_fixD {A : Nat → Prop} {a : Nat × va_E} {q : Nat} {e1 e2 : va_E} {r : va_W} (hD : va_D A (a :: (q, e1) :: r)) : va_D A (a :: (q, e2) :: r) := by
  have h := hD.set (p := 1) (e := e2) rfl
  exact h
theorem hx_bX {D : va_G} {tys : List (ClassId × FieldType)} {w0 : va_W} {av : List Value} {sz : Nat} : FrameBlind (fun v U => hx_Pw D tys av sz w0 v U ∧ va_AO "HalfFloats$Format" U) := fun a U g mk q => ⟨hx_bW a U g mk q.1, va_AO.moved (u := U) (U := U.calling g mk a) (Vm.Alike.refl U.vm) q.2⟩

def f_F_init (v : hx_Fm) (x1 : Int32) (x2 : Int32) (x3 : Int32) : Option hx_Fm := hx_b1 (f_F_become v x1 x2 x3) (fun q4 => some q4)
abbrev m_F_init : Room := { frames := 1, cells := 0, slots := 0, locals := 26 }
set_option maxHeartbeats 4000000 in
set_option maxRecDepth 100000 in
theorem c_F_init (l : Launch) (D : va_G) (T3 : hx_T3) (h1 : Nat) (sz : Nat) (v : hx_Fm) (x1 : Int32) (x2 : Int32) (x3 : Int32)  (σ0 : hx_Fm) (h : f_F_init v x1 x2 x3 = some σ0) : hx_Wv l D (hx_ty T3) y_F_init w_F_init m_F_init [.ref (h1), .int x1, .int x2, .int x3] sz (hx_F1 h1 v) (hx_F1 h1 σ0) := by
  refine Met.ofW (cc := b_F_init) (maxL := 4) (ret := none) (by decide) rfl ?_
  intro p e s m args below meth c s₁ B hml hv
  obtain ⟨hargs, hsz, hP, hK, hD0⟩ := hv
  have hx := B.exec
  have hb := B.bytes
  have hr := B.returns
  have hts := atoms_spec (ws := w_F_init) B.pre
  have hown : s.vm.findClass "HalfFloats$Format" = some m.cls := findClass_of_methodNamed B.named
  have hlocks := B.notSynchronized
  subst hsz
  have hD := hD0.self (sz := s.heap.size)
  generalize hAe : va_A (hx_F1 h1 v) s.heap.size = A at hD ⊢
  have hA : ∀ q : Nat, s.heap.size ≤ q → A q := fun q h => by rw [← hAe]; exact Or.inr h
  have hS : va_S A s.heap s.heap [] := va_S.rf
  refine W.eq (g2 := F0 m 0 ((lg_sl [.ref (h1), .int x1, .int x2, .int x3] ++ List.replicate (4 - (lg_sl [.ref (h1), .int x1, .int x2, .int x3]).length) Slot.unset).toArray) []) (by rw [hargs, lg_entry_eq]) ?_
  have hl := lv_entry ([.ref (h1), .int x1, .int x2, .int x3]) (n := 4) (Nat.le_of_ble_eq_true rfl)
  generalize (lg_sl ([.ref (h1), .int x1, .int x2, .int x3]) ++ List.replicate (4 - (lg_sl ([.ref (h1), .int x1, .int x2, .int x3])).length) Slot.unset).toArray = ls at hl ⊢
  have hl : lv_has ls 4 [(0, .ref (h1)), (1, .int x1), (2, .int x2), (3, .int x3)] := hl
  rw [f_F_init] at h
  refine lv_aload_n hx hb d_F_init_0 rfl (lv_at hl 0 rfl) ?_
  refine W.objInit hx hb hown (hts _ (hx_cons _ k_74)) (hts _ (hx_cons _ k_66)) (hts _ (hx_cons _ k_67)) rfl (by rw [hml]; exact hl.1) rfl d_F_init_1 (Nat.le_of_ble_eq_true rfl) (Nat.le_of_ble_eq_true rfl) ?_
  refine W.eq (g2 := F0 m 4 ls []) rfl ?_
  refine lv_aload_n hx hb d_F_init_4 rfl (lv_at hl 0 rfl) ?_
  refine lv_iload_n hx hb d_F_init_5 rfl (lv_at hl 1 rfl) ?_
  refine lv_iload_n hx hb d_F_init_6 rfl (lv_at hl 2 rfl) ?_
  refine lv_iload_n hx hb d_F_init_7 rfl (lv_at hl 3 rfl) ?_
  obtain ⟨q4, eq4, h⟩ := hx_b1s h
  refine hx_wv (va_runV (As := [.int x1, .int x2, .int x3]) (rest := []) ⟨hx, hb, hml, hown, hts⟩ (c_F_become l D T3 h1 _ v x1 x2 x3 _ eq4) (cwV 3 hts (hx_gV hx_cons k_75 k_76 k_77 k_51 k_78) rfl rfl rfl (by decide +kernel) ⟨Nat.le_of_ble_eq_true rfl, Nat.le_of_ble_eq_true rfl⟩) (hx_preVw (va_recv hK hP (ci := 1) (q0 := 0) rfl hx_at_F1) hP hK hD) rfl rfl hl.1 rfl (lv_room (Nat.le_of_ble_eq_true rfl)) d_F_init_8 ⟨Nat.zero_le _, Nat.zero_le _⟩) hD hS hA (fun H locs hP hD hS => ?_)
  exact W.vret hx hb hr (fun t ht hW => hx_endv h ht hW hP hK hD hS) hS.2.2 d_F_init_11
def f_D_init (v : hx_Rd) : Option hx_Rd := hx_n (hx_D1_rs v (0 : Int32)) (fun σ1 => hx_n (hx_D1_ts σ1 (1 : Int64)) (fun σ2 => some σ2))
abbrev m_D_init : Room := { frames := 1, cells := 0, slots := 0, locals := 20 }
set_option maxHeartbeats 4000000 in
set_option maxRecDepth 100000 in
theorem c_D_init (l : Launch) (D : va_G) (T3 : hx_T3) (h1 : Nat) (sz : Nat) (v : hx_Rd)  (σ0 : hx_Rd) (h : f_D_init v = some σ0) : hx_Wv l D (hx_ty T3) y_D_init w_D_init m_D_init [.ref (h1)] sz (hx_D1w h1 v) (hx_D1w h1 σ0) := by
  refine Met.ofW (cc := b_D_init) (maxL := 1) (ret := none) (by decide) rfl ?_
  intro p e s m args below meth c s₁ B hml hv
  obtain ⟨hargs, hsz, hP, hK, hD0⟩ := hv
  have hx := B.exec
  have hb := B.bytes
  have hr := B.returns
  have hts := atoms_spec (ws := w_D_init) B.pre
  have hown : s.vm.findClass "HalfFloats$Rounder" = some m.cls := findClass_of_methodNamed B.named
  have hlocks := B.notSynchronized
  subst hsz
  have hD := hD0.self (sz := s.heap.size)
  generalize hAe : va_A (hx_D1w h1 v) s.heap.size = A at hD ⊢
  have hA : ∀ q : Nat, s.heap.size ≤ q → A q := fun q h => by rw [← hAe]; exact Or.inr h
  have hS : va_S A s.heap s.heap [] := va_S.rf
  refine W.eq (g2 := F0 m 0 ((lg_sl [.ref (h1)] ++ List.replicate (1 - (lg_sl [.ref (h1)]).length) Slot.unset).toArray) []) (by rw [hargs, lg_entry_eq]) ?_
  have hl := lv_entry ([.ref (h1)]) (n := 1) (Nat.le_of_ble_eq_true rfl)
  generalize (lg_sl ([.ref (h1)]) ++ List.replicate (1 - (lg_sl ([.ref (h1)])).length) Slot.unset).toArray = ls at hl ⊢
  have hl : lv_has ls 1 [(0, .ref (h1))] := hl
  rw [f_D_init] at h
  refine lv_aload_n hx hb d_D_init_0 rfl (lv_at hl 0 rfl) ?_
  refine W.objInit hx hb hown (hts _ (hx_cons _ k_194)) (hts _ (hx_cons _ k_66)) (hts _ (hx_cons _ k_67)) rfl (by rw [hml]; exact hl.1) rfl d_D_init_1 (Nat.le_of_ble_eq_true rfl) (Nat.le_of_ble_eq_true rfl) ?_
  refine W.eq (g2 := F0 m 4 ls []) rfl ?_
  refine lv_aload_n hx hb d_D_init_4 rfl (lv_at hl 0 rfl) ?_
  refine lv_iconst (v := 0) hx hb d_D_init_5 (by decide) ?_
  refine va_put (D := D) (ci := 4) (v := .int (0 : Int32)) (ty := .int) (C := "HalfFloats$Rounder") (T := T_D) (N := 2) hx hb hts (hx_up in_D) ty_D tyok_D nm_D hown hK hP hD hS (0) hx_D1w_at rfl 0 (by decide) (hts _ (hx_cons _ k_195)) (fun _ h9 => h9) rfl (by decide +kernel) rfl rfl (Nat.le_of_ble_eq_true rfl) d_D_init_6 (fun H locs hP hD hS => ?_)
  obtain ⟨σ1, eσ1⟩ : ∃ y : hx_Rd, y = (hx_D1_rs v (0 : Int32)) := ⟨_, rfl⟩
  replace hP : va_P D vwCl (hx_D1w h1 σ1) H := by rw [eσ1]; exact hP
  replace hD : va_D A (hx_D1w h1 σ1) := by rw [eσ1]; exact hD
  replace h := hx_ns eσ1 h
  clear eσ1
  refine lv_aload_n hx hb d_D_init_9 rfl (lv_at hl 0 rfl) ?_
  refine lv_lconst (v := 1) hx hb d_D_init_10 rfl ?_
  refine va_put (D := D) (ci := 4) (v := .long (1 : Int64)) (ty := .long) (C := "HalfFloats$Rounder") (T := T_D) (N := 2) hx hb hts (hx_up in_D) ty_D tyok_D nm_D hown hK hP hD hS (0) hx_D1w_at rfl 1 (by decide) (hts _ (hx_cons _ k_197)) (fun _ h9 => h9) rfl (by decide +kernel) rfl rfl (Nat.le_of_ble_eq_true rfl) d_D_init_11 (fun H locs hP hD hS => ?_)
  obtain ⟨σ2, eσ2⟩ : ∃ y : hx_Rd, y = (hx_D1_ts σ1 (1 : Int64)) := ⟨_, rfl⟩
  replace hP : va_P D vwCl (hx_D1w h1 σ2) H := by rw [eσ2]; exact hP
  replace hD : va_D A (hx_D1w h1 σ2) := by rw [eσ2]; exact hD
  replace h := hx_ns eσ2 h
  clear eσ2
  exact W.vret hx hb hr (fun t ht hW => hx_endv h ht hW hP hK hD hS) hS.2.2 d_D_init_14
abbrev m_R_init : Room := { frames := 1, cells := 1, slots := 32, locals := 20 }
set_option maxHeartbeats 8000000 in
set_option maxRecDepth 100000 in
theorem c_R_init (l : Launch) (D : va_G) (T3 : hx_T3) (h0 sz : Nat) (x1 : Int32) : Met l y_R_init w_R_init m_R_init (hx_Pw D (hx_ty T3) [.ref h0, .int x1] sz [(h0, .inr (2, [.null, .int 0, .int 0]))]) (va_Qv (fun (_ : Nat) => True) (fun u t => hx_B D (hx_ty T3) (va_A [(h0, .inr (2, [.null, .int 0, .int 0]))] sz) ([(h0, .inr (2, [.ref u, .int (0), .int x1])), (u, .inl (T3.2.1, 32, .inl (fun _ => 0)))]) () t) (va_A [(h0, .inr (2, [.null, .int 0, .int 0]))] sz)) 1 32 (va_A [(h0, .inr (2, [.null, .int 0, .int 0]))] sz) := by
  refine Met.ofW (cc := b_R_init) (maxL := 2) (ret := none) (by decide) rfl ?_
  intro p e s m args below meth c s₁ B hml hv
  obtain ⟨hargs, hsz, hP, hK, hD0⟩ := hv
  have hx := B.exec
  have hb := B.bytes
  have hr := B.returns
  have hts := atoms_spec (ws := w_R_init) B.pre
  have hown : s.vm.findClass "HalfFloats$Row" = some m.cls := findClass_of_methodNamed B.named
  have hlocks := B.notSynchronized
  have hin : meth.name = "<init>" := (name_of_methodNamed B.named B.method).1
  subst hsz
  have hD := hD0.self (sz := s.heap.size)
  generalize hAe : va_A [(h0, .inr (2, [.null, .int 0, .int 0]))] s.heap.size = A at hD ⊢
  have hA : ∀ q : Nat, s.heap.size ≤ q → A q := fun q h => by rw [← hAe]; exact Or.inr h
  have hS : va_S A s.heap s.heap [] := va_S.rf
  refine W.eq (g2 := F0 m 0 ((lg_sl [.ref h0, .int x1] ++ List.replicate (2 - (lg_sl [.ref h0, .int x1]).length) Slot.unset).toArray) []) (by rw [hargs, lg_entry_eq]) ?_
  have hl := lv_entry ([.ref h0, .int x1]) (n := 2) (Nat.le_of_ble_eq_true rfl)
  generalize (lg_sl ([.ref h0, .int x1]) ++ List.replicate (2 - (lg_sl ([.ref h0, .int x1])).length) Slot.unset).toArray = ls at hl ⊢
  have hl : lv_has ls 2 [(0, .ref h0), (1, .int x1)] := hl
  refine lv_aload_n hx hb d_R_init_0 rfl (lv_at hl 0 rfl) ?_
  refine W.objInit hx hb hown (hts _ (hx_cons _ k_121)) (hts _ (hx_cons _ k_66)) (hts _ (hx_cons _ k_67)) rfl (by rw [hml]; exact hl.1) rfl d_R_init_1 (Nat.le_of_ble_eq_true rfl) (Nat.le_of_ble_eq_true rfl) ?_
  refine W.eq (g2 := F0 m 4 ls []) rfl ?_
  refine lv_aload_n hx hb d_R_init_4 rfl (lv_at hl 0 rfl) ?_
  refine lv_bipush (v := 32) hx hb d_R_init_5 (by decide) ?_
  refine va_newa (atype := .int) (a0 := (32, .inl (fun _ => 0))) hx hb (hts _ (hx_cons _ k_135)) rfl hK hP hD hS hA (fun _ => rfl) (by decide) (by decide) (by decide) (Nat.le_of_ble_eq_true rfl) (Nat.le_of_ble_eq_true rfl) d_R_init_7 (fun q1 cA H hK9 hP hD hS => ?_)
  rw [hx_same1 hK hK9] at hP hD
  clear hK9
  have hP : va_P D vwCl [(h0, .inr (2, [.null, .int 0, .int 0])), (q1, .inl (T3.2.1, 32, .inl (fun _ => 0)))] H := hP
  have hD : va_D A [(h0, .inr (2, [.null, .int 0, .int 0])), (q1, .inl (T3.2.1, 32, .inl (fun _ => 0)))] := hD
  refine W.widen (k := 1) (n := 32) (Nat.le_refl _) (Nat.le_refl _) ?_
  refine va_putF (D := D) (ci := 2) (v := .ref q1) (ty := .array .int) (C := "HalfFloats$Row") (T := T_R) (N := 3) hx hb hts (hx_up in_R) ty_R tyok_R nm_R hown hK hP hD hS 0 rfl rfl 0 (by decide) (hts _ (hx_cons _ k_122)) (fun _ h9 => h9) rfl hin rfl (by decide +kernel) rfl rfl (Nat.le_of_ble_eq_true rfl) d_R_init_9 (fun H locs hP hD hS => ?_)
  have hP : va_P D vwCl [(h0, .inr (2, [.ref q1, .int 0, .int 0])), (q1, .inl (T3.2.1, 32, .inl (fun _ => 0)))] H := hP
  have hD : va_D A [(h0, .inr (2, [.ref q1, .int 0, .int 0])), (q1, .inl (T3.2.1, 32, .inl (fun _ => 0)))] := hD
  refine lv_aload_n hx hb d_R_init_12 rfl (lv_at hl 0 rfl) ?_
  refine lv_iconst (v := 0) hx hb d_R_init_13 (by decide) ?_
  refine va_put (D := D) (ci := 2) (v := .int (0)) (ty := .int) (C := "HalfFloats$Row") (T := T_R) (N := 3) hx hb hts (hx_up in_R) ty_R tyok_R nm_R hown hK hP hD hS 0 rfl rfl 1 (by decide) (hts _ (hx_cons _ k_124)) (fun _ h9 => h9) rfl (by decide +kernel) rfl rfl (Nat.le_of_ble_eq_true rfl) d_R_init_14 (fun H locs hP hD hS => ?_)
  have hP : va_P D vwCl [(h0, .inr (2, [.ref q1, .int (0), .int 0])), (q1, .inl (T3.2.1, 32, .inl (fun _ => 0)))] H := hP
  have hD : va_D A [(h0, .inr (2, [.ref q1, .int (0), .int 0])), (q1, .inl (T3.2.1, 32, .inl (fun _ => 0)))] := hD
  refine lv_aload_n hx hb d_R_init_17 rfl (lv_at hl 0 rfl) ?_
  refine lv_iload_n hx hb d_R_init_18 rfl (lv_at hl 1 rfl) ?_
  refine va_put (D := D) (ci := 2) (v := .int x1) (ty := .int) (C := "HalfFloats$Row") (T := T_R) (N := 3) hx hb hts (hx_up in_R) ty_R tyok_R nm_R hown hK hP hD hS 0 rfl rfl 2 (by decide) (hts _ (hx_cons _ k_126)) (fun _ h9 => h9) rfl (by decide +kernel) rfl rfl (Nat.le_of_ble_eq_true rfl) d_R_init_19 (fun H locs hP hD hS => ?_)
  have hP : va_P D vwCl [(h0, .inr (2, [.ref q1, .int (0), .int x1])), (q1, .inl (T3.2.1, 32, .inl (fun _ => 0)))] H := hP
  have hD : va_D A [(h0, .inr (2, [.ref q1, .int (0), .int x1])), (q1, .inl (T3.2.1, 32, .inl (fun _ => 0)))] := hD
  exact W.vret hx hb hr (fun t ht hW => ⟨⟨q1, rfl, trivial, by rw [ht]; exact hP, va_K.moved hW.alike hK, hD⟩, hS.F ht⟩) hS.2.2 d_R_init_22
abbrev m_E_init : Room := { frames := 1, cells := 1, slots := 20, locals := 20 }
set_option maxHeartbeats 8000000 in
set_option maxRecDepth 100000 in
theorem c_E_init (l : Launch) (D : va_G) (T3 : hx_T3) (h0 sz : Nat) : Met l y_E_init w_E_init m_E_init (hx_Pw D (hx_ty T3) [.ref h0] sz [(h0, .inr (3, [.int 0, .int 0, .int 0, .int 0, .int 0, .int 0, .int 0, .int 0, .long 0, .int 0, .int 0, .null]))]) (va_Qv (fun (_ : Nat) => True) (fun u t => hx_B D (hx_ty T3) (va_A [(h0, .inr (3, [.int 0, .int 0, .int 0, .int 0, .int 0, .int 0, .int 0, .int 0, .long 0, .int 0, .int 0, .null]))] sz) ([(h0, .inr (3, [.int 0, .int 0, .int 0, .int 0, .int 0, .int 0, .int 0, .int 0, .long 0, .int 0, .int 0, .ref u])), (u, .inl (T3.2.2, 20, .inr (.inl (fun _ => 0))))]) () t) (va_A [(h0, .inr (3, [.int 0, .int 0, .int 0, .int 0, .int 0, .int 0, .int 0, .int 0, .long 0, .int 0, .int 0, .null]))] sz)) 1 20 (va_A [(h0, .inr (3, [.int 0, .int 0, .int 0, .int 0, .int 0, .int 0, .int 0, .int 0, .long 0, .int 0, .int 0, .null]))] sz) := by
  refine Met.ofW (cc := b_E_init) (maxL := 1) (ret := none) (by decide) rfl ?_
  intro p e s m args below meth c s₁ B hml hv
  obtain ⟨hargs, hsz, hP, hK, hD0⟩ := hv
  have hx := B.exec
  have hb := B.bytes
  have hr := B.returns
  have hts := atoms_spec (ws := w_E_init) B.pre
  have hown : s.vm.findClass "HalfFloats$Exact" = some m.cls := findClass_of_methodNamed B.named
  have hlocks := B.notSynchronized
  have hin : meth.name = "<init>" := (name_of_methodNamed B.named B.method).1
  subst hsz
  have hD := hD0.self (sz := s.heap.size)
  generalize hAe : va_A [(h0, .inr (3, [.int 0, .int 0, .int 0, .int 0, .int 0, .int 0, .int 0, .int 0, .long 0, .int 0, .int 0, .null]))] s.heap.size = A at hD ⊢
  have hA : ∀ q : Nat, s.heap.size ≤ q → A q := fun q h => by rw [← hAe]; exact Or.inr h
  have hS : va_S A s.heap s.heap [] := va_S.rf
  refine W.eq (g2 := F0 m 0 ((lg_sl [.ref h0] ++ List.replicate (1 - (lg_sl [.ref h0]).length) Slot.unset).toArray) []) (by rw [hargs, lg_entry_eq]) ?_
  have hl := lv_entry ([.ref h0]) (n := 1) (Nat.le_of_ble_eq_true rfl)
  generalize (lg_sl ([.ref h0]) ++ List.replicate (1 - (lg_sl ([.ref h0])).length) Slot.unset).toArray = ls at hl ⊢
  have hl : lv_has ls 1 [(0, .ref h0)] := hl
  refine lv_aload_n hx hb d_E_init_0 rfl (lv_at hl 0 rfl) ?_
  refine W.objInit hx hb hown (hts _ (hx_cons _ k_141)) (hts _ (hx_cons _ k_66)) (hts _ (hx_cons _ k_67)) rfl (by rw [hml]; exact hl.1) rfl d_E_init_1 (Nat.le_of_ble_eq_true rfl) (Nat.le_of_ble_eq_true rfl) ?_
  refine W.eq (g2 := F0 m 4 ls []) rfl ?_
  refine lv_aload_n hx hb d_E_init_4 rfl (lv_at hl 0 rfl) ?_
  refine lv_bipush (v := 20) hx hb d_E_init_5 (by decide) ?_
  refine va_newa (atype := .long) (a0 := (20, .inr (.inl (fun _ => 0)))) hx hb (hts _ (hx_cons _ k_188)) rfl hK hP hD hS hA (fun _ => rfl) (by decide) (by decide) (by decide) (Nat.le_of_ble_eq_true rfl) (Nat.le_of_ble_eq_true rfl) d_E_init_7 (fun q1 cA H hK9 hP hD hS => ?_)
  rw [hx_same2 hK hK9] at hP hD
  clear hK9
  have hP : va_P D vwCl [(h0, .inr (3, [.int 0, .int 0, .int 0, .int 0, .int 0, .int 0, .int 0, .int 0, .long 0, .int 0, .int 0, .null])), (q1, .inl (T3.2.2, 20, .inr (.inl (fun _ => 0))))] H := hP
  have hD : va_D A [(h0, .inr (3, [.int 0, .int 0, .int 0, .int 0, .int 0, .int 0, .int 0, .int 0, .long 0, .int 0, .int 0, .null])), (q1, .inl (T3.2.2, 20, .inr (.inl (fun _ => 0))))] := hD
  refine W.widen (k := 1) (n := 20) (Nat.le_refl _) (Nat.le_refl _) ?_
  refine va_putF (D := D) (ci := 3) (v := .ref q1) (ty := .array .long) (C := "HalfFloats$Exact") (T := T_E) (N := 12) hx hb hts (hx_up in_E) ty_E tyok_E nm_E hown hK hP hD hS 0 rfl rfl 11 (by decide) (hts _ (hx_cons _ k_162)) (fun _ h9 => h9) rfl hin rfl (by decide +kernel) rfl rfl (Nat.le_of_ble_eq_true rfl) d_E_init_9 (fun H locs hP hD hS => ?_)
  have hP : va_P D vwCl [(h0, .inr (3, [.int 0, .int 0, .int 0, .int 0, .int 0, .int 0, .int 0, .int 0, .long 0, .int 0, .int 0, .ref q1])), (q1, .inl (T3.2.2, 20, .inr (.inl (fun _ => 0))))] H := hP
  have hD : va_D A [(h0, .inr (3, [.int 0, .int 0, .int 0, .int 0, .int 0, .int 0, .int 0, .int 0, .long 0, .int 0, .int 0, .ref q1])), (q1, .inl (T3.2.2, 20, .inr (.inl (fun _ => 0))))] := hD
  exact W.vret hx hb hr (fun t ht hW => ⟨⟨q1, rfl, trivial, by rw [ht]; exact hP, va_K.moved hW.alike hK, hD⟩, hS.F ht⟩) hS.2.2 d_E_init_12
def hx_init : hx_S := (fun k => if k = 0 then (5, 10, 0, 15, 31744, 32256, (-14), (-24)) else if k = 1 then (8, 7, 0, 15, 32640, 32704, (-126), (-133)) else if k = 2 then (8, 23, 0, 31, 2139095040, 2143289344, (-126), (-149)) else (4, 3, 1, 7, 127, 127, (-6), (-9)), fun k => if k = 0 then (fun _ => 0, 0, 0) else (fun _ => 0, 0, 2), (0, 0, 0, 0, 0, 0, 0, 0, 0, 0, 0, fun _ => 0), (0, 1), fun _ => 0, 0, 0, 3)
abbrev m_X_init : Room := { frames := 2, cells := 13, slots := 172, locals := 49 }
set_option maxHeartbeats 8000000 in
set_option maxRecDepth 100000 in
theorem c_X_init (l : Launch) (D : va_G) (T3 : hx_T3) (h0 sz : Nat) : Met l y_X_init w_X_init m_X_init (fun v U => hx_Pw D (hx_ty T3) [.ref h0] sz [(h0, .inr (0, [.null, .null, .null, .null, .null, .null, .int 0, .int 0, .int 0]))] v U ∧ va_AO "HalfFloats$Format" U) (va_Qv (fun (u : Nat → Nat) => u 0 = h0) (fun u t => hx_B D (hx_ty T3) (va_A [(h0, .inr (0, [.null, .null, .null, .null, .null, .null, .int 0, .int 0, .int 0]))] sz) (hx_W T3 u hx_init) () t) (va_A [(h0, .inr (0, [.null, .null, .null, .null, .null, .null, .int 0, .int 0, .int 0]))] sz)) 13 172 (va_A [(h0, .inr (0, [.null, .null, .null, .null, .null, .null, .int 0, .int 0, .int 0]))] sz) := by
  refine Met.ofW (cc := b_X_init) (maxL := 1) (ret := none) (by decide) rfl ?_
  intro p e s m args below meth c s₁ B hml hv
  obtain ⟨⟨hargs, hsz, hP, hK, hD0⟩, hAO⟩ := hv
  have hx := B.exec
  have hb := B.bytes
  have hr := B.returns
  have hts := atoms_spec (ws := w_X_init) B.pre
  have hown : s.vm.findClass "HalfFloats" = some m.cls := findClass_of_methodNamed B.named
  have hlocks := B.notSynchronized
  have hin : meth.name = "<init>" := (name_of_methodNamed B.named B.method).1
  subst hsz
  have hD := hD0.self (sz := s.heap.size)
  generalize hAe : va_A [(h0, .inr (0, [.null, .null, .null, .null, .null, .null, .int 0, .int 0, .int 0]))] s.heap.size = A at hD ⊢
  have hA : ∀ q : Nat, s.heap.size ≤ q → A q := fun q h => by rw [← hAe]; exact Or.inr h
  have hS : va_S A s.heap s.heap [] := va_S.rf
  refine W.eq (g2 := F0 m 0 ((lg_sl [.ref h0] ++ List.replicate (1 - (lg_sl [.ref h0]).length) Slot.unset).toArray) []) (by rw [hargs, lg_entry_eq]) ?_
  have hl := lv_entry ([.ref h0]) (n := 1) (Nat.le_of_ble_eq_true rfl)
  generalize (lg_sl ([.ref h0]) ++ List.replicate (1 - (lg_sl ([.ref h0])).length) Slot.unset).toArray = ls at hl ⊢
  have hl : lv_has ls 1 [(0, .ref h0)] := hl
  refine lv_aload_n hx hb d_X_init_0 rfl (lv_at hl 0 rfl) ?_
  refine W.objInit hx hb hown (hts _ (hx_cons _ k_65)) (hts _ (hx_cons _ k_66)) (hts _ (hx_cons _ k_67)) rfl (by rw [hml]; exact hl.1) rfl d_X_init_1 (Nat.le_of_ble_eq_true rfl) (Nat.le_of_ble_eq_true rfl) ?_
  refine W.eq (g2 := F0 m 4 ls []) rfl ?_
  refine lv_aload_n hx hb d_X_init_4 rfl (lv_at hl 0 rfl) ?_
  refine lv_iconst (v := 4) hx hb d_X_init_5 (by decide) ?_
  refine va_newq (N' := 4) hx hb hown (hts _ (hx_cons _ k_68)) hAO hK hP hD hS hA (by decide) (by decide) (by decide) (Nat.le_of_ble_eq_true rfl) (Nat.le_of_ble_eq_true rfl) d_X_init_6 (fun q1 cA H hK9 hP hD hS => ?_)
  rw [hx_same0 hK hK9] at hP hD
  clear hK9
  have hP : va_P D vwCl [(h0, .inr (0, [.null, .null, .null, .null, .null, .null, .int 0, .int 0, .int 0])), (q1, .inl (T3.1, 4, .inr (.inr (.inr (.inr (fun _ => none))))))] H := hP
  have hD : va_D A [(h0, .inr (0, [.null, .null, .null, .null, .null, .null, .int 0, .int 0, .int 0])), (q1, .inl (T3.1, 4, .inr (.inr (.inr (.inr (fun _ => none))))))] := hD
  refine W.widen (k := 1) (n := 4) (Nat.le_refl _) (Nat.le_refl _) ?_
  refine lv_dup hx hb d_X_init_9 rfl ?_
  refine lv_iconst (v := 0) hx hb d_X_init_10 (by decide) ?_
  refine va_new (ci := 1) (fs := [.int 0, .int 0, .int 0, .int 0, .int 0, .int 0, .int 0, .int 0]) (C := "HalfFloats$Format") (T := T_F) (N := 8) hx hb hts (hx_up in_F) ty_F tyok_F hown (hts _ (hx_cons _ k_68)) (hts _ (hx_cons _ k_70)) (hts _ (hx_cons _ k_51)) hK hP hD hS hA rfl (fun j hj => by rcases (show j = 0 ∨ j = 1 ∨ j = 2 ∨ j = 3 ∨ j = 4 ∨ j = 5 ∨ j = 6 ∨ j = 7 by omega) with rfl | rfl | rfl | rfl | rfl | rfl | rfl | rfl <;> rfl) (Nat.le_of_ble_eq_true rfl) (Nat.le_of_ble_eq_true rfl) d_X_init_11 (fun q2 H hP hD hS => ?_)
  have hP : va_P D vwCl [(h0, .inr (0, [.null, .null, .null, .null, .null, .null, .int 0, .int 0, .int 0])), (q1, .inl (T3.1, 4, .inr (.inr (.inr (.inr (fun _ => none)))))), (q2, .inr (1, [.int 0, .int 0, .int 0, .int 0, .int 0, .int 0, .int 0, .int 0]))] H := hP
  have hD : va_D A [(h0, .inr (0, [.null, .null, .null, .null, .null, .null, .int 0, .int 0, .int 0])), (q1, .inl (T3.1, 4, .inr (.inr (.inr (.inr (fun _ => none)))))), (q2, .inr (1, [.int 0, .int 0, .int 0, .int 0, .int 0, .int 0, .int 0, .int 0]))] := hD
  refine W.widen (k := 2) (n := 12) (Nat.le_refl _) (Nat.le_refl _) ?_
  refine lv_dup hx hb d_X_init_14 rfl ?_
  refine lv_iconst (v := 5) hx hb d_X_init_15 (by decide) ?_
  refine lv_bipush (v := 10) hx hb d_X_init_16 (by decide) ?_
  refine lv_iconst (v := 0) hx hb d_X_init_18 (by decide) ?_
  have hPc := hP.sub (ws' := [(q2, .inr (1, [.int 0, .int 0, .int 0, .int 0, .int 0, .int 0, .int 0, .int 0]))]) [2] rfl
  have hDc := hD.sub (ws' := [(q2, .inr (1, [.int 0, .int 0, .int 0, .int 0, .int 0, .int 0, .int 0, .int 0]))]) [2] (by decide) rfl
  have hFc := va_free (wc := [(q2, .inr (1, [.int 0, .int 0, .int 0, .int 0, .int 0, .int 0, .int 0, .int 0]))]) hD hS hA [2] rfl
  refine va_callv (va_runI (As := [.int (5), .int (10), .int (0)]) (rest := [.ref q2, .int (0), .ref q1, .ref q1, .ref h0]) ⟨hx, hb, hml, hown, hts⟩ (c_F_init l D T3 q2 _ (0, 0, 0, 0, 0, 0, 0, 0) 5 10 0 (5, 10, 0, 15, 31744, 32256, (-14), (-24)) (hx_fmOf (by decide +kernel))) (cwI 3 hts (hx_gI hx_cons k_73) rfl rfl rfl (hts _ (hx_cons _ k_51)) (hts _ (hx_cons _ k_71)) (hts _ (hx_cons _ k_72)) rfl (by decide +kernel) ⟨Nat.le_of_ble_eq_true rfl, Nat.le_of_ble_eq_true rfl⟩) ⟨hx_bW, fun U hU hW => ⟨rfl, by rw [hU], by rw [hU]; exact hPc, va_K.moved hW.alike hK, hDc.weaken (fun _ _ _ _ => trivial)⟩⟩ rfl rfl hl.1 rfl (lv_room (Nat.le_of_ble_eq_true rfl)) d_X_init_19 ⟨(Nat.le_of_ble_eq_true rfl), (Nat.le_of_ble_eq_true rfl)⟩) hS (fun q _ h => hFc q h) hFc (fun u3 t H1 locs ht hvm hw hB hz1 hk1 hS => ?_)
  obtain ⟨hP1, hK1, hD1⟩ := hB
  rw [ht] at hP1
  obtain ⟨hP, hD⟩ := va_join (wr := [(h0, .inr (0, [.null, .null, .null, .null, .null, .null, .int 0, .int 0, .int 0])), (q1, .inl (T3.1, 4, .inr (.inr (.inr (.inr (fun _ => none))))))]) (w1 := [(q2, .inr (1, hx_fmL (5, 10, 0, 15, 31744, 32256, (-14), (-24))))]) hP hD [2] [0, 1] rfl rfl (by decide) (by decide) hk1 hFc hP1 hD1
  generalize H1 = H at hP hS ⊢
  clear hk1 hz1 hPc hDc hFc hP1 hK1 hD1 hvm ht
  have hP : va_P D vwCl [(h0, .inr (0, [.null, .null, .null, .null, .null, .null, .int 0, .int 0, .int 0])), (q1, .inl (T3.1, 4, .inr (.inr (.inr (.inr (fun _ => none)))))), (q2, .inr (1, hx_fmL (5, 10, 0, 15, 31744, 32256, (-14), (-24))))] H := hP
  have hD : va_D A [(h0, .inr (0, [.null, .null, .null, .null, .null, .null, .int 0, .int 0, .int 0])), (q1, .inl (T3.1, 4, .inr (.inr (.inr (.inr (fun _ => none)))))), (q2, .inr (1, hx_fmL (5, 10, 0, 15, 31744, 32256, (-14), (-24))))] := hD
  refine W.widen (k := 2) (n := 12) (Nat.le_refl _) (Nat.le_refl _) ?_
  refine va_astq hx hb hK hP hD hS 1 0 2 1 rfl rfl rfl rfl (by unfold vp_in; decide) d_X_init_22 (fun H locs hP hD hS => ?_)
  have hP : va_P D vwCl [(h0, .inr (0, [.null, .null, .null, .null, .null, .null, .int 0, .int 0, .int 0])), (q1, .inl (T3.1, 4, .inr (.inr (.inr (.inr (va_up (fun _ => none) 0 (some q2))))))), (q2, .inr (1, hx_fmL (5, 10, 0, 15, 31744, 32256, (-14), (-24))))] H := hP
  have hD : va_D A [(h0, .inr (0, [.null, .null, .null, .null, .null, .null, .int 0, .int 0, .int 0])), (q1, .inl (T3.1, 4, .inr (.inr (.inr (.inr (va_up (fun _ => none) 0 (some q2))))))), (q2, .inr (1, hx_fmL (5, 10, 0, 15, 31744, 32256, (-14), (-24))))] := hD
  refine lv_dup hx hb d_X_init_23 rfl ?_
  refine lv_iconst (v := 1) hx hb d_X_init_24 (by decide) ?_
  refine va_new (ci := 1) (fs := [.int 0, .int 0, .int 0, .int 0, .int 0, .int 0, .int 0, .int 0]) (C := "HalfFloats$Format") (T := T_F) (N := 8) hx hb hts (hx_up in_F) ty_F tyok_F hown (hts _ (hx_cons _ k_68)) (hts _ (hx_cons _ k_70)) (hts _ (hx_cons _ k_51)) hK hP hD hS hA rfl (fun j hj => by rcases (show j = 0 ∨ j = 1 ∨ j = 2 ∨ j = 3 ∨ j = 4 ∨ j = 5 ∨ j = 6 ∨ j = 7 by omega) with rfl | rfl | rfl | rfl | rfl | rfl | rfl | rfl <;> rfl) (Nat.le_of_ble_eq_true rfl) (Nat.le_of_ble_eq_true rfl) d_X_init_25 (fun q4 H hP hD hS => ?_)
  have hP : va_P D vwCl [(h0, .inr (0, [.null, .null, .null, .null, .null, .null, .int 0, .int 0, .int 0])), (q1, .inl (T3.1, 4, .inr (.inr (.inr (.inr (va_up (fun _ => none) 0 (some q2))))))), (q2, .inr (1, hx_fmL (5, 10, 0, 15, 31744, 32256, (-14), (-24)))), (q4, .inr (1, [.int 0, .int 0, .int 0, .int 0, .int 0, .int 0, .int 0, .int 0]))] H := hP
  have hD : va_D A [(h0, .inr (0, [.null, .null, .null, .null, .null, .null, .int 0, .int 0, .int 0])), (q1, .inl (T3.1, 4, .inr (.inr (.inr (.inr (va_up (fun _ => none) 0 (some q2))))))), (q2, .inr (1, hx_fmL (5, 10, 0, 15, 31744, 32256, (-14), (-24)))), (q4, .inr (1, [.int 0, .int 0, .int 0, .int 0, .int 0, .int 0, .int 0, .int 0]))] := hD
  refine W.widen (k := 3) (n := 20) (Nat.le_refl _) (Nat.le_refl _) ?_
  refine lv_dup hx hb d_X_init_28 rfl ?_
  refine lv_bipush (v := 8) hx hb d_X_init_29 (by decide) ?_
  refine lv_bipush (v := 7) hx hb d_X_init_31 (by decide) ?_
  refine lv_iconst (v := 0) hx hb d_X_init_33 (by decide) ?_
  have hPc := hP.sub (ws' := [(q4, .inr (1, [.int 0, .int 0, .int 0, .int 0, .int 0, .int 0, .int 0, .int 0]))]) [3] rfl
  have hDc := hD.sub (ws' := [(q4, .inr (1, [.int 0, .int 0, .int 0, .int 0, .int 0, .int 0, .int 0, .int 0]))]) [3] (by decide) rfl
  have hFc := va_free (wc := [(q4, .inr (1, [.int 0, .int 0, .int 0, .int 0, .int 0, .int 0, .int 0, .int 0]))]) hD hS hA [3] rfl
  refine va_callv (va_runI (As := [.int (8), .int (7), .int (0)]) (rest := [.ref q4, .int (1), .ref q1, .ref q1, .ref h0]) ⟨hx, hb, hml, hown, hts⟩ (c_F_init l D T3 q4 _ (0, 0, 0, 0, 0, 0, 0, 0) 8 7 0 (8, 7, 0, 15, 32640, 32704, (-126), (-133)) (hx_fmOf (by decide +kernel))) (cwI 3 hts (hx_gI hx_cons k_73) rfl rfl rfl (hts _ (hx_cons _ k_51)) (hts _ (hx_cons _ k_71)) (hts _ (hx_cons _ k_72)) rfl (by decide +kernel) ⟨Nat.le_of_ble_eq_true rfl, Nat.le_of_ble_eq_true rfl⟩) ⟨hx_bW, fun U hU hW => ⟨rfl, by rw [hU], by rw [hU]; exact hPc, va_K.moved hW.alike hK, hDc.weaken (fun _ _ _ _ => trivial)⟩⟩ rfl rfl hl.1 rfl (lv_room (Nat.le_of_ble_eq_true rfl)) d_X_init_34 ⟨(Nat.le_of_ble_eq_true rfl), (Nat.le_of_ble_eq_true rfl)⟩) hS (fun q _ h => hFc q h) hFc (fun u5 t H1 locs ht hvm hw hB hz1 hk1 hS => ?_)
  obtain ⟨hP1, hK1, hD1⟩ := hB
  rw [ht] at hP1
  obtain ⟨hP, hD⟩ := va_join (wr := [(h0, .inr (0, [.null, .null, .null, .null, .null, .null, .int 0, .int 0, .int 0])), (q1, .inl (T3.1, 4, .inr (.inr (.inr (.inr (va_up (fun _ => none) 0 (some q2))))))), (q2, .inr (1, hx_fmL (5, 10, 0, 15, 31744, 32256, (-14), (-24))))]) (w1 := [(q4, .inr (1, hx_fmL (8, 7, 0, 15, 32640, 32704, (-126), (-133))))]) hP hD [3] [0, 1, 2] rfl rfl (by decide) (by decide) hk1 hFc hP1 hD1
  generalize H1 = H at hP hS ⊢
  clear hk1 hz1 hPc hDc hFc hP1 hK1 hD1 hvm ht
  have hP : va_P D vwCl [(h0, .inr (0, [.null, .null, .null, .null, .null, .null, .int 0, .int 0, .int 0])), (q1, .inl (T3.1, 4, .inr (.inr (.inr (.inr (va_up (fun _ => none) 0 (some q2))))))), (q2, .inr (1, hx_fmL (5, 10, 0, 15, 31744, 32256, (-14), (-24)))), (q4, .inr (1, hx_fmL (8, 7, 0, 15, 32640, 32704, (-126), (-133))))] H := hP
  have hD : va_D A [(h0, .inr (0, [.null, .null, .null, .null, .null, .null, .int 0, .int 0, .int 0])), (q1, .inl (T3.1, 4, .inr (.inr (.inr (.inr (va_up (fun _ => none) 0 (some q2))))))), (q2, .inr (1, hx_fmL (5, 10, 0, 15, 31744, 32256, (-14), (-24)))), (q4, .inr (1, hx_fmL (8, 7, 0, 15, 32640, 32704, (-126), (-133))))] := hD
  refine W.widen (k := 3) (n := 20) (Nat.le_refl _) (Nat.le_refl _) ?_
  refine va_astq hx hb hK hP hD hS 1 0 3 1 rfl rfl rfl rfl (by unfold vp_in; decide) d_X_init_37 (fun H locs hP hD hS => ?_)
  have hP : va_P D vwCl [(h0, .inr (0, [.null, .null, .null, .null, .null, .null, .int 0, .int 0, .int 0])), (q1, .inl (T3.1, 4, .inr (.inr (.inr (.inr (va_up (va_up (fun _ => none) 0 (some q2)) 1 (some q4))))))), (q2, .inr (1, hx_fmL (5, 10, 0, 15, 31744, 32256, (-14), (-24)))), (q4, .inr (1, hx_fmL (8, 7, 0, 15, 32640, 32704, (-126), (-133))))] H := hP
  have hD : va_D A [(h0, .inr (0, [.null, .null, .null, .null, .null, .null, .int 0, .int 0, .int 0])), (q1, .inl (T3.1, 4, .inr (.inr (.inr (.inr (va_up (va_up (fun _ => none) 0 (some q2)) 1 (some q4))))))), (q2, .inr (1, hx_fmL (5, 10, 0, 15, 31744, 32256, (-14), (-24)))), (q4, .inr (1, hx_fmL (8, 7, 0, 15, 32640, 32704, (-126), (-133))))] := hD
  refine lv_dup hx hb d_X_init_38 rfl ?_
  refine lv_iconst (v := 2) hx hb d_X_init_39 (by decide) ?_
  refine va_new (ci := 1) (fs := [.int 0, .int 0, .int 0, .int 0, .int 0, .int 0, .int 0, .int 0]) (C := "HalfFloats$Format") (T := T_F) (N := 8) hx hb hts (hx_up in_F) ty_F tyok_F hown (hts _ (hx_cons _ k_68)) (hts _ (hx_cons _ k_70)) (hts _ (hx_cons _ k_51)) hK hP hD hS hA rfl (fun j hj => by rcases (show j = 0 ∨ j = 1 ∨ j = 2 ∨ j = 3 ∨ j = 4 ∨ j = 5 ∨ j = 6 ∨ j = 7 by omega) with rfl | rfl | rfl | rfl | rfl | rfl | rfl | rfl <;> rfl) (Nat.le_of_ble_eq_true rfl) (Nat.le_of_ble_eq_true rfl) d_X_init_40 (fun q6 H hP hD hS => ?_)
  have hP : va_P D vwCl [(h0, .inr (0, [.null, .null, .null, .null, .null, .null, .int 0, .int 0, .int 0])), (q1, .inl (T3.1, 4, .inr (.inr (.inr (.inr (va_up (va_up (fun _ => none) 0 (some q2)) 1 (some q4))))))), (q2, .inr (1, hx_fmL (5, 10, 0, 15, 31744, 32256, (-14), (-24)))), (q4, .inr (1, hx_fmL (8, 7, 0, 15, 32640, 32704, (-126), (-133)))), (q6, .inr (1, [.int 0, .int 0, .int 0, .int 0, .int 0, .int 0, .int 0, .int 0]))] H := hP
  have hD : va_D A [(h0, .inr (0, [.null, .null, .null, .null, .null, .null, .int 0, .int 0, .int 0])), (q1, .inl (T3.1, 4, .inr (.inr (.inr (.inr (va_up (va_up (fun _ => none) 0 (some q2)) 1 (some q4))))))), (q2, .inr (1, hx_fmL (5, 10, 0, 15, 31744, 32256, (-14), (-24)))), (q4, .inr (1, hx_fmL (8, 7, 0, 15, 32640, 32704, (-126), (-133)))), (q6, .inr (1, [.int 0, .int 0, .int 0, .int 0, .int 0, .int 0, .int 0, .int 0]))] := hD
  refine W.widen (k := 4) (n := 28) (Nat.le_refl _) (Nat.le_refl _) ?_
  refine lv_dup hx hb d_X_init_43 rfl ?_
  refine lv_bipush (v := 8) hx hb d_X_init_44 (by decide) ?_
  refine lv_bipush (v := 23) hx hb d_X_init_46 (by decide) ?_
  refine lv_iconst (v := 0) hx hb d_X_init_48 (by decide) ?_
  have hPc := hP.sub (ws' := [(q6, .inr (1, [.int 0, .int 0, .int 0, .int 0, .int 0, .int 0, .int 0, .int 0]))]) [4] rfl
  have hDc := hD.sub (ws' := [(q6, .inr (1, [.int 0, .int 0, .int 0, .int 0, .int 0, .int 0, .int 0, .int 0]))]) [4] (by decide) rfl
  have hFc := va_free (wc := [(q6, .inr (1, [.int 0, .int 0, .int 0, .int 0, .int 0, .int 0, .int 0, .int 0]))]) hD hS hA [4] rfl
  refine va_callv (va_runI (As := [.int (8), .int (23), .int (0)]) (rest := [.ref q6, .int (2), .ref q1, .ref q1, .ref h0]) ⟨hx, hb, hml, hown, hts⟩ (c_F_init l D T3 q6 _ (0, 0, 0, 0, 0, 0, 0, 0) 8 23 0 (8, 23, 0, 31, 2139095040, 2143289344, (-126), (-149)) (hx_fmOf (by decide +kernel))) (cwI 3 hts (hx_gI hx_cons k_73) rfl rfl rfl (hts _ (hx_cons _ k_51)) (hts _ (hx_cons _ k_71)) (hts _ (hx_cons _ k_72)) rfl (by decide +kernel) ⟨Nat.le_of_ble_eq_true rfl, Nat.le_of_ble_eq_true rfl⟩) ⟨hx_bW, fun U hU hW => ⟨rfl, by rw [hU], by rw [hU]; exact hPc, va_K.moved hW.alike hK, hDc.weaken (fun _ _ _ _ => trivial)⟩⟩ rfl rfl hl.1 rfl (lv_room (Nat.le_of_ble_eq_true rfl)) d_X_init_49 ⟨(Nat.le_of_ble_eq_true rfl), (Nat.le_of_ble_eq_true rfl)⟩) hS (fun q _ h => hFc q h) hFc (fun u7 t H1 locs ht hvm hw hB hz1 hk1 hS => ?_)
  obtain ⟨hP1, hK1, hD1⟩ := hB
  rw [ht] at hP1
  obtain ⟨hP, hD⟩ := va_join (wr := [(h0, .inr (0, [.null, .null, .null, .null, .null, .null, .int 0, .int 0, .int 0])), (q1, .inl (T3.1, 4, .inr (.inr (.inr (.inr (va_up (va_up (fun _ => none) 0 (some q2)) 1 (some q4))))))), (q2, .inr (1, hx_fmL (5, 10, 0, 15, 31744, 32256, (-14), (-24)))), (q4, .inr (1, hx_fmL (8, 7, 0, 15, 32640, 32704, (-126), (-133))))]) (w1 := [(q6, .inr (1, hx_fmL (8, 23, 0, 31, 2139095040, 2143289344, (-126), (-149))))]) hP hD [4] [0, 1, 2, 3] rfl rfl (by decide) (by decide) hk1 hFc hP1 hD1
  generalize H1 = H at hP hS ⊢
  clear hk1 hz1 hPc hDc hFc hP1 hK1 hD1 hvm ht
  have hP : va_P D vwCl [(h0, .inr (0, [.null, .null, .null, .null, .null, .null, .int 0, .int 0, .int 0])), (q1, .inl (T3.1, 4, .inr (.inr (.inr (.inr (va_up (va_up (fun _ => none) 0 (some q2)) 1 (some q4))))))), (q2, .inr (1, hx_fmL (5, 10, 0, 15, 31744, 32256, (-14), (-24)))), (q4, .inr (1, hx_fmL (8, 7, 0, 15, 32640, 32704, (-126), (-133)))), (q6, .inr (1, hx_fmL (8, 23, 0, 31, 2139095040, 2143289344, (-126), (-149))))] H := hP
  have hD : va_D A [(h0, .inr (0, [.null, .null, .null, .null, .null, .null, .int 0, .int 0, .int 0])), (q1, .inl (T3.1, 4, .inr (.inr (.inr (.inr (va_up (va_up (fun _ => none) 0 (some q2)) 1 (some q4))))))), (q2, .inr (1, hx_fmL (5, 10, 0, 15, 31744, 32256, (-14), (-24)))), (q4, .inr (1, hx_fmL (8, 7, 0, 15, 32640, 32704, (-126), (-133)))), (q6, .inr (1, hx_fmL (8, 23, 0, 31, 2139095040, 2143289344, (-126), (-149))))] := hD
  refine W.widen (k := 4) (n := 28) (Nat.le_refl _) (Nat.le_refl _) ?_
  refine va_astq hx hb hK hP hD hS 1 0 4 1 rfl rfl rfl rfl (by unfold vp_in; decide) d_X_init_52 (fun H locs hP hD hS => ?_)
  have hP : va_P D vwCl [(h0, .inr (0, [.null, .null, .null, .null, .null, .null, .int 0, .int 0, .int 0])), (q1, .inl (T3.1, 4, .inr (.inr (.inr (.inr (va_up (va_up (va_up (fun _ => none) 0 (some q2)) 1 (some q4)) 2 (some q6))))))), (q2, .inr (1, hx_fmL (5, 10, 0, 15, 31744, 32256, (-14), (-24)))), (q4, .inr (1, hx_fmL (8, 7, 0, 15, 32640, 32704, (-126), (-133)))), (q6, .inr (1, hx_fmL (8, 23, 0, 31, 2139095040, 2143289344, (-126), (-149))))] H := hP
  have hD : va_D A [(h0, .inr (0, [.null, .null, .null, .null, .null, .null, .int 0, .int 0, .int 0])), (q1, .inl (T3.1, 4, .inr (.inr (.inr (.inr (va_up (va_up (va_up (fun _ => none) 0 (some q2)) 1 (some q4)) 2 (some q6))))))), (q2, .inr (1, hx_fmL (5, 10, 0, 15, 31744, 32256, (-14), (-24)))), (q4, .inr (1, hx_fmL (8, 7, 0, 15, 32640, 32704, (-126), (-133)))), (q6, .inr (1, hx_fmL (8, 23, 0, 31, 2139095040, 2143289344, (-126), (-149))))] := hD
  refine lv_dup hx hb d_X_init_53 rfl ?_
  refine lv_iconst (v := 3) hx hb d_X_init_54 (by decide) ?_
  refine va_new (ci := 1) (fs := [.int 0, .int 0, .int 0, .int 0, .int 0, .int 0, .int 0, .int 0]) (C := "HalfFloats$Format") (T := T_F) (N := 8) hx hb hts (hx_up in_F) ty_F tyok_F hown (hts _ (hx_cons _ k_68)) (hts _ (hx_cons _ k_70)) (hts _ (hx_cons _ k_51)) hK hP hD hS hA rfl (fun j hj => by rcases (show j = 0 ∨ j = 1 ∨ j = 2 ∨ j = 3 ∨ j = 4 ∨ j = 5 ∨ j = 6 ∨ j = 7 by omega) with rfl | rfl | rfl | rfl | rfl | rfl | rfl | rfl <;> rfl) (Nat.le_of_ble_eq_true rfl) (Nat.le_of_ble_eq_true rfl) d_X_init_55 (fun q8 H hP hD hS => ?_)
  have hP : va_P D vwCl [(h0, .inr (0, [.null, .null, .null, .null, .null, .null, .int 0, .int 0, .int 0])), (q1, .inl (T3.1, 4, .inr (.inr (.inr (.inr (va_up (va_up (va_up (fun _ => none) 0 (some q2)) 1 (some q4)) 2 (some q6))))))), (q2, .inr (1, hx_fmL (5, 10, 0, 15, 31744, 32256, (-14), (-24)))), (q4, .inr (1, hx_fmL (8, 7, 0, 15, 32640, 32704, (-126), (-133)))), (q6, .inr (1, hx_fmL (8, 23, 0, 31, 2139095040, 2143289344, (-126), (-149)))), (q8, .inr (1, [.int 0, .int 0, .int 0, .int 0, .int 0, .int 0, .int 0, .int 0]))] H := hP
  have hD : va_D A [(h0, .inr (0, [.null, .null, .null, .null, .null, .null, .int 0, .int 0, .int 0])), (q1, .inl (T3.1, 4, .inr (.inr (.inr (.inr (va_up (va_up (va_up (fun _ => none) 0 (some q2)) 1 (some q4)) 2 (some q6))))))), (q2, .inr (1, hx_fmL (5, 10, 0, 15, 31744, 32256, (-14), (-24)))), (q4, .inr (1, hx_fmL (8, 7, 0, 15, 32640, 32704, (-126), (-133)))), (q6, .inr (1, hx_fmL (8, 23, 0, 31, 2139095040, 2143289344, (-126), (-149)))), (q8, .inr (1, [.int 0, .int 0, .int 0, .int 0, .int 0, .int 0, .int 0, .int 0]))] := hD
  refine W.widen (k := 5) (n := 36) (Nat.le_refl _) (Nat.le_refl _) ?_
  refine lv_dup hx hb d_X_init_58 rfl ?_
  refine lv_iconst (v := 4) hx hb d_X_init_59 (by decide) ?_
  refine lv_iconst (v := 3) hx hb d_X_init_60 (by decide) ?_
  refine lv_iconst (v := 1) hx hb d_X_init_61 (by decide) ?_
  have hPc := hP.sub (ws' := [(q8, .inr (1, [.int 0, .int 0, .int 0, .int 0, .int 0, .int 0, .int 0, .int 0]))]) [5] rfl
  have hDc := hD.sub (ws' := [(q8, .inr (1, [.int 0, .int 0, .int 0, .int 0, .int 0, .int 0, .int 0, .int 0]))]) [5] (by decide) rfl
  have hFc := va_free (wc := [(q8, .inr (1, [.int 0, .int 0, .int 0, .int 0, .int 0, .int 0, .int 0, .int 0]))]) hD hS hA [5] rfl
  refine va_callv (va_runI (As := [.int (4), .int (3), .int (1)]) (rest := [.ref q8, .int (3), .ref q1, .ref q1, .ref h0]) ⟨hx, hb, hml, hown, hts⟩ (c_F_init l D T3 q8 _ (0, 0, 0, 0, 0, 0, 0, 0) 4 3 1 (4, 3, 1, 7, 127, 127, (-6), (-9)) (hx_fmOf (by decide +kernel))) (cwI 3 hts (hx_gI hx_cons k_73) rfl rfl rfl (hts _ (hx_cons _ k_51)) (hts _ (hx_cons _ k_71)) (hts _ (hx_cons _ k_72)) rfl (by decide +kernel) ⟨Nat.le_of_ble_eq_true rfl, Nat.le_of_ble_eq_true rfl⟩) ⟨hx_bW, fun U hU hW => ⟨rfl, by rw [hU], by rw [hU]; exact hPc, va_K.moved hW.alike hK, hDc.weaken (fun _ _ _ _ => trivial)⟩⟩ rfl rfl hl.1 rfl (lv_room (Nat.le_of_ble_eq_true rfl)) d_X_init_62 ⟨(Nat.le_of_ble_eq_true rfl), (Nat.le_of_ble_eq_true rfl)⟩) hS (fun q _ h => hFc q h) hFc (fun u9 t H1 locs ht hvm hw hB hz1 hk1 hS => ?_)
  obtain ⟨hP1, hK1, hD1⟩ := hB
  rw [ht] at hP1
  obtain ⟨hP, hD⟩ := va_join (wr := [(h0, .inr (0, [.null, .null, .null, .null, .null, .null, .int 0, .int 0, .int 0])), (q1, .inl (T3.1, 4, .inr (.inr (.inr (.inr (va_up (va_up (va_up (fun _ => none) 0 (some q2)) 1 (some q4)) 2 (some q6))))))), (q2, .inr (1, hx_fmL (5, 10, 0, 15, 31744, 32256, (-14), (-24)))), (q4, .inr (1, hx_fmL (8, 7, 0, 15, 32640, 32704, (-126), (-133)))), (q6, .inr (1, hx_fmL (8, 23, 0, 31, 2139095040, 2143289344, (-126), (-149))))]) (w1 := [(q8, .inr (1, hx_fmL (4, 3, 1, 7, 127, 127, (-6), (-9))))]) hP hD [5] [0, 1, 2, 3, 4] rfl rfl (by decide) (by decide) hk1 hFc hP1 hD1
  generalize H1 = H at hP hS ⊢
  clear hk1 hz1 hPc hDc hFc hP1 hK1 hD1 hvm ht
  have hP : va_P D vwCl [(h0, .inr (0, [.null, .null, .null, .null, .null, .null, .int 0, .int 0, .int 0])), (q1, .inl (T3.1, 4, .inr (.inr (.inr (.inr (va_up (va_up (va_up (fun _ => none) 0 (some q2)) 1 (some q4)) 2 (some q6))))))), (q2, .inr (1, hx_fmL (5, 10, 0, 15, 31744, 32256, (-14), (-24)))), (q4, .inr (1, hx_fmL (8, 7, 0, 15, 32640, 32704, (-126), (-133)))), (q6, .inr (1, hx_fmL (8, 23, 0, 31, 2139095040, 2143289344, (-126), (-149)))), (q8, .inr (1, hx_fmL (4, 3, 1, 7, 127, 127, (-6), (-9))))] H := hP
  have hD : va_D A [(h0, .inr (0, [.null, .null, .null, .null, .null, .null, .int 0, .int 0, .int 0])), (q1, .inl (T3.1, 4, .inr (.inr (.inr (.inr (va_up (va_up (va_up (fun _ => none) 0 (some q2)) 1 (some q4)) 2 (some q6))))))), (q2, .inr (1, hx_fmL (5, 10, 0, 15, 31744, 32256, (-14), (-24)))), (q4, .inr (1, hx_fmL (8, 7, 0, 15, 32640, 32704, (-126), (-133)))), (q6, .inr (1, hx_fmL (8, 23, 0, 31, 2139095040, 2143289344, (-126), (-149)))), (q8, .inr (1, hx_fmL (4, 3, 1, 7, 127, 127, (-6), (-9))))] := hD
  refine W.widen (k := 5) (n := 36) (Nat.le_refl _) (Nat.le_refl _) ?_
  refine va_astq hx hb hK hP hD hS 1 0 5 1 rfl rfl rfl rfl (by unfold vp_in; decide) d_X_init_65 (fun H locs hP hD hS => ?_)
  have hP : va_P D vwCl [(h0, .inr (0, [.null, .null, .null, .null, .null, .null, .int 0, .int 0, .int 0])), (q1, .inl (T3.1, 4, .inr (.inr (.inr (.inr (va_up (va_up (va_up (va_up (fun _ => none) 0 (some q2)) 1 (some q4)) 2 (some q6)) 3 (some q8))))))), (q2, .inr (1, hx_fmL (5, 10, 0, 15, 31744, 32256, (-14), (-24)))), (q4, .inr (1, hx_fmL (8, 7, 0, 15, 32640, 32704, (-126), (-133)))), (q6, .inr (1, hx_fmL (8, 23, 0, 31, 2139095040, 2143289344, (-126), (-149)))), (q8, .inr (1, hx_fmL (4, 3, 1, 7, 127, 127, (-6), (-9))))] H := hP
  have hD : va_D A [(h0, .inr (0, [.null, .null, .null, .null, .null, .null, .int 0, .int 0, .int 0])), (q1, .inl (T3.1, 4, .inr (.inr (.inr (.inr (va_up (va_up (va_up (va_up (fun _ => none) 0 (some q2)) 1 (some q4)) 2 (some q6)) 3 (some q8))))))), (q2, .inr (1, hx_fmL (5, 10, 0, 15, 31744, 32256, (-14), (-24)))), (q4, .inr (1, hx_fmL (8, 7, 0, 15, 32640, 32704, (-126), (-133)))), (q6, .inr (1, hx_fmL (8, 23, 0, 31, 2139095040, 2143289344, (-126), (-149)))), (q8, .inr (1, hx_fmL (4, 3, 1, 7, 127, 127, (-6), (-9))))] := hD
  refine va_putF (D := D) (ci := 0) (v := .ref q1) (ty := .array (.object "HalfFloats$Format")) (C := "HalfFloats") (T := T_X) (N := 9) hx hb hts (hx_up in_X) ty_X tyok_X nm_X hown hK hP hD hS 0 rfl rfl 0 (by decide) (hts _ (hx_cons _ k_204)) (fun _ h9 => h9) rfl hin rfl (by decide +kernel) rfl rfl (Nat.le_of_ble_eq_true rfl) d_X_init_66 (fun H locs hP hD hS => ?_)
  have hP : va_P D vwCl [(h0, .inr (0, [.ref q1, .null, .null, .null, .null, .null, .int 0, .int 0, .int 0])), (q1, .inl (T3.1, 4, .inr (.inr (.inr (.inr (va_up (va_up (va_up (va_up (fun _ => none) 0 (some q2)) 1 (some q4)) 2 (some q6)) 3 (some q8))))))), (q2, .inr (1, hx_fmL (5, 10, 0, 15, 31744, 32256, (-14), (-24)))), (q4, .inr (1, hx_fmL (8, 7, 0, 15, 32640, 32704, (-126), (-133)))), (q6, .inr (1, hx_fmL (8, 23, 0, 31, 2139095040, 2143289344, (-126), (-149)))), (q8, .inr (1, hx_fmL (4, 3, 1, 7, 127, 127, (-6), (-9))))] H := hP
  have hD : va_D A [(h0, .inr (0, [.ref q1, .null, .null, .null, .null, .null, .int 0, .int 0, .int 0])), (q1, .inl (T3.1, 4, .inr (.inr (.inr (.inr (va_up (va_up (va_up (va_up (fun _ => none) 0 (some q2)) 1 (some q4)) 2 (some q6)) 3 (some q8))))))), (q2, .inr (1, hx_fmL (5, 10, 0, 15, 31744, 32256, (-14), (-24)))), (q4, .inr (1, hx_fmL (8, 7, 0, 15, 32640, 32704, (-126), (-133)))), (q6, .inr (1, hx_fmL (8, 23, 0, 31, 2139095040, 2143289344, (-126), (-149)))), (q8, .inr (1, hx_fmL (4, 3, 1, 7, 127, 127, (-6), (-9))))] := hD
  refine lv_aload_n hx hb d_X_init_69 rfl (lv_at hl 0 rfl) ?_
  refine va_new (ci := 2) (fs := [.null, .int 0, .int 0]) (C := "HalfFloats$Row") (T := T_R) (N := 3) hx hb hts (hx_up in_R) ty_R tyok_R hown (hts _ (hx_cons _ k_116)) (hts _ (hx_cons _ k_117)) (hts _ (hx_cons _ k_52)) hK hP hD hS hA rfl (fun j hj => by rcases (show j = 0 ∨ j = 1 ∨ j = 2 by omega) with rfl | rfl | rfl <;> rfl) (Nat.le_of_ble_eq_true rfl) (Nat.le_of_ble_eq_true rfl) d_X_init_70 (fun q10 H hP hD hS => ?_)
  have hP : va_P D vwCl [(h0, .inr (0, [.ref q1, .null, .null, .null, .null, .null, .int 0, .int 0, .int 0])), (q1, .inl (T3.1, 4, .inr (.inr (.inr (.inr (va_up (va_up (va_up (va_up (fun _ => none) 0 (some q2)) 1 (some q4)) 2 (some q6)) 3 (some q8))))))), (q2, .inr (1, hx_fmL (5, 10, 0, 15, 31744, 32256, (-14), (-24)))), (q4, .inr (1, hx_fmL (8, 7, 0, 15, 32640, 32704, (-126), (-133)))), (q6, .inr (1, hx_fmL (8, 23, 0, 31, 2139095040, 2143289344, (-126), (-149)))), (q8, .inr (1, hx_fmL (4, 3, 1, 7, 127, 127, (-6), (-9)))), (q10, .inr (2, [.null, .int 0, .int 0]))] H := hP
  have hD : va_D A [(h0, .inr (0, [.ref q1, .null, .null, .null, .null, .null, .int 0, .int 0, .int 0])), (q1, .inl (T3.1, 4, .inr (.inr (.inr (.inr (va_up (va_up (va_up (va_up (fun _ => none) 0 (some q2)) 1 (some q4)) 2 (some q6)) 3 (some q8))))))), (q2, .inr (1, hx_fmL (5, 10, 0, 15, 31744, 32256, (-14), (-24)))), (q4, .inr (1, hx_fmL (8, 7, 0, 15, 32640, 32704, (-126), (-133)))), (q6, .inr (1, hx_fmL (8, 23, 0, 31, 2139095040, 2143289344, (-126), (-149)))), (q8, .inr (1, hx_fmL (4, 3, 1, 7, 127, 127, (-6), (-9)))), (q10, .inr (2, [.null, .int 0, .int 0]))] := hD
  refine W.widen (k := 6) (n := 39) (Nat.le_refl _) (Nat.le_refl _) ?_
  refine lv_dup hx hb d_X_init_73 rfl ?_
  refine lv_iconst (v := 0) hx hb d_X_init_74 (by decide) ?_
  have hPc := hP.sub (ws' := [(q10, .inr (2, [.null, .int 0, .int 0]))]) [6] rfl
  have hDc := hD.sub (ws' := [(q10, .inr (2, [.null, .int 0, .int 0]))]) [6] (by decide) rfl
  have hFc := va_free (wc := [(q10, .inr (2, [.null, .int 0, .int 0]))]) hD hS hA [6] rfl
  refine va_callv (va_runI (As := [.int (0)]) (rest := [.ref q10, .ref h0]) ⟨hx, hb, hml, hown, hts⟩ (c_R_init l D T3 q10 _ 0) (cwI 1 hts (hx_gI hx_cons k_120) rfl rfl rfl (hts _ (hx_cons _ k_52)) (hts _ (hx_cons _ k_118)) (hts _ (hx_cons _ k_119)) rfl (by decide +kernel) ⟨Nat.le_of_ble_eq_true rfl, Nat.le_of_ble_eq_true rfl⟩) ⟨hx_bW, fun U hU hW => ⟨rfl, by rw [hU], by rw [hU]; exact hPc, va_K.moved hW.alike hK, hDc.weaken (fun _ _ _ _ => trivial)⟩⟩ rfl rfl hl.1 rfl (lv_room (Nat.le_of_ble_eq_true rfl)) d_X_init_75 ⟨(Nat.le_of_ble_eq_true rfl), (Nat.le_of_ble_eq_true rfl)⟩) hS (fun q _ h => hFc q h) hFc (fun u11 t H1 locs ht hvm hw hB hz1 hk1 hS => ?_)
  obtain ⟨hP1, hK1, hD1⟩ := hB
  rw [ht] at hP1
  obtain ⟨hP, hD⟩ := va_join (wr := [(h0, .inr (0, [.ref q1, .null, .null, .null, .null, .null, .int 0, .int 0, .int 0])), (q1, .inl (T3.1, 4, .inr (.inr (.inr (.inr (va_up (va_up (va_up (va_up (fun _ => none) 0 (some q2)) 1 (some q4)) 2 (some q6)) 3 (some q8))))))), (q2, .inr (1, hx_fmL (5, 10, 0, 15, 31744, 32256, (-14), (-24)))), (q4, .inr (1, hx_fmL (8, 7, 0, 15, 32640, 32704, (-126), (-133)))), (q6, .inr (1, hx_fmL (8, 23, 0, 31, 2139095040, 2143289344, (-126), (-149)))), (q8, .inr (1, hx_fmL (4, 3, 1, 7, 127, 127, (-6), (-9))))]) (w1 := [(q10, .inr (2, [.ref u11, .int 0, .int 0])), (u11, .inl (T3.2.1, 32, .inl (fun _ => 0)))]) hP hD [6] [0, 1, 2, 3, 4, 5] rfl rfl (by decide) (by decide) hk1 hFc hP1 hD1
  generalize H1 = H at hP hS ⊢
  clear hk1 hz1 hPc hDc hFc hP1 hK1 hD1 hvm ht
  have hP : va_P D vwCl [(h0, .inr (0, [.ref q1, .null, .null, .null, .null, .null, .int 0, .int 0, .int 0])), (q1, .inl (T3.1, 4, .inr (.inr (.inr (.inr (va_up (va_up (va_up (va_up (fun _ => none) 0 (some q2)) 1 (some q4)) 2 (some q6)) 3 (some q8))))))), (q2, .inr (1, hx_fmL (5, 10, 0, 15, 31744, 32256, (-14), (-24)))), (q4, .inr (1, hx_fmL (8, 7, 0, 15, 32640, 32704, (-126), (-133)))), (q6, .inr (1, hx_fmL (8, 23, 0, 31, 2139095040, 2143289344, (-126), (-149)))), (q8, .inr (1, hx_fmL (4, 3, 1, 7, 127, 127, (-6), (-9)))), (q10, .inr (2, [.ref u11, .int 0, .int 0])), (u11, .inl (T3.2.1, 32, .inl (fun _ => 0)))] H := hP
  have hD : va_D A [(h0, .inr (0, [.ref q1, .null, .null, .null, .null, .null, .int 0, .int 0, .int 0])), (q1, .inl (T3.1, 4, .inr (.inr (.inr (.inr (va_up (va_up (va_up (va_up (fun _ => none) 0 (some q2)) 1 (some q4)) 2 (some q6)) 3 (some q8))))))), (q2, .inr (1, hx_fmL (5, 10, 0, 15, 31744, 32256, (-14), (-24)))), (q4, .inr (1, hx_fmL (8, 7, 0, 15, 32640, 32704, (-126), (-133)))), (q6, .inr (1, hx_fmL (8, 23, 0, 31, 2139095040, 2143289344, (-126), (-149)))), (q8, .inr (1, hx_fmL (4, 3, 1, 7, 127, 127, (-6), (-9)))), (q10, .inr (2, [.ref u11, .int 0, .int 0])), (u11, .inl (T3.2.1, 32, .inl (fun _ => 0)))] := hD
  refine W.widen (k := 7) (n := 71) (Nat.le_refl _) (Nat.le_refl _) ?_
  refine va_putF (D := D) (ci := 0) (v := .ref q10) (ty := .object "HalfFloats$Row") (C := "HalfFloats") (T := T_X) (N := 9) hx hb hts (hx_up in_X) ty_X tyok_X nm_X hown hK hP hD hS 0 rfl rfl 1 (by decide) (hts _ (hx_cons _ k_205)) (fun _ h9 => h9) rfl hin rfl (by decide +kernel) rfl rfl (Nat.le_of_ble_eq_true rfl) d_X_init_78 (fun H locs hP hD hS => ?_)
  have hP : va_P D vwCl [(h0, .inr (0, [.ref q1, .ref q10, .null, .null, .null, .null, .int 0, .int 0, .int 0])), (q1, .inl (T3.1, 4, .inr (.inr (.inr (.inr (va_up (va_up (va_up (va_up (fun _ => none) 0 (some q2)) 1 (some q4)) 2 (some q6)) 3 (some q8))))))), (q2, .inr (1, hx_fmL (5, 10, 0, 15, 31744, 32256, (-14), (-24)))), (q4, .inr (1, hx_fmL (8, 7, 0, 15, 32640, 32704, (-126), (-133)))), (q6, .inr (1, hx_fmL (8, 23, 0, 31, 2139095040, 2143289344, (-126), (-149)))), (q8, .inr (1, hx_fmL (4, 3, 1, 7, 127, 127, (-6), (-9)))), (q10, .inr (2, [.ref u11, .int 0, .int 0])), (u11, .inl (T3.2.1, 32, .inl (fun _ => 0)))] H := hP
  have hD : va_D A [(h0, .inr (0, [.ref q1, .ref q10, .null, .null, .null, .null, .int 0, .int 0, .int 0])), (q1, .inl (T3.1, 4, .inr (.inr (.inr (.inr (va_up (va_up (va_up (va_up (fun _ => none) 0 (some q2)) 1 (some q4)) 2 (some q6)) 3 (some q8))))))), (q2, .inr (1, hx_fmL (5, 10, 0, 15, 31744, 32256, (-14), (-24)))), (q4, .inr (1, hx_fmL (8, 7, 0, 15, 32640, 32704, (-126), (-133)))), (q6, .inr (1, hx_fmL (8, 23, 0, 31, 2139095040, 2143289344, (-126), (-149)))), (q8, .inr (1, hx_fmL (4, 3, 1, 7, 127, 127, (-6), (-9)))), (q10, .inr (2, [.ref u11, .int 0, .int 0])), (u11, .inl (T3.2.1, 32, .inl (fun _ => 0)))] := hD
  refine lv_aload_n hx hb d_X_init_81 rfl (lv_at hl 0 rfl) ?_
  refine va_new (ci := 2) (fs := [.null, .int 0, .int 0]) (C := "HalfFloats$Row") (T := T_R) (N := 3) hx hb hts (hx_up in_R) ty_R tyok_R hown (hts _ (hx_cons _ k_116)) (hts _ (hx_cons _ k_117)) (hts _ (hx_cons _ k_52)) hK hP hD hS hA rfl (fun j hj => by rcases (show j = 0 ∨ j = 1 ∨ j = 2 by omega) with rfl | rfl | rfl <;> rfl) (Nat.le_of_ble_eq_true rfl) (Nat.le_of_ble_eq_true rfl) d_X_init_82 (fun q12 H hP hD hS => ?_)
  have hP : va_P D vwCl [(h0, .inr (0, [.ref q1, .ref q10, .null, .null, .null, .null, .int 0, .int 0, .int 0])), (q1, .inl (T3.1, 4, .inr (.inr (.inr (.inr (va_up (va_up (va_up (va_up (fun _ => none) 0 (some q2)) 1 (some q4)) 2 (some q6)) 3 (some q8))))))), (q2, .inr (1, hx_fmL (5, 10, 0, 15, 31744, 32256, (-14), (-24)))), (q4, .inr (1, hx_fmL (8, 7, 0, 15, 32640, 32704, (-126), (-133)))), (q6, .inr (1, hx_fmL (8, 23, 0, 31, 2139095040, 2143289344, (-126), (-149)))), (q8, .inr (1, hx_fmL (4, 3, 1, 7, 127, 127, (-6), (-9)))), (q10, .inr (2, [.ref u11, .int 0, .int 0])), (u11, .inl (T3.2.1, 32, .inl (fun _ => 0))), (q12, .inr (2, [.null, .int 0, .int 0]))] H := hP
  have hD : va_D A [(h0, .inr (0, [.ref q1, .ref q10, .null, .null, .null, .null, .int 0, .int 0, .int 0])), (q1, .inl (T3.1, 4, .inr (.inr (.inr (.inr (va_up (va_up (va_up (va_up (fun _ => none) 0 (some q2)) 1 (some q4)) 2 (some q6)) 3 (some q8))))))), (q2, .inr (1, hx_fmL (5, 10, 0, 15, 31744, 32256, (-14), (-24)))), (q4, .inr (1, hx_fmL (8, 7, 0, 15, 32640, 32704, (-126), (-133)))), (q6, .inr (1, hx_fmL (8, 23, 0, 31, 2139095040, 2143289344, (-126), (-149)))), (q8, .inr (1, hx_fmL (4, 3, 1, 7, 127, 127, (-6), (-9)))), (q10, .inr (2, [.ref u11, .int 0, .int 0])), (u11, .inl (T3.2.1, 32, .inl (fun _ => 0))), (q12, .inr (2, [.null, .int 0, .int 0]))] := hD
  refine W.widen (k := 8) (n := 74) (Nat.le_refl _) (Nat.le_refl _) ?_
  refine lv_dup hx hb d_X_init_85 rfl ?_
  refine lv_iconst (v := 2) hx hb d_X_init_86 (by decide) ?_
  have hPc := hP.sub (ws' := [(q12, .inr (2, [.null, .int 0, .int 0]))]) [8] rfl
  have hDc := hD.sub (ws' := [(q12, .inr (2, [.null, .int 0, .int 0]))]) [8] (by decide) rfl
  have hFc := va_free (wc := [(q12, .inr (2, [.null, .int 0, .int 0]))]) hD hS hA [8] rfl
  refine va_callv (va_runI (As := [.int (2)]) (rest := [.ref q12, .ref h0]) ⟨hx, hb, hml, hown, hts⟩ (c_R_init l D T3 q12 _ 2) (cwI 1 hts (hx_gI hx_cons k_120) rfl rfl rfl (hts _ (hx_cons _ k_52)) (hts _ (hx_cons _ k_118)) (hts _ (hx_cons _ k_119)) rfl (by decide +kernel) ⟨Nat.le_of_ble_eq_true rfl, Nat.le_of_ble_eq_true rfl⟩) ⟨hx_bW, fun U hU hW => ⟨rfl, by rw [hU], by rw [hU]; exact hPc, va_K.moved hW.alike hK, hDc.weaken (fun _ _ _ _ => trivial)⟩⟩ rfl rfl hl.1 rfl (lv_room (Nat.le_of_ble_eq_true rfl)) d_X_init_87 ⟨(Nat.le_of_ble_eq_true rfl), (Nat.le_of_ble_eq_true rfl)⟩) hS (fun q _ h => hFc q h) hFc (fun u13 t H1 locs ht hvm hw hB hz1 hk1 hS => ?_)
  obtain ⟨hP1, hK1, hD1⟩ := hB
  rw [ht] at hP1
  obtain ⟨hP, hD⟩ := va_join (wr := [(h0, .inr (0, [.ref q1, .ref q10, .null, .null, .null, .null, .int 0, .int 0, .int 0])), (q1, .inl (T3.1, 4, .inr (.inr (.inr (.inr (va_up (va_up (va_up (va_up (fun _ => none) 0 (some q2)) 1 (some q4)) 2 (some q6)) 3 (some q8))))))), (q2, .inr (1, hx_fmL (5, 10, 0, 15, 31744, 32256, (-14), (-24)))), (q4, .inr (1, hx_fmL (8, 7, 0, 15, 32640, 32704, (-126), (-133)))), (q6, .inr (1, hx_fmL (8, 23, 0, 31, 2139095040, 2143289344, (-126), (-149)))), (q8, .inr (1, hx_fmL (4, 3, 1, 7, 127, 127, (-6), (-9)))), (q10, .inr (2, [.ref u11, .int 0, .int 0])), (u11, .inl (T3.2.1, 32, .inl (fun _ => 0)))]) (w1 := [(q12, .inr (2, [.ref u13, .int 0, .int 2])), (u13, .inl (T3.2.1, 32, .inl (fun _ => 0)))]) hP hD [8] [0, 1, 2, 3, 4, 5, 6, 7] rfl rfl (by decide) (by decide) hk1 hFc hP1 hD1
  generalize H1 = H at hP hS ⊢
  clear hk1 hz1 hPc hDc hFc hP1 hK1 hD1 hvm ht
  have hP : va_P D vwCl [(h0, .inr (0, [.ref q1, .ref q10, .null, .null, .null, .null, .int 0, .int 0, .int 0])), (q1, .inl (T3.1, 4, .inr (.inr (.inr (.inr (va_up (va_up (va_up (va_up (fun _ => none) 0 (some q2)) 1 (some q4)) 2 (some q6)) 3 (some q8))))))), (q2, .inr (1, hx_fmL (5, 10, 0, 15, 31744, 32256, (-14), (-24)))), (q4, .inr (1, hx_fmL (8, 7, 0, 15, 32640, 32704, (-126), (-133)))), (q6, .inr (1, hx_fmL (8, 23, 0, 31, 2139095040, 2143289344, (-126), (-149)))), (q8, .inr (1, hx_fmL (4, 3, 1, 7, 127, 127, (-6), (-9)))), (q10, .inr (2, [.ref u11, .int 0, .int 0])), (u11, .inl (T3.2.1, 32, .inl (fun _ => 0))), (q12, .inr (2, [.ref u13, .int 0, .int 2])), (u13, .inl (T3.2.1, 32, .inl (fun _ => 0)))] H := hP
  have hD : va_D A [(h0, .inr (0, [.ref q1, .ref q10, .null, .null, .null, .null, .int 0, .int 0, .int 0])), (q1, .inl (T3.1, 4, .inr (.inr (.inr (.inr (va_up (va_up (va_up (va_up (fun _ => none) 0 (some q2)) 1 (some q4)) 2 (some q6)) 3 (some q8))))))), (q2, .inr (1, hx_fmL (5, 10, 0, 15, 31744, 32256, (-14), (-24)))), (q4, .inr (1, hx_fmL (8, 7, 0, 15, 32640, 32704, (-126), (-133)))), (q6, .inr (1, hx_fmL (8, 23, 0, 31, 2139095040, 2143289344, (-126), (-149)))), (q8, .inr (1, hx_fmL (4, 3, 1, 7, 127, 127, (-6), (-9)))), (q10, .inr (2, [.ref u11, .int 0, .int 0])), (u11, .inl (T3.2.1, 32, .inl (fun _ => 0))), (q12, .inr (2, [.ref u13, .int 0, .int 2])), (u13, .inl (T3.2.1, 32, .inl (fun _ => 0)))] := hD
  refine W.widen (k := 9) (n := 106) (Nat.le_refl _) (Nat.le_refl _) ?_
  refine va_putF (D := D) (ci := 0) (v := .ref q12) (ty := .object "HalfFloats$Row") (C := "HalfFloats") (T := T_X) (N := 9) hx hb hts (hx_up in_X) ty_X tyok_X nm_X hown hK hP hD hS 0 rfl rfl 2 (by decide) (hts _ (hx_cons _ k_206)) (fun _ h9 => h9) rfl hin rfl (by decide +kernel) rfl rfl (Nat.le_of_ble_eq_true rfl) d_X_init_90 (fun H locs hP hD hS => ?_)
  have hP : va_P D vwCl [(h0, .inr (0, [.ref q1, .ref q10, .ref q12, .null, .null, .null, .int 0, .int 0, .int 0])), (q1, .inl (T3.1, 4, .inr (.inr (.inr (.inr (va_up (va_up (va_up (va_up (fun _ => none) 0 (some q2)) 1 (some q4)) 2 (some q6)) 3 (some q8))))))), (q2, .inr (1, hx_fmL (5, 10, 0, 15, 31744, 32256, (-14), (-24)))), (q4, .inr (1, hx_fmL (8, 7, 0, 15, 32640, 32704, (-126), (-133)))), (q6, .inr (1, hx_fmL (8, 23, 0, 31, 2139095040, 2143289344, (-126), (-149)))), (q8, .inr (1, hx_fmL (4, 3, 1, 7, 127, 127, (-6), (-9)))), (q10, .inr (2, [.ref u11, .int 0, .int 0])), (u11, .inl (T3.2.1, 32, .inl (fun _ => 0))), (q12, .inr (2, [.ref u13, .int 0, .int 2])), (u13, .inl (T3.2.1, 32, .inl (fun _ => 0)))] H := hP
  have hD : va_D A [(h0, .inr (0, [.ref q1, .ref q10, .ref q12, .null, .null, .null, .int 0, .int 0, .int 0])), (q1, .inl (T3.1, 4, .inr (.inr (.inr (.inr (va_up (va_up (va_up (va_up (fun _ => none) 0 (some q2)) 1 (some q4)) 2 (some q6)) 3 (some q8))))))), (q2, .inr (1, hx_fmL (5, 10, 0, 15, 31744, 32256, (-14), (-24)))), (q4, .inr (1, hx_fmL (8, 7, 0, 15, 32640, 32704, (-126), (-133)))), (q6, .inr (1, hx_fmL (8, 23, 0, 31, 2139095040, 2143289344, (-126), (-149)))), (q8, .inr (1, hx_fmL (4, 3, 1, 7, 127, 127, (-6), (-9)))), (q10, .inr (2, [.ref u11, .int 0, .int 0])), (u11, .inl (T3.2.1, 32, .inl (fun _ => 0))), (q12, .inr (2, [.ref u13, .int 0, .int 2])), (u13, .inl (T3.2.1, 32, .inl (fun _ => 0)))] := hD
  refine lv_aload_n hx hb d_X_init_93 rfl (lv_at hl 0 rfl) ?_
  refine va_new (ci := 3) (fs := [.int 0, .int 0, .int 0, .int 0, .int 0, .int 0, .int 0, .int 0, .long 0, .int 0, .int 0, .null]) (C := "HalfFloats$Exact") (T := T_E) (N := 12) hx hb hts (hx_up in_E) ty_E tyok_E hown (hts _ (hx_cons _ k_136)) (hts _ (hx_cons _ k_137)) (hts _ (hx_cons _ k_53)) hK hP hD hS hA rfl (fun j hj => by rcases (show j = 0 ∨ j = 1 ∨ j = 2 ∨ j = 3 ∨ j = 4 ∨ j = 5 ∨ j = 6 ∨ j = 7 ∨ j = 8 ∨ j = 9 ∨ j = 10 ∨ j = 11 by omega) with rfl | rfl | rfl | rfl | rfl | rfl | rfl | rfl | rfl | rfl | rfl | rfl <;> rfl) (Nat.le_of_ble_eq_true rfl) (Nat.le_of_ble_eq_true rfl) d_X_init_94 (fun q14 H hP hD hS => ?_)
  have hP : va_P D vwCl [(h0, .inr (0, [.ref q1, .ref q10, .ref q12, .null, .null, .null, .int 0, .int 0, .int 0])), (q1, .inl (T3.1, 4, .inr (.inr (.inr (.inr (va_up (va_up (va_up (va_up (fun _ => none) 0 (some q2)) 1 (some q4)) 2 (some q6)) 3 (some q8))))))), (q2, .inr (1, hx_fmL (5, 10, 0, 15, 31744, 32256, (-14), (-24)))), (q4, .inr (1, hx_fmL (8, 7, 0, 15, 32640, 32704, (-126), (-133)))), (q6, .inr (1, hx_fmL (8, 23, 0, 31, 2139095040, 2143289344, (-126), (-149)))), (q8, .inr (1, hx_fmL (4, 3, 1, 7, 127, 127, (-6), (-9)))), (q10, .inr (2, [.ref u11, .int 0, .int 0])), (u11, .inl (T3.2.1, 32, .inl (fun _ => 0))), (q12, .inr (2, [.ref u13, .int 0, .int 2])), (u13, .inl (T3.2.1, 32, .inl (fun _ => 0))), (q14, .inr (3, [.int 0, .int 0, .int 0, .int 0, .int 0, .int 0, .int 0, .int 0, .long 0, .int 0, .int 0, .null]))] H := hP
  have hD : va_D A [(h0, .inr (0, [.ref q1, .ref q10, .ref q12, .null, .null, .null, .int 0, .int 0, .int 0])), (q1, .inl (T3.1, 4, .inr (.inr (.inr (.inr (va_up (va_up (va_up (va_up (fun _ => none) 0 (some q2)) 1 (some q4)) 2 (some q6)) 3 (some q8))))))), (q2, .inr (1, hx_fmL (5, 10, 0, 15, 31744, 32256, (-14), (-24)))), (q4, .inr (1, hx_fmL (8, 7, 0, 15, 32640, 32704, (-126), (-133)))), (q6, .inr (1, hx_fmL (8, 23, 0, 31, 2139095040, 2143289344, (-126), (-149)))), (q8, .inr (1, hx_fmL (4, 3, 1, 7, 127, 127, (-6), (-9)))), (q10, .inr (2, [.ref u11, .int 0, .int 0])), (u11, .inl (T3.2.1, 32, .inl (fun _ => 0))), (q12, .inr (2, [.ref u13, .int 0, .int 2])), (u13, .inl (T3.2.1, 32, .inl (fun _ => 0))), (q14, .inr (3, [.int 0, .int 0, .int 0, .int 0, .int 0, .int 0, .int 0, .int 0, .long 0, .int 0, .int 0, .null]))] := hD
  refine W.widen (k := 10) (n := 118) (Nat.le_refl _) (Nat.le_refl _) ?_
  refine lv_dup hx hb d_X_init_97 rfl ?_
  have hPc := hP.sub (ws' := [(q14, .inr (3, [.int 0, .int 0, .int 0, .int 0, .int 0, .int 0, .int 0, .int 0, .long 0, .int 0, .int 0, .null]))]) [10] rfl
  have hDc := hD.sub (ws' := [(q14, .inr (3, [.int 0, .int 0, .int 0, .int 0, .int 0, .int 0, .int 0, .int 0, .long 0, .int 0, .int 0, .null]))]) [10] (by decide) rfl
  have hFc := va_free (wc := [(q14, .inr (3, [.int 0, .int 0, .int 0, .int 0, .int 0, .int 0, .int 0, .int 0, .long 0, .int 0, .int 0, .null]))]) hD hS hA [10] rfl
  refine va_callv (va_runI (As := []) (rest := [.ref q14, .ref h0]) ⟨hx, hb, hml, hown, hts⟩ (c_E_init l D T3 q14 _) (cwI 0 hts (hx_gI hx_cons k_140) rfl rfl rfl (hts _ (hx_cons _ k_53)) (hts _ (hx_cons _ k_138)) (hts _ (hx_cons _ k_139)) rfl (by decide +kernel) ⟨Nat.le_of_ble_eq_true rfl, Nat.le_of_ble_eq_true rfl⟩) ⟨hx_bW, fun U hU hW => ⟨rfl, by rw [hU], by rw [hU]; exact hPc, va_K.moved hW.alike hK, hDc.weaken (fun _ _ _ _ => trivial)⟩⟩ rfl rfl hl.1 rfl (lv_room (Nat.le_of_ble_eq_true rfl)) d_X_init_98 ⟨(Nat.le_of_ble_eq_true rfl), (Nat.le_of_ble_eq_true rfl)⟩) hS (fun q _ h => hFc q h) hFc (fun u15 t H1 locs ht hvm hw hB hz1 hk1 hS => ?_)
  obtain ⟨hP1, hK1, hD1⟩ := hB
  rw [ht] at hP1
  obtain ⟨hP, hD⟩ := va_join (wr := [(h0, .inr (0, [.ref q1, .ref q10, .ref q12, .null, .null, .null, .int 0, .int 0, .int 0])), (q1, .inl (T3.1, 4, .inr (.inr (.inr (.inr (va_up (va_up (va_up (va_up (fun _ => none) 0 (some q2)) 1 (some q4)) 2 (some q6)) 3 (some q8))))))), (q2, .inr (1, hx_fmL (5, 10, 0, 15, 31744, 32256, (-14), (-24)))), (q4, .inr (1, hx_fmL (8, 7, 0, 15, 32640, 32704, (-126), (-133)))), (q6, .inr (1, hx_fmL (8, 23, 0, 31, 2139095040, 2143289344, (-126), (-149)))), (q8, .inr (1, hx_fmL (4, 3, 1, 7, 127, 127, (-6), (-9)))), (q10, .inr (2, [.ref u11, .int 0, .int 0])), (u11, .inl (T3.2.1, 32, .inl (fun _ => 0))), (q12, .inr (2, [.ref u13, .int 0, .int 2])), (u13, .inl (T3.2.1, 32, .inl (fun _ => 0)))]) (w1 := [(q14, .inr (3, [.int 0, .int 0, .int 0, .int 0, .int 0, .int 0, .int 0, .int 0, .long 0, .int 0, .int 0, .ref u15])), (u15, .inl (T3.2.2, 20, .inr (.inl (fun _ => 0))))]) hP hD [10] [0, 1, 2, 3, 4, 5, 6, 7, 8, 9] rfl rfl (by decide) (by decide) hk1 hFc hP1 hD1
  generalize H1 = H at hP hS ⊢
  clear hk1 hz1 hPc hDc hFc hP1 hK1 hD1 hvm ht
  have hP : va_P D vwCl [(h0, .inr (0, [.ref q1, .ref q10, .ref q12, .null, .null, .null, .int 0, .int 0, .int 0])), (q1, .inl (T3.1, 4, .inr (.inr (.inr (.inr (va_up (va_up (va_up (va_up (fun _ => none) 0 (some q2)) 1 (some q4)) 2 (some q6)) 3 (some q8))))))), (q2, .inr (1, hx_fmL (5, 10, 0, 15, 31744, 32256, (-14), (-24)))), (q4, .inr (1, hx_fmL (8, 7, 0, 15, 32640, 32704, (-126), (-133)))), (q6, .inr (1, hx_fmL (8, 23, 0, 31, 2139095040, 2143289344, (-126), (-149)))), (q8, .inr (1, hx_fmL (4, 3, 1, 7, 127, 127, (-6), (-9)))), (q10, .inr (2, [.ref u11, .int 0, .int 0])), (u11, .inl (T3.2.1, 32, .inl (fun _ => 0))), (q12, .inr (2, [.ref u13, .int 0, .int 2])), (u13, .inl (T3.2.1, 32, .inl (fun _ => 0))), (q14, .inr (3, [.int 0, .int 0, .int 0, .int 0, .int 0, .int 0, .int 0, .int 0, .long 0, .int 0, .int 0, .ref u15])), (u15, .inl (T3.2.2, 20, .inr (.inl (fun _ => 0))))] H := hP
  have hD : va_D A [(h0, .inr (0, [.ref q1, .ref q10, .ref q12, .null, .null, .null, .int 0, .int 0, .int 0])), (q1, .inl (T3.1, 4, .inr (.inr (.inr (.inr (va_up (va_up (va_up (va_up (fun _ => none) 0 (some q2)) 1 (some q4)) 2 (some q6)) 3 (some q8))))))), (q2, .inr (1, hx_fmL (5, 10, 0, 15, 31744, 32256, (-14), (-24)))), (q4, .inr (1, hx_fmL (8, 7, 0, 15, 32640, 32704, (-126), (-133)))), (q6, .inr (1, hx_fmL (8, 23, 0, 31, 2139095040, 2143289344, (-126), (-149)))), (q8, .inr (1, hx_fmL (4, 3, 1, 7, 127, 127, (-6), (-9)))), (q10, .inr (2, [.ref u11, .int 0, .int 0])), (u11, .inl (T3.2.1, 32, .inl (fun _ => 0))), (q12, .inr (2, [.ref u13, .int 0, .int 2])), (u13, .inl (T3.2.1, 32, .inl (fun _ => 0))), (q14, .inr (3, [.int 0, .int 0, .int 0, .int 0, .int 0, .int 0, .int 0, .int 0, .long 0, .int 0, .int 0, .ref u15])), (u15, .inl (T3.2.2, 20, .inr (.inl (fun _ => 0))))] := hD
  refine W.widen (k := 11) (n := 138) (Nat.le_refl _) (Nat.le_refl _) ?_
  refine va_putF (D := D) (ci := 0) (v := .ref q14) (ty := .object "HalfFloats$Exact") (C := "HalfFloats") (T := T_X) (N := 9) hx hb hts (hx_up in_X) ty_X tyok_X nm_X hown hK hP hD hS 0 rfl rfl 3 (by decide) (hts _ (hx_cons _ k_207)) (fun _ h9 => h9) rfl hin rfl (by decide +kernel) rfl rfl (Nat.le_of_ble_eq_true rfl) d_X_init_101 (fun H locs hP hD hS => ?_)
  have hP : va_P D vwCl [(h0, .inr (0, [.ref q1, .ref q10, .ref q12, .ref q14, .null, .null, .int 0, .int 0, .int 0])), (q1, .inl (T3.1, 4, .inr (.inr (.inr (.inr (va_up (va_up (va_up (va_up (fun _ => none) 0 (some q2)) 1 (some q4)) 2 (some q6)) 3 (some q8))))))), (q2, .inr (1, hx_fmL (5, 10, 0, 15, 31744, 32256, (-14), (-24)))), (q4, .inr (1, hx_fmL (8, 7, 0, 15, 32640, 32704, (-126), (-133)))), (q6, .inr (1, hx_fmL (8, 23, 0, 31, 2139095040, 2143289344, (-126), (-149)))), (q8, .inr (1, hx_fmL (4, 3, 1, 7, 127, 127, (-6), (-9)))), (q10, .inr (2, [.ref u11, .int 0, .int 0])), (u11, .inl (T3.2.1, 32, .inl (fun _ => 0))), (q12, .inr (2, [.ref u13, .int 0, .int 2])), (u13, .inl (T3.2.1, 32, .inl (fun _ => 0))), (q14, .inr (3, [.int 0, .int 0, .int 0, .int 0, .int 0, .int 0, .int 0, .int 0, .long 0, .int 0, .int 0, .ref u15])), (u15, .inl (T3.2.2, 20, .inr (.inl (fun _ => 0))))] H := hP
  have hD : va_D A [(h0, .inr (0, [.ref q1, .ref q10, .ref q12, .ref q14, .null, .null, .int 0, .int 0, .int 0])), (q1, .inl (T3.1, 4, .inr (.inr (.inr (.inr (va_up (va_up (va_up (va_up (fun _ => none) 0 (some q2)) 1 (some q4)) 2 (some q6)) 3 (some q8))))))), (q2, .inr (1, hx_fmL (5, 10, 0, 15, 31744, 32256, (-14), (-24)))), (q4, .inr (1, hx_fmL (8, 7, 0, 15, 32640, 32704, (-126), (-133)))), (q6, .inr (1, hx_fmL (8, 23, 0, 31, 2139095040, 2143289344, (-126), (-149)))), (q8, .inr (1, hx_fmL (4, 3, 1, 7, 127, 127, (-6), (-9)))), (q10, .inr (2, [.ref u11, .int 0, .int 0])), (u11, .inl (T3.2.1, 32, .inl (fun _ => 0))), (q12, .inr (2, [.ref u13, .int 0, .int 2])), (u13, .inl (T3.2.1, 32, .inl (fun _ => 0))), (q14, .inr (3, [.int 0, .int 0, .int 0, .int 0, .int 0, .int 0, .int 0, .int 0, .long 0, .int 0, .int 0, .ref u15])), (u15, .inl (T3.2.2, 20, .inr (.inl (fun _ => 0))))] := hD
  refine lv_aload_n hx hb d_X_init_104 rfl (lv_at hl 0 rfl) ?_
  refine va_new (ci := 4) (fs := [.int 0, .long 0]) (C := "HalfFloats$Rounder") (T := T_D) (N := 2) hx hb hts (hx_up in_D) ty_D tyok_D hown (hts _ (hx_cons _ k_189)) (hts _ (hx_cons _ k_190)) (hts _ (hx_cons _ k_54)) hK hP hD hS hA rfl (fun j hj => by rcases (show j = 0 ∨ j = 1 by omega) with rfl | rfl <;> rfl) (Nat.le_of_ble_eq_true rfl) (Nat.le_of_ble_eq_true rfl) d_X_init_105 (fun q16 H hP hD hS => ?_)
  have hP : va_P D vwCl [(h0, .inr (0, [.ref q1, .ref q10, .ref q12, .ref q14, .null, .null, .int 0, .int 0, .int 0])), (q1, .inl (T3.1, 4, .inr (.inr (.inr (.inr (va_up (va_up (va_up (va_up (fun _ => none) 0 (some q2)) 1 (some q4)) 2 (some q6)) 3 (some q8))))))), (q2, .inr (1, hx_fmL (5, 10, 0, 15, 31744, 32256, (-14), (-24)))), (q4, .inr (1, hx_fmL (8, 7, 0, 15, 32640, 32704, (-126), (-133)))), (q6, .inr (1, hx_fmL (8, 23, 0, 31, 2139095040, 2143289344, (-126), (-149)))), (q8, .inr (1, hx_fmL (4, 3, 1, 7, 127, 127, (-6), (-9)))), (q10, .inr (2, [.ref u11, .int 0, .int 0])), (u11, .inl (T3.2.1, 32, .inl (fun _ => 0))), (q12, .inr (2, [.ref u13, .int 0, .int 2])), (u13, .inl (T3.2.1, 32, .inl (fun _ => 0))), (q14, .inr (3, [.int 0, .int 0, .int 0, .int 0, .int 0, .int 0, .int 0, .int 0, .long 0, .int 0, .int 0, .ref u15])), (u15, .inl (T3.2.2, 20, .inr (.inl (fun _ => 0)))), (q16, .inr (4, [.int 0, .long 0]))] H := hP
  have hD : va_D A [(h0, .inr (0, [.ref q1, .ref q10, .ref q12, .ref q14, .null, .null, .int 0, .int 0, .int 0])), (q1, .inl (T3.1, 4, .inr (.inr (.inr (.inr (va_up (va_up (va_up (va_up (fun _ => none) 0 (some q2)) 1 (some q4)) 2 (some q6)) 3 (some q8))))))), (q2, .inr (1, hx_fmL (5, 10, 0, 15, 31744, 32256, (-14), (-24)))), (q4, .inr (1, hx_fmL (8, 7, 0, 15, 32640, 32704, (-126), (-133)))), (q6, .inr (1, hx_fmL (8, 23, 0, 31, 2139095040, 2143289344, (-126), (-149)))), (q8, .inr (1, hx_fmL (4, 3, 1, 7, 127, 127, (-6), (-9)))), (q10, .inr (2, [.ref u11, .int 0, .int 0])), (u11, .inl (T3.2.1, 32, .inl (fun _ => 0))), (q12, .inr (2, [.ref u13, .int 0, .int 2])), (u13, .inl (T3.2.1, 32, .inl (fun _ => 0))), (q14, .inr (3, [.int 0, .int 0, .int 0, .int 0, .int 0, .int 0, .int 0, .int 0, .long 0, .int 0, .int 0, .ref u15])), (u15, .inl (T3.2.2, 20, .inr (.inl (fun _ => 0)))), (q16, .inr (4, [.int 0, .long 0]))] := hD
  refine W.widen (k := 12) (n := 140) (Nat.le_refl _) (Nat.le_refl _) ?_
  refine lv_dup hx hb d_X_init_108 rfl ?_
  have hPc := hP.sub (ws' := [(q16, .inr (4, [.int 0, .long 0]))]) [12] rfl
  have hDc := hD.sub (ws' := [(q16, .inr (4, [.int 0, .long 0]))]) [12] (by decide) rfl
  have hFc := va_free (wc := [(q16, .inr (4, [.int 0, .long 0]))]) hD hS hA [12] rfl
  refine va_callv (va_runI (As := []) (rest := [.ref q16, .ref h0]) ⟨hx, hb, hml, hown, hts⟩ (c_D_init l D T3 q16 _ (0, 0) (0, 1) (by decide +kernel)) (cwI 0 hts (hx_gI hx_cons k_193) rfl rfl rfl (hts _ (hx_cons _ k_54)) (hts _ (hx_cons _ k_191)) (hts _ (hx_cons _ k_192)) rfl (by decide +kernel) ⟨Nat.le_of_ble_eq_true rfl, Nat.le_of_ble_eq_true rfl⟩) ⟨hx_bW, fun U hU hW => ⟨rfl, by rw [hU], by rw [hU]; exact hPc, va_K.moved hW.alike hK, hDc.weaken (fun _ _ _ _ => trivial)⟩⟩ rfl rfl hl.1 rfl (lv_room (Nat.le_of_ble_eq_true rfl)) d_X_init_109 ⟨(Nat.le_of_ble_eq_true rfl), (Nat.le_of_ble_eq_true rfl)⟩) hS (fun q _ h => hFc q h) hFc (fun u17 t H1 locs ht hvm hw hB hz1 hk1 hS => ?_)
  obtain ⟨hP1, hK1, hD1⟩ := hB
  rw [ht] at hP1
  obtain ⟨hP, hD⟩ := va_join (wr := [(h0, .inr (0, [.ref q1, .ref q10, .ref q12, .ref q14, .null, .null, .int 0, .int 0, .int 0])), (q1, .inl (T3.1, 4, .inr (.inr (.inr (.inr (va_up (va_up (va_up (va_up (fun _ => none) 0 (some q2)) 1 (some q4)) 2 (some q6)) 3 (some q8))))))), (q2, .inr (1, hx_fmL (5, 10, 0, 15, 31744, 32256, (-14), (-24)))), (q4, .inr (1, hx_fmL (8, 7, 0, 15, 32640, 32704, (-126), (-133)))), (q6, .inr (1, hx_fmL (8, 23, 0, 31, 2139095040, 2143289344, (-126), (-149)))), (q8, .inr (1, hx_fmL (4, 3, 1, 7, 127, 127, (-6), (-9)))), (q10, .inr (2, [.ref u11, .int 0, .int 0])), (u11, .inl (T3.2.1, 32, .inl (fun _ => 0))), (q12, .inr (2, [.ref u13, .int 0, .int 2])), (u13, .inl (T3.2.1, 32, .inl (fun _ => 0))), (q14, .inr (3, [.int 0, .int 0, .int 0, .int 0, .int 0, .int 0, .int 0, .int 0, .long 0, .int 0, .int 0, .ref u15])), (u15, .inl (T3.2.2, 20, .inr (.inl (fun _ => 0))))]) (w1 := [(q16, .inr (4, [.int 0, .long 1]))]) hP hD [12] [0, 1, 2, 3, 4, 5, 6, 7, 8, 9, 10, 11] rfl rfl (by decide) (by decide) hk1 hFc hP1 hD1
  generalize H1 = H at hP hS ⊢
  clear hk1 hz1 hPc hDc hFc hP1 hK1 hD1 hvm ht
  have hP : va_P D vwCl [(h0, .inr (0, [.ref q1, .ref q10, .ref q12, .ref q14, .null, .null, .int 0, .int 0, .int 0])), (q1, .inl (T3.1, 4, .inr (.inr (.inr (.inr (va_up (va_up (va_up (va_up (fun _ => none) 0 (some q2)) 1 (some q4)) 2 (some q6)) 3 (some q8))))))), (q2, .inr (1, hx_fmL (5, 10, 0, 15, 31744, 32256, (-14), (-24)))), (q4, .inr (1, hx_fmL (8, 7, 0, 15, 32640, 32704, (-126), (-133)))), (q6, .inr (1, hx_fmL (8, 23, 0, 31, 2139095040, 2143289344, (-126), (-149)))), (q8, .inr (1, hx_fmL (4, 3, 1, 7, 127, 127, (-6), (-9)))), (q10, .inr (2, [.ref u11, .int 0, .int 0])), (u11, .inl (T3.2.1, 32, .inl (fun _ => 0))), (q12, .inr (2, [.ref u13, .int 0, .int 2])), (u13, .inl (T3.2.1, 32, .inl (fun _ => 0))), (q14, .inr (3, [.int 0, .int 0, .int 0, .int 0, .int 0, .int 0, .int 0, .int 0, .long 0, .int 0, .int 0, .ref u15])), (u15, .inl (T3.2.2, 20, .inr (.inl (fun _ => 0)))), (q16, .inr (4, [.int 0, .long 1]))] H := hP
  have hD : va_D A [(h0, .inr (0, [.ref q1, .ref q10, .ref q12, .ref q14, .null, .null, .int 0, .int 0, .int 0])), (q1, .inl (T3.1, 4, .inr (.inr (.inr (.inr (va_up (va_up (va_up (va_up (fun _ => none) 0 (some q2)) 1 (some q4)) 2 (some q6)) 3 (some q8))))))), (q2, .inr (1, hx_fmL (5, 10, 0, 15, 31744, 32256, (-14), (-24)))), (q4, .inr (1, hx_fmL (8, 7, 0, 15, 32640, 32704, (-126), (-133)))), (q6, .inr (1, hx_fmL (8, 23, 0, 31, 2139095040, 2143289344, (-126), (-149)))), (q8, .inr (1, hx_fmL (4, 3, 1, 7, 127, 127, (-6), (-9)))), (q10, .inr (2, [.ref u11, .int 0, .int 0])), (u11, .inl (T3.2.1, 32, .inl (fun _ => 0))), (q12, .inr (2, [.ref u13, .int 0, .int 2])), (u13, .inl (T3.2.1, 32, .inl (fun _ => 0))), (q14, .inr (3, [.int 0, .int 0, .int 0, .int 0, .int 0, .int 0, .int 0, .int 0, .long 0, .int 0, .int 0, .ref u15])), (u15, .inl (T3.2.2, 20, .inr (.inl (fun _ => 0)))), (q16, .inr (4, [.int 0, .long 1]))] := hD
  refine W.widen (k := 12) (n := 140) (Nat.le_refl _) (Nat.le_refl _) ?_
  refine va_putF (D := D) (ci := 0) (v := .ref q16) (ty := .object "HalfFloats$Rounder") (C := "HalfFloats") (T := T_X) (N := 9) hx hb hts (hx_up in_X) ty_X tyok_X nm_X hown hK hP hD hS 0 rfl rfl 4 (by decide) (hts _ (hx_cons _ k_208)) (fun _ h9 => h9) rfl hin rfl (by decide +kernel) rfl rfl (Nat.le_of_ble_eq_true rfl) d_X_init_112 (fun H locs hP hD hS => ?_)
  have hP : va_P D vwCl [(h0, .inr (0, [.ref q1, .ref q10, .ref q12, .ref q14, .ref q16, .null, .int 0, .int 0, .int 0])), (q1, .inl (T3.1, 4, .inr (.inr (.inr (.inr (va_up (va_up (va_up (va_up (fun _ => none) 0 (some q2)) 1 (some q4)) 2 (some q6)) 3 (some q8))))))), (q2, .inr (1, hx_fmL (5, 10, 0, 15, 31744, 32256, (-14), (-24)))), (q4, .inr (1, hx_fmL (8, 7, 0, 15, 32640, 32704, (-126), (-133)))), (q6, .inr (1, hx_fmL (8, 23, 0, 31, 2139095040, 2143289344, (-126), (-149)))), (q8, .inr (1, hx_fmL (4, 3, 1, 7, 127, 127, (-6), (-9)))), (q10, .inr (2, [.ref u11, .int 0, .int 0])), (u11, .inl (T3.2.1, 32, .inl (fun _ => 0))), (q12, .inr (2, [.ref u13, .int 0, .int 2])), (u13, .inl (T3.2.1, 32, .inl (fun _ => 0))), (q14, .inr (3, [.int 0, .int 0, .int 0, .int 0, .int 0, .int 0, .int 0, .int 0, .long 0, .int 0, .int 0, .ref u15])), (u15, .inl (T3.2.2, 20, .inr (.inl (fun _ => 0)))), (q16, .inr (4, [.int 0, .long 1]))] H := hP
  have hD : va_D A [(h0, .inr (0, [.ref q1, .ref q10, .ref q12, .ref q14, .ref q16, .null, .int 0, .int 0, .int 0])), (q1, .inl (T3.1, 4, .inr (.inr (.inr (.inr (va_up (va_up (va_up (va_up (fun _ => none) 0 (some q2)) 1 (some q4)) 2 (some q6)) 3 (some q8))))))), (q2, .inr (1, hx_fmL (5, 10, 0, 15, 31744, 32256, (-14), (-24)))), (q4, .inr (1, hx_fmL (8, 7, 0, 15, 32640, 32704, (-126), (-133)))), (q6, .inr (1, hx_fmL (8, 23, 0, 31, 2139095040, 2143289344, (-126), (-149)))), (q8, .inr (1, hx_fmL (4, 3, 1, 7, 127, 127, (-6), (-9)))), (q10, .inr (2, [.ref u11, .int 0, .int 0])), (u11, .inl (T3.2.1, 32, .inl (fun _ => 0))), (q12, .inr (2, [.ref u13, .int 0, .int 2])), (u13, .inl (T3.2.1, 32, .inl (fun _ => 0))), (q14, .inr (3, [.int 0, .int 0, .int 0, .int 0, .int 0, .int 0, .int 0, .int 0, .long 0, .int 0, .int 0, .ref u15])), (u15, .inl (T3.2.2, 20, .inr (.inl (fun _ => 0)))), (q16, .inr (4, [.int 0, .long 1]))] := hD
  refine lv_aload_n hx hb d_X_init_115 rfl (lv_at hl 0 rfl) ?_
  refine lv_bipush (v := 32) hx hb d_X_init_116 (by decide) ?_
  refine va_newa (atype := .int) (a0 := (32, .inl (fun _ => 0))) hx hb (hts _ (hx_cons _ k_135)) rfl hK hP hD hS hA (fun _ => rfl) (by decide) (by decide) (by decide) (Nat.le_of_ble_eq_true rfl) (Nat.le_of_ble_eq_true rfl) d_X_init_118 (fun q18 cA H hK9 hP hD hS => ?_)
  rw [hx_same1 hK hK9] at hP hD
  clear hK9
  have hP : va_P D vwCl [(h0, .inr (0, [.ref q1, .ref q10, .ref q12, .ref q14, .ref q16, .null, .int 0, .int 0, .int 0])), (q1, .inl (T3.1, 4, .inr (.inr (.inr (.inr (va_up (va_up (va_up (va_up (fun _ => none) 0 (some q2)) 1 (some q4)) 2 (some q6)) 3 (some q8))))))), (q2, .inr (1, hx_fmL (5, 10, 0, 15, 31744, 32256, (-14), (-24)))), (q4, .inr (1, hx_fmL (8, 7, 0, 15, 32640, 32704, (-126), (-133)))), (q6, .inr (1, hx_fmL (8, 23, 0, 31, 2139095040, 2143289344, (-126), (-149)))), (q8, .inr (1, hx_fmL (4, 3, 1, 7, 127, 127, (-6), (-9)))), (q10, .inr (2, [.ref u11, .int 0, .int 0])), (u11, .inl (T3.2.1, 32, .inl (fun _ => 0))), (q12, .inr (2, [.ref u13, .int 0, .int 2])), (u13, .inl (T3.2.1, 32, .inl (fun _ => 0))), (q14, .inr (3, [.int 0, .int 0, .int 0, .int 0, .int 0, .int 0, .int 0, .int 0, .long 0, .int 0, .int 0, .ref u15])), (u15, .inl (T3.2.2, 20, .inr (.inl (fun _ => 0)))), (q16, .inr (4, [.int 0, .long 1])), (q18, .inl (T3.2.1, 32, .inl (fun _ => 0)))] H := hP
  have hD : va_D A [(h0, .inr (0, [.ref q1, .ref q10, .ref q12, .ref q14, .ref q16, .null, .int 0, .int 0, .int 0])), (q1, .inl (T3.1, 4, .inr (.inr (.inr (.inr (va_up (va_up (va_up (va_up (fun _ => none) 0 (some q2)) 1 (some q4)) 2 (some q6)) 3 (some q8))))))), (q2, .inr (1, hx_fmL (5, 10, 0, 15, 31744, 32256, (-14), (-24)))), (q4, .inr (1, hx_fmL (8, 7, 0, 15, 32640, 32704, (-126), (-133)))), (q6, .inr (1, hx_fmL (8, 23, 0, 31, 2139095040, 2143289344, (-126), (-149)))), (q8, .inr (1, hx_fmL (4, 3, 1, 7, 127, 127, (-6), (-9)))), (q10, .inr (2, [.ref u11, .int 0, .int 0])), (u11, .inl (T3.2.1, 32, .inl (fun _ => 0))), (q12, .inr (2, [.ref u13, .int 0, .int 2])), (u13, .inl (T3.2.1, 32, .inl (fun _ => 0))), (q14, .inr (3, [.int 0, .int 0, .int 0, .int 0, .int 0, .int 0, .int 0, .int 0, .long 0, .int 0, .int 0, .ref u15])), (u15, .inl (T3.2.2, 20, .inr (.inl (fun _ => 0)))), (q16, .inr (4, [.int 0, .long 1])), (q18, .inl (T3.2.1, 32, .inl (fun _ => 0)))] := hD
  refine W.widen (k := 13) (n := 172) (Nat.le_refl _) (Nat.le_refl _) ?_
  refine va_putF (D := D) (ci := 0) (v := .ref q18) (ty := .array .int) (C := "HalfFloats") (T := T_X) (N := 9) hx hb hts (hx_up in_X) ty_X tyok_X nm_X hown hK hP hD hS 0 rfl rfl 5 (by decide) (hts _ (hx_cons _ k_209)) (fun _ h9 => h9) rfl hin rfl (by decide +kernel) rfl rfl (Nat.le_of_ble_eq_true rfl) d_X_init_120 (fun H locs hP hD hS => ?_)
  have hP : va_P D vwCl [(h0, .inr (0, [.ref q1, .ref q10, .ref q12, .ref q14, .ref q16, .ref q18, .int 0, .int 0, .int 0])), (q1, .inl (T3.1, 4, .inr (.inr (.inr (.inr (va_up (va_up (va_up (va_up (fun _ => none) 0 (some q2)) 1 (some q4)) 2 (some q6)) 3 (some q8))))))), (q2, .inr (1, hx_fmL (5, 10, 0, 15, 31744, 32256, (-14), (-24)))), (q4, .inr (1, hx_fmL (8, 7, 0, 15, 32640, 32704, (-126), (-133)))), (q6, .inr (1, hx_fmL (8, 23, 0, 31, 2139095040, 2143289344, (-126), (-149)))), (q8, .inr (1, hx_fmL (4, 3, 1, 7, 127, 127, (-6), (-9)))), (q10, .inr (2, [.ref u11, .int 0, .int 0])), (u11, .inl (T3.2.1, 32, .inl (fun _ => 0))), (q12, .inr (2, [.ref u13, .int 0, .int 2])), (u13, .inl (T3.2.1, 32, .inl (fun _ => 0))), (q14, .inr (3, [.int 0, .int 0, .int 0, .int 0, .int 0, .int 0, .int 0, .int 0, .long 0, .int 0, .int 0, .ref u15])), (u15, .inl (T3.2.2, 20, .inr (.inl (fun _ => 0)))), (q16, .inr (4, [.int 0, .long 1])), (q18, .inl (T3.2.1, 32, .inl (fun _ => 0)))] H := hP
  have hD : va_D A [(h0, .inr (0, [.ref q1, .ref q10, .ref q12, .ref q14, .ref q16, .ref q18, .int 0, .int 0, .int 0])), (q1, .inl (T3.1, 4, .inr (.inr (.inr (.inr (va_up (va_up (va_up (va_up (fun _ => none) 0 (some q2)) 1 (some q4)) 2 (some q6)) 3 (some q8))))))), (q2, .inr (1, hx_fmL (5, 10, 0, 15, 31744, 32256, (-14), (-24)))), (q4, .inr (1, hx_fmL (8, 7, 0, 15, 32640, 32704, (-126), (-133)))), (q6, .inr (1, hx_fmL (8, 23, 0, 31, 2139095040, 2143289344, (-126), (-149)))), (q8, .inr (1, hx_fmL (4, 3, 1, 7, 127, 127, (-6), (-9)))), (q10, .inr (2, [.ref u11, .int 0, .int 0])), (u11, .inl (T3.2.1, 32, .inl (fun _ => 0))), (q12, .inr (2, [.ref u13, .int 0, .int 2])), (u13, .inl (T3.2.1, 32, .inl (fun _ => 0))), (q14, .inr (3, [.int 0, .int 0, .int 0, .int 0, .int 0, .int 0, .int 0, .int 0, .long 0, .int 0, .int 0, .ref u15])), (u15, .inl (T3.2.2, 20, .inr (.inl (fun _ => 0)))), (q16, .inr (4, [.int 0, .long 1])), (q18, .inl (T3.2.1, 32, .inl (fun _ => 0)))] := hD
  refine lv_aload_n hx hb d_X_init_123 rfl (lv_at hl 0 rfl) ?_
  refine lv_iconst (v := 0) hx hb d_X_init_124 (by decide) ?_
  refine va_put (D := D) (ci := 0) (v := .int (0)) (ty := .int) (C := "HalfFloats") (T := T_X) (N := 9) hx hb hts (hx_up in_X) ty_X tyok_X nm_X hown hK hP hD hS 0 rfl rfl 6 (by decide) (hts _ (hx_cons _ k_210)) (fun _ h9 => h9) rfl (by decide +kernel) rfl rfl (Nat.le_of_ble_eq_true rfl) d_X_init_125 (fun H locs hP hD hS => ?_)
  have hP : va_P D vwCl [(h0, .inr (0, [.ref q1, .ref q10, .ref q12, .ref q14, .ref q16, .ref q18, .int (0), .int 0, .int 0])), (q1, .inl (T3.1, 4, .inr (.inr (.inr (.inr (va_up (va_up (va_up (va_up (fun _ => none) 0 (some q2)) 1 (some q4)) 2 (some q6)) 3 (some q8))))))), (q2, .inr (1, hx_fmL (5, 10, 0, 15, 31744, 32256, (-14), (-24)))), (q4, .inr (1, hx_fmL (8, 7, 0, 15, 32640, 32704, (-126), (-133)))), (q6, .inr (1, hx_fmL (8, 23, 0, 31, 2139095040, 2143289344, (-126), (-149)))), (q8, .inr (1, hx_fmL (4, 3, 1, 7, 127, 127, (-6), (-9)))), (q10, .inr (2, [.ref u11, .int 0, .int 0])), (u11, .inl (T3.2.1, 32, .inl (fun _ => 0))), (q12, .inr (2, [.ref u13, .int 0, .int 2])), (u13, .inl (T3.2.1, 32, .inl (fun _ => 0))), (q14, .inr (3, [.int 0, .int 0, .int 0, .int 0, .int 0, .int 0, .int 0, .int 0, .long 0, .int 0, .int 0, .ref u15])), (u15, .inl (T3.2.2, 20, .inr (.inl (fun _ => 0)))), (q16, .inr (4, [.int 0, .long 1])), (q18, .inl (T3.2.1, 32, .inl (fun _ => 0)))] H := hP
  have hD : va_D A [(h0, .inr (0, [.ref q1, .ref q10, .ref q12, .ref q14, .ref q16, .ref q18, .int (0), .int 0, .int 0])), (q1, .inl (T3.1, 4, .inr (.inr (.inr (.inr (va_up (va_up (va_up (va_up (fun _ => none) 0 (some q2)) 1 (some q4)) 2 (some q6)) 3 (some q8))))))), (q2, .inr (1, hx_fmL (5, 10, 0, 15, 31744, 32256, (-14), (-24)))), (q4, .inr (1, hx_fmL (8, 7, 0, 15, 32640, 32704, (-126), (-133)))), (q6, .inr (1, hx_fmL (8, 23, 0, 31, 2139095040, 2143289344, (-126), (-149)))), (q8, .inr (1, hx_fmL (4, 3, 1, 7, 127, 127, (-6), (-9)))), (q10, .inr (2, [.ref u11, .int 0, .int 0])), (u11, .inl (T3.2.1, 32, .inl (fun _ => 0))), (q12, .inr (2, [.ref u13, .int 0, .int 2])), (u13, .inl (T3.2.1, 32, .inl (fun _ => 0))), (q14, .inr (3, [.int 0, .int 0, .int 0, .int 0, .int 0, .int 0, .int 0, .int 0, .long 0, .int 0, .int 0, .ref u15])), (u15, .inl (T3.2.2, 20, .inr (.inl (fun _ => 0)))), (q16, .inr (4, [.int 0, .long 1])), (q18, .inl (T3.2.1, 32, .inl (fun _ => 0)))] := hD
  refine lv_aload_n hx hb d_X_init_128 rfl (lv_at hl 0 rfl) ?_
  refine lv_iconst (v := 0) hx hb d_X_init_129 (by decide) ?_
  refine va_put (D := D) (ci := 0) (v := .int (0)) (ty := .int) (C := "HalfFloats") (T := T_X) (N := 9) hx hb hts (hx_up in_X) ty_X tyok_X nm_X hown hK hP hD hS 0 rfl rfl 7 (by decide) (hts _ (hx_cons _ k_211)) (fun _ h9 => h9) rfl (by decide +kernel) rfl rfl (Nat.le_of_ble_eq_true rfl) d_X_init_130 (fun H locs hP hD hS => ?_)
  have hP : va_P D vwCl [(h0, .inr (0, [.ref q1, .ref q10, .ref q12, .ref q14, .ref q16, .ref q18, .int (0), .int (0), .int 0])), (q1, .inl (T3.1, 4, .inr (.inr (.inr (.inr (va_up (va_up (va_up (va_up (fun _ => none) 0 (some q2)) 1 (some q4)) 2 (some q6)) 3 (some q8))))))), (q2, .inr (1, hx_fmL (5, 10, 0, 15, 31744, 32256, (-14), (-24)))), (q4, .inr (1, hx_fmL (8, 7, 0, 15, 32640, 32704, (-126), (-133)))), (q6, .inr (1, hx_fmL (8, 23, 0, 31, 2139095040, 2143289344, (-126), (-149)))), (q8, .inr (1, hx_fmL (4, 3, 1, 7, 127, 127, (-6), (-9)))), (q10, .inr (2, [.ref u11, .int 0, .int 0])), (u11, .inl (T3.2.1, 32, .inl (fun _ => 0))), (q12, .inr (2, [.ref u13, .int 0, .int 2])), (u13, .inl (T3.2.1, 32, .inl (fun _ => 0))), (q14, .inr (3, [.int 0, .int 0, .int 0, .int 0, .int 0, .int 0, .int 0, .int 0, .long 0, .int 0, .int 0, .ref u15])), (u15, .inl (T3.2.2, 20, .inr (.inl (fun _ => 0)))), (q16, .inr (4, [.int 0, .long 1])), (q18, .inl (T3.2.1, 32, .inl (fun _ => 0)))] H := hP
  have hD : va_D A [(h0, .inr (0, [.ref q1, .ref q10, .ref q12, .ref q14, .ref q16, .ref q18, .int (0), .int (0), .int 0])), (q1, .inl (T3.1, 4, .inr (.inr (.inr (.inr (va_up (va_up (va_up (va_up (fun _ => none) 0 (some q2)) 1 (some q4)) 2 (some q6)) 3 (some q8))))))), (q2, .inr (1, hx_fmL (5, 10, 0, 15, 31744, 32256, (-14), (-24)))), (q4, .inr (1, hx_fmL (8, 7, 0, 15, 32640, 32704, (-126), (-133)))), (q6, .inr (1, hx_fmL (8, 23, 0, 31, 2139095040, 2143289344, (-126), (-149)))), (q8, .inr (1, hx_fmL (4, 3, 1, 7, 127, 127, (-6), (-9)))), (q10, .inr (2, [.ref u11, .int 0, .int 0])), (u11, .inl (T3.2.1, 32, .inl (fun _ => 0))), (q12, .inr (2, [.ref u13, .int 0, .int 2])), (u13, .inl (T3.2.1, 32, .inl (fun _ => 0))), (q14, .inr (3, [.int 0, .int 0, .int 0, .int 0, .int 0, .int 0, .int 0, .int 0, .long 0, .int 0, .int 0, .ref u15])), (u15, .inl (T3.2.2, 20, .inr (.inl (fun _ => 0)))), (q16, .inr (4, [.int 0, .long 1])), (q18, .inl (T3.2.1, 32, .inl (fun _ => 0)))] := hD
  refine lv_aload_n hx hb d_X_init_133 rfl (lv_at hl 0 rfl) ?_
  refine lv_iconst (v := 3) hx hb d_X_init_134 (by decide) ?_
  refine va_put (D := D) (ci := 0) (v := .int (3)) (ty := .int) (C := "HalfFloats") (T := T_X) (N := 9) hx hb hts (hx_up in_X) ty_X tyok_X nm_X hown hK hP hD hS 0 rfl rfl 8 (by decide) (hts _ (hx_cons _ k_212)) (fun _ h9 => h9) rfl (by decide +kernel) rfl rfl (Nat.le_of_ble_eq_true rfl) d_X_init_135 (fun H locs hP hD hS => ?_)
  have hP : va_P D vwCl [(h0, .inr (0, [.ref q1, .ref q10, .ref q12, .ref q14, .ref q16, .ref q18, .int (0), .int (0), .int (3)])), (q1, .inl (T3.1, 4, .inr (.inr (.inr (.inr (va_up (va_up (va_up (va_up (fun _ => none) 0 (some q2)) 1 (some q4)) 2 (some q6)) 3 (some q8))))))), (q2, .inr (1, hx_fmL (5, 10, 0, 15, 31744, 32256, (-14), (-24)))), (q4, .inr (1, hx_fmL (8, 7, 0, 15, 32640, 32704, (-126), (-133)))), (q6, .inr (1, hx_fmL (8, 23, 0, 31, 2139095040, 2143289344, (-126), (-149)))), (q8, .inr (1, hx_fmL (4, 3, 1, 7, 127, 127, (-6), (-9)))), (q10, .inr (2, [.ref u11, .int 0, .int 0])), (u11, .inl (T3.2.1, 32, .inl (fun _ => 0))), (q12, .inr (2, [.ref u13, .int 0, .int 2])), (u13, .inl (T3.2.1, 32, .inl (fun _ => 0))), (q14, .inr (3, [.int 0, .int 0, .int 0, .int 0, .int 0, .int 0, .int 0, .int 0, .long 0, .int 0, .int 0, .ref u15])), (u15, .inl (T3.2.2, 20, .inr (.inl (fun _ => 0)))), (q16, .inr (4, [.int 0, .long 1])), (q18, .inl (T3.2.1, 32, .inl (fun _ => 0)))] H := hP
  have hD : va_D A [(h0, .inr (0, [.ref q1, .ref q10, .ref q12, .ref q14, .ref q16, .ref q18, .int (0), .int (0), .int (3)])), (q1, .inl (T3.1, 4, .inr (.inr (.inr (.inr (va_up (va_up (va_up (va_up (fun _ => none) 0 (some q2)) 1 (some q4)) 2 (some q6)) 3 (some q8))))))), (q2, .inr (1, hx_fmL (5, 10, 0, 15, 31744, 32256, (-14), (-24)))), (q4, .inr (1, hx_fmL (8, 7, 0, 15, 32640, 32704, (-126), (-133)))), (q6, .inr (1, hx_fmL (8, 23, 0, 31, 2139095040, 2143289344, (-126), (-149)))), (q8, .inr (1, hx_fmL (4, 3, 1, 7, 127, 127, (-6), (-9)))), (q10, .inr (2, [.ref u11, .int 0, .int 0])), (u11, .inl (T3.2.1, 32, .inl (fun _ => 0))), (q12, .inr (2, [.ref u13, .int 0, .int 2])), (u13, .inl (T3.2.1, 32, .inl (fun _ => 0))), (q14, .inr (3, [.int 0, .int 0, .int 0, .int 0, .int 0, .int 0, .int 0, .int 0, .long 0, .int 0, .int 0, .ref u15])), (u15, .inl (T3.2.2, 20, .inr (.inl (fun _ => 0)))), (q16, .inr (4, [.int 0, .long 1])), (q18, .inl (T3.2.1, 32, .inl (fun _ => 0)))] := hD
  have hP : va_P D vwCl (hx_W T3 (hx_ad [h0, q1, q2, q4, q6, q8, q10, u11, q12, u13, q14, u15, q16, q18]) hx_init) H := hx_fix1 (fun j hj => by rcases (show j = 0 ∨ j = 1 ∨ j = 2 ∨ j = 3 by omega) with rfl | rfl | rfl | rfl <;> rfl) hP
  have hD : va_D A (hx_W T3 (hx_ad [h0, q1, q2, q4, q6, q8, q10, u11, q12, u13, q14, u15, q16, q18]) hx_init) := hx_fixD hD
  exact W.vret hx hb hr (fun t ht hW => ⟨⟨hx_ad [h0, q1, q2, q4, q6, q8, q10, u11, q12, u13, q14, u15, q16, q18], rfl, rfl, by rw [ht]; exact hP, va_K.moved hW.alike hK, hD⟩, hS.F ht⟩) hS.2.2 d_X_init_138
def hm_zero : hm_S := (fun _ => 0, fun _ => 0, fun _ => 0, fun _ => 0, fun _ => 0, fun _ => 0, fun _ => 0, fun _ => 0, 0, 0, 0, 0, 0, 0, 0, 0, 0, 0, 0, 0, 0)
def f_M_init (τ : hm_S) : Option hm_S := hx_b1 (f_M_set τ (0 : Int32) (5 : Int32) (10 : Int32) (0 : Int32)) (fun q1 => hx_b1 (f_M_set q1 (1 : Int32) (8 : Int32) (7 : Int32) (0 : Int32)) (fun q2 => hx_b1 (f_M_set q2 (2 : Int32) (8 : Int32) (23 : Int32) (0 : Int32)) (fun q3 => hx_b1 (f_M_set q3 (3 : Int32) (4 : Int32) (3 : Int32) (1 : Int32)) (fun q4 => (if (1 : Int32) < 0 ∨ 2 ≤ (1 : Int32).toNatClampNeg then none else hx_n (hm_rF_s q4 (1 : Int32).toNatClampNeg (2 : Int32)) (fun σ6 => hx_n (hm_state_s σ6 (1 : Int64)) (fun σ7 => hx_n (hm_growth_s σ7 (3 : Int32)) (fun σ8 => some σ8))))))))
abbrev m_M_init : Room := { frames := 1, cells := 8, slots := 136, locals := 24 }
set_option maxHeartbeats 8000000 in
set_option maxRecDepth 100000 in
theorem c_M_init (l : Launch) (D : va_G) (T3 : hx_T3) (h0 sz : Nat) (τ1 : hm_S) (h : f_M_init hm_zero = some τ1) : Met l y_M_init w_M_init m_M_init (hx_Pw D (hx_ty T3) [.ref h0] sz [(h0, .inr (5, [.null, .null, .null, .null, .null, .null, .int 0, .long 0, .int 0, .int 0, .int 0, .null, .int 0, .int 0, .int 0, .int 0, .int 0, .int 0, .int 0, .int 0, .null]))]) (va_Qv (fun (u : Nat → Nat) => u 0 = h0) (fun u t => hx_B D (hx_ty T3) (va_A [(h0, .inr (5, [.null, .null, .null, .null, .null, .null, .int 0, .long 0, .int 0, .int 0, .int 0, .null, .int 0, .int 0, .int 0, .int 0, .int 0, .int 0, .int 0, .int 0, .null]))] sz) (hm_W T3 u τ1) () t) (va_A [(h0, .inr (5, [.null, .null, .null, .null, .null, .null, .int 0, .long 0, .int 0, .int 0, .int 0, .null, .int 0, .int 0, .int 0, .int 0, .int 0, .int 0, .int 0, .int 0, .null]))] sz)) 8 136 (va_A [(h0, .inr (5, [.null, .null, .null, .null, .null, .null, .int 0, .long 0, .int 0, .int 0, .int 0, .null, .int 0, .int 0, .int 0, .int 0, .int 0, .int 0, .int 0, .int 0, .null]))] sz) := by
  refine Met.ofW (cc := b_M_init) (maxL := 1) (ret := none) (by decide) rfl ?_
  intro p e s m args below meth c s₁ B hml hv
  obtain ⟨hargs, hsz, hP, hK, hD0⟩ := hv
  have hx := B.exec
  have hb := B.bytes
  have hr := B.returns
  have hts := atoms_spec (ws := w_M_init) B.pre
  have hown : s.vm.findClass "HalfFloatsModel" = some m.cls := findClass_of_methodNamed B.named
  have hlocks := B.notSynchronized
  have hin : meth.name = "<init>" := (name_of_methodNamed B.named B.method).1
  subst hsz
  have hD := hD0.self (sz := s.heap.size)
  generalize hAe : va_A [(h0, .inr (5, [.null, .null, .null, .null, .null, .null, .int 0, .long 0, .int 0, .int 0, .int 0, .null, .int 0, .int 0, .int 0, .int 0, .int 0, .int 0, .int 0, .int 0, .null]))] s.heap.size = A at hD ⊢
  have hA : ∀ q : Nat, s.heap.size ≤ q → A q := fun q h => by rw [← hAe]; exact Or.inr h
  have hS : va_S A s.heap s.heap [] := va_S.rf
  refine W.eq (g2 := F0 m 0 ((lg_sl [.ref h0] ++ List.replicate (1 - (lg_sl [.ref h0]).length) Slot.unset).toArray) []) (by rw [hargs, lg_entry_eq]) ?_
  have hl := lv_entry ([.ref h0]) (n := 1) (Nat.le_of_ble_eq_true rfl)
  generalize (lg_sl ([.ref h0]) ++ List.replicate (1 - (lg_sl ([.ref h0])).length) Slot.unset).toArray = ls at hl ⊢
  have hl : lv_has ls 1 [(0, .ref h0)] := hl
  refine lv_aload_n hx hb d_M_init_0 rfl (lv_at hl 0 rfl) ?_
  refine W.objInit hx hb hown (hts _ (hx_cons _ k_551)) (hts _ (hx_cons _ k_66)) (hts _ (hx_cons _ k_67)) rfl (by rw [hml]; exact hl.1) rfl d_M_init_1 (Nat.le_of_ble_eq_true rfl) (Nat.le_of_ble_eq_true rfl) ?_
  refine W.eq (g2 := F0 m 4 ls []) rfl ?_
  refine lv_aload_n hx hb d_M_init_4 rfl (lv_at hl 0 rfl) ?_
  refine lv_iconst (v := 4) hx hb d_M_init_5 (by decide) ?_
  refine va_newa (atype := .int) (a0 := (4, .inl (fun _ => 0))) hx hb (hts _ (hx_cons _ k_135)) rfl hK hP hD hS hA (fun _ => rfl) (by decide) (by decide) (by decide) (Nat.le_of_ble_eq_true rfl) (Nat.le_of_ble_eq_true rfl) d_M_init_6 (fun q1 cA H hK9 hP hD hS => ?_)
  rw [hx_same1 hK hK9] at hP hD
  clear hK9
  have hP : va_P D vwCl [(h0, .inr (5, [.null, .null, .null, .null, .null, .null, .int 0, .long 0, .int 0, .int 0, .int 0, .null, .int 0, .int 0, .int 0, .int 0, .int 0, .int 0, .int 0, .int 0, .null])), (q1, .inl (T3.2.1, 4, .inl (fun _ => 0)))] H := hP
  have hD : va_D A [(h0, .inr (5, [.null, .null, .null, .null, .null, .null, .int 0, .long 0, .int 0, .int 0, .int 0, .null, .int 0, .int 0, .int 0, .int 0, .int 0, .int 0, .int 0, .int 0, .null])), (q1, .inl (T3.2.1, 4, .inl (fun _ => 0)))] := hD
  refine W.widen (k := 1) (n := 4) (Nat.le_refl _) (Nat.le_refl _) ?_
  refine va_putF (D := D) (ci := 5) (v := .ref q1) (ty := .array .int) (C := "HalfFloatsModel") (T := T_M) (N := 21) hx hb hts (hx_up in_M) ty_M tyok_M nm_M hown hK hP hD hS 0 rfl rfl 0 (by decide) (hts _ (hx_cons _ k_556)) (fun _ h9 => h9) rfl hin rfl (by decide +kernel) rfl rfl (Nat.le_of_ble_eq_true rfl) d_M_init_8 (fun H locs hP hD hS => ?_)
  have hP : va_P D vwCl [(h0, .inr (5, [.ref q1, .null, .null, .null, .null, .null, .int 0, .long 0, .int 0, .int 0, .int 0, .null, .int 0, .int 0, .int 0, .int 0, .int 0, .int 0, .int 0, .int 0, .null])), (q1, .inl (T3.2.1, 4, .inl (fun _ => 0)))] H := hP
  have hD : va_D A [(h0, .inr (5, [.ref q1, .null, .null, .null, .null, .null, .int 0, .long 0, .int 0, .int 0, .int 0, .null, .int 0, .int 0, .int 0, .int 0, .int 0, .int 0, .int 0, .int 0, .null])), (q1, .inl (T3.2.1, 4, .inl (fun _ => 0)))] := hD
  refine lv_aload_n hx hb d_M_init_11 rfl (lv_at hl 0 rfl) ?_
  refine lv_iconst (v := 4) hx hb d_M_init_12 (by decide) ?_
  refine va_newa (atype := .int) (a0 := (4, .inl (fun _ => 0))) hx hb (hts _ (hx_cons _ k_135)) rfl hK hP hD hS hA (fun _ => rfl) (by decide) (by decide) (by decide) (Nat.le_of_ble_eq_true rfl) (Nat.le_of_ble_eq_true rfl) d_M_init_13 (fun q2 cA H hK9 hP hD hS => ?_)
  rw [hx_same1 hK hK9] at hP hD
  clear hK9
  have hP : va_P D vwCl [(h0, .inr (5, [.ref q1, .null, .null, .null, .null, .null, .int 0, .long 0, .int 0, .int 0, .int 0, .null, .int 0, .int 0, .int 0, .int 0, .int 0, .int 0, .int 0, .int 0, .null])), (q1, .inl (T3.2.1, 4, .inl (fun _ => 0))), (q2, .inl (T3.2.1, 4, .inl (fun _ => 0)))] H := hP
  have hD : va_D A [(h0, .inr (5, [.ref q1, .null, .null, .null, .null, .null, .int 0, .long 0, .int 0, .int 0, .int 0, .null, .int 0, .int 0, .int 0, .int 0, .int 0, .int 0, .int 0, .int 0, .null])), (q1, .inl (T3.2.1, 4, .inl (fun _ => 0))), (q2, .inl (T3.2.1, 4, .inl (fun _ => 0)))] := hD
  refine W.widen (k := 2) (n := 8) (Nat.le_refl _) (Nat.le_refl _) ?_
  refine va_putF (D := D) (ci := 5) (v := .ref q2) (ty := .array .int) (C := "HalfFloatsModel") (T := T_M) (N := 21) hx hb hts (hx_up in_M) ty_M tyok_M nm_M hown hK hP hD hS 0 rfl rfl 1 (by decide) (hts _ (hx_cons _ k_557)) (fun _ h9 => h9) rfl hin rfl (by decide +kernel) rfl rfl (Nat.le_of_ble_eq_true rfl) d_M_init_15 (fun H locs hP hD hS => ?_)
  have hP : va_P D vwCl [(h0, .inr (5, [.ref q1, .ref q2, .null, .null, .null, .null, .int 0, .long 0, .int 0, .int 0, .int 0, .null, .int 0, .int 0, .int 0, .int 0, .int 0, .int 0, .int 0, .int 0, .null])), (q1, .inl (T3.2.1, 4, .inl (fun _ => 0))), (q2, .inl (T3.2.1, 4, .inl (fun _ => 0)))] H := hP
  have hD : va_D A [(h0, .inr (5, [.ref q1, .ref q2, .null, .null, .null, .null, .int 0, .long 0, .int 0, .int 0, .int 0, .null, .int 0, .int 0, .int 0, .int 0, .int 0, .int 0, .int 0, .int 0, .null])), (q1, .inl (T3.2.1, 4, .inl (fun _ => 0))), (q2, .inl (T3.2.1, 4, .inl (fun _ => 0)))] := hD
  refine lv_aload_n hx hb d_M_init_18 rfl (lv_at hl 0 rfl) ?_
  refine lv_iconst (v := 4) hx hb d_M_init_19 (by decide) ?_
  refine va_newa (atype := .int) (a0 := (4, .inl (fun _ => 0))) hx hb (hts _ (hx_cons _ k_135)) rfl hK hP hD hS hA (fun _ => rfl) (by decide) (by decide) (by decide) (Nat.le_of_ble_eq_true rfl) (Nat.le_of_ble_eq_true rfl) d_M_init_20 (fun q3 cA H hK9 hP hD hS => ?_)
  rw [hx_same1 hK hK9] at hP hD
  clear hK9
  have hP : va_P D vwCl [(h0, .inr (5, [.ref q1, .ref q2, .null, .null, .null, .null, .int 0, .long 0, .int 0, .int 0, .int 0, .null, .int 0, .int 0, .int 0, .int 0, .int 0, .int 0, .int 0, .int 0, .null])), (q1, .inl (T3.2.1, 4, .inl (fun _ => 0))), (q2, .inl (T3.2.1, 4, .inl (fun _ => 0))), (q3, .inl (T3.2.1, 4, .inl (fun _ => 0)))] H := hP
  have hD : va_D A [(h0, .inr (5, [.ref q1, .ref q2, .null, .null, .null, .null, .int 0, .long 0, .int 0, .int 0, .int 0, .null, .int 0, .int 0, .int 0, .int 0, .int 0, .int 0, .int 0, .int 0, .null])), (q1, .inl (T3.2.1, 4, .inl (fun _ => 0))), (q2, .inl (T3.2.1, 4, .inl (fun _ => 0))), (q3, .inl (T3.2.1, 4, .inl (fun _ => 0)))] := hD
  refine W.widen (k := 3) (n := 12) (Nat.le_refl _) (Nat.le_refl _) ?_
  refine va_putF (D := D) (ci := 5) (v := .ref q3) (ty := .array .int) (C := "HalfFloatsModel") (T := T_M) (N := 21) hx hb hts (hx_up in_M) ty_M tyok_M nm_M hown hK hP hD hS 0 rfl rfl 2 (by decide) (hts _ (hx_cons _ k_558)) (fun _ h9 => h9) rfl hin rfl (by decide +kernel) rfl rfl (Nat.le_of_ble_eq_true rfl) d_M_init_22 (fun H locs hP hD hS => ?_)
  have hP : va_P D vwCl [(h0, .inr (5, [.ref q1, .ref q2, .ref q3, .null, .null, .null, .int 0, .long 0, .int 0, .int 0, .int 0, .null, .int 0, .int 0, .int 0, .int 0, .int 0, .int 0, .int 0, .int 0, .null])), (q1, .inl (T3.2.1, 4, .inl (fun _ => 0))), (q2, .inl (T3.2.1, 4, .inl (fun _ => 0))), (q3, .inl (T3.2.1, 4, .inl (fun _ => 0)))] H := hP
  have hD : va_D A [(h0, .inr (5, [.ref q1, .ref q2, .ref q3, .null, .null, .null, .int 0, .long 0, .int 0, .int 0, .int 0, .null, .int 0, .int 0, .int 0, .int 0, .int 0, .int 0, .int 0, .int 0, .null])), (q1, .inl (T3.2.1, 4, .inl (fun _ => 0))), (q2, .inl (T3.2.1, 4, .inl (fun _ => 0))), (q3, .inl (T3.2.1, 4, .inl (fun _ => 0)))] := hD
  refine lv_aload_n hx hb d_M_init_25 rfl (lv_at hl 0 rfl) ?_
  refine lv_iconst (v := 2) hx hb d_M_init_26 (by decide) ?_
  refine va_newa (atype := .int) (a0 := (2, .inl (fun _ => 0))) hx hb (hts _ (hx_cons _ k_135)) rfl hK hP hD hS hA (fun _ => rfl) (by decide) (by decide) (by decide) (Nat.le_of_ble_eq_true rfl) (Nat.le_of_ble_eq_true rfl) d_M_init_27 (fun q4 cA H hK9 hP hD hS => ?_)
  rw [hx_same1 hK hK9] at hP hD
  clear hK9
  have hP : va_P D vwCl [(h0, .inr (5, [.ref q1, .ref q2, .ref q3, .null, .null, .null, .int 0, .long 0, .int 0, .int 0, .int 0, .null, .int 0, .int 0, .int 0, .int 0, .int 0, .int 0, .int 0, .int 0, .null])), (q1, .inl (T3.2.1, 4, .inl (fun _ => 0))), (q2, .inl (T3.2.1, 4, .inl (fun _ => 0))), (q3, .inl (T3.2.1, 4, .inl (fun _ => 0))), (q4, .inl (T3.2.1, 2, .inl (fun _ => 0)))] H := hP
  have hD : va_D A [(h0, .inr (5, [.ref q1, .ref q2, .ref q3, .null, .null, .null, .int 0, .long 0, .int 0, .int 0, .int 0, .null, .int 0, .int 0, .int 0, .int 0, .int 0, .int 0, .int 0, .int 0, .null])), (q1, .inl (T3.2.1, 4, .inl (fun _ => 0))), (q2, .inl (T3.2.1, 4, .inl (fun _ => 0))), (q3, .inl (T3.2.1, 4, .inl (fun _ => 0))), (q4, .inl (T3.2.1, 2, .inl (fun _ => 0)))] := hD
  refine W.widen (k := 4) (n := 14) (Nat.le_refl _) (Nat.le_refl _) ?_
  refine va_putF (D := D) (ci := 5) (v := .ref q4) (ty := .array .int) (C := "HalfFloatsModel") (T := T_M) (N := 21) hx hb hts (hx_up in_M) ty_M tyok_M nm_M hown hK hP hD hS 0 rfl rfl 3 (by decide) (hts _ (hx_cons _ k_559)) (fun _ h9 => h9) rfl hin rfl (by decide +kernel) rfl rfl (Nat.le_of_ble_eq_true rfl) d_M_init_29 (fun H locs hP hD hS => ?_)
  have hP : va_P D vwCl [(h0, .inr (5, [.ref q1, .ref q2, .ref q3, .ref q4, .null, .null, .int 0, .long 0, .int 0, .int 0, .int 0, .null, .int 0, .int 0, .int 0, .int 0, .int 0, .int 0, .int 0, .int 0, .null])), (q1, .inl (T3.2.1, 4, .inl (fun _ => 0))), (q2, .inl (T3.2.1, 4, .inl (fun _ => 0))), (q3, .inl (T3.2.1, 4, .inl (fun _ => 0))), (q4, .inl (T3.2.1, 2, .inl (fun _ => 0)))] H := hP
  have hD : va_D A [(h0, .inr (5, [.ref q1, .ref q2, .ref q3, .ref q4, .null, .null, .int 0, .long 0, .int 0, .int 0, .int 0, .null, .int 0, .int 0, .int 0, .int 0, .int 0, .int 0, .int 0, .int 0, .null])), (q1, .inl (T3.2.1, 4, .inl (fun _ => 0))), (q2, .inl (T3.2.1, 4, .inl (fun _ => 0))), (q3, .inl (T3.2.1, 4, .inl (fun _ => 0))), (q4, .inl (T3.2.1, 2, .inl (fun _ => 0)))] := hD
  refine lv_aload_n hx hb d_M_init_32 rfl (lv_at hl 0 rfl) ?_
  refine lv_iconst (v := 2) hx hb d_M_init_33 (by decide) ?_
  refine va_newa (atype := .int) (a0 := (2, .inl (fun _ => 0))) hx hb (hts _ (hx_cons _ k_135)) rfl hK hP hD hS hA (fun _ => rfl) (by decide) (by decide) (by decide) (Nat.le_of_ble_eq_true rfl) (Nat.le_of_ble_eq_true rfl) d_M_init_34 (fun q5 cA H hK9 hP hD hS => ?_)
  rw [hx_same1 hK hK9] at hP hD
  clear hK9
  have hP : va_P D vwCl [(h0, .inr (5, [.ref q1, .ref q2, .ref q3, .ref q4, .null, .null, .int 0, .long 0, .int 0, .int 0, .int 0, .null, .int 0, .int 0, .int 0, .int 0, .int 0, .int 0, .int 0, .int 0, .null])), (q1, .inl (T3.2.1, 4, .inl (fun _ => 0))), (q2, .inl (T3.2.1, 4, .inl (fun _ => 0))), (q3, .inl (T3.2.1, 4, .inl (fun _ => 0))), (q4, .inl (T3.2.1, 2, .inl (fun _ => 0))), (q5, .inl (T3.2.1, 2, .inl (fun _ => 0)))] H := hP
  have hD : va_D A [(h0, .inr (5, [.ref q1, .ref q2, .ref q3, .ref q4, .null, .null, .int 0, .long 0, .int 0, .int 0, .int 0, .null, .int 0, .int 0, .int 0, .int 0, .int 0, .int 0, .int 0, .int 0, .null])), (q1, .inl (T3.2.1, 4, .inl (fun _ => 0))), (q2, .inl (T3.2.1, 4, .inl (fun _ => 0))), (q3, .inl (T3.2.1, 4, .inl (fun _ => 0))), (q4, .inl (T3.2.1, 2, .inl (fun _ => 0))), (q5, .inl (T3.2.1, 2, .inl (fun _ => 0)))] := hD
  refine W.widen (k := 5) (n := 16) (Nat.le_refl _) (Nat.le_refl _) ?_
  refine va_putF (D := D) (ci := 5) (v := .ref q5) (ty := .array .int) (C := "HalfFloatsModel") (T := T_M) (N := 21) hx hb hts (hx_up in_M) ty_M tyok_M nm_M hown hK hP hD hS 0 rfl rfl 4 (by decide) (hts _ (hx_cons _ k_560)) (fun _ h9 => h9) rfl hin rfl (by decide +kernel) rfl rfl (Nat.le_of_ble_eq_true rfl) d_M_init_36 (fun H locs hP hD hS => ?_)
  have hP : va_P D vwCl [(h0, .inr (5, [.ref q1, .ref q2, .ref q3, .ref q4, .ref q5, .null, .int 0, .long 0, .int 0, .int 0, .int 0, .null, .int 0, .int 0, .int 0, .int 0, .int 0, .int 0, .int 0, .int 0, .null])), (q1, .inl (T3.2.1, 4, .inl (fun _ => 0))), (q2, .inl (T3.2.1, 4, .inl (fun _ => 0))), (q3, .inl (T3.2.1, 4, .inl (fun _ => 0))), (q4, .inl (T3.2.1, 2, .inl (fun _ => 0))), (q5, .inl (T3.2.1, 2, .inl (fun _ => 0)))] H := hP
  have hD : va_D A [(h0, .inr (5, [.ref q1, .ref q2, .ref q3, .ref q4, .ref q5, .null, .int 0, .long 0, .int 0, .int 0, .int 0, .null, .int 0, .int 0, .int 0, .int 0, .int 0, .int 0, .int 0, .int 0, .null])), (q1, .inl (T3.2.1, 4, .inl (fun _ => 0))), (q2, .inl (T3.2.1, 4, .inl (fun _ => 0))), (q3, .inl (T3.2.1, 4, .inl (fun _ => 0))), (q4, .inl (T3.2.1, 2, .inl (fun _ => 0))), (q5, .inl (T3.2.1, 2, .inl (fun _ => 0)))] := hD
  refine lv_aload_n hx hb d_M_init_39 rfl (lv_at hl 0 rfl) ?_
  refine lv_bipush (v := 64) hx hb d_M_init_40 (by decide) ?_
  refine va_newa (atype := .long) (a0 := (64, .inr (.inl (fun _ => 0)))) hx hb (hts _ (hx_cons _ k_188)) rfl hK hP hD hS hA (fun _ => rfl) (by decide) (by decide) (by decide) (Nat.le_of_ble_eq_true rfl) (Nat.le_of_ble_eq_true rfl) d_M_init_42 (fun q6 cA H hK9 hP hD hS => ?_)
  rw [hx_same2 hK hK9] at hP hD
  clear hK9
  have hP : va_P D vwCl [(h0, .inr (5, [.ref q1, .ref q2, .ref q3, .ref q4, .ref q5, .null, .int 0, .long 0, .int 0, .int 0, .int 0, .null, .int 0, .int 0, .int 0, .int 0, .int 0, .int 0, .int 0, .int 0, .null])), (q1, .inl (T3.2.1, 4, .inl (fun _ => 0))), (q2, .inl (T3.2.1, 4, .inl (fun _ => 0))), (q3, .inl (T3.2.1, 4, .inl (fun _ => 0))), (q4, .inl (T3.2.1, 2, .inl (fun _ => 0))), (q5, .inl (T3.2.1, 2, .inl (fun _ => 0))), (q6, .inl (T3.2.2, 64, .inr (.inl (fun _ => 0))))] H := hP
  have hD : va_D A [(h0, .inr (5, [.ref q1, .ref q2, .ref q3, .ref q4, .ref q5, .null, .int 0, .long 0, .int 0, .int 0, .int 0, .null, .int 0, .int 0, .int 0, .int 0, .int 0, .int 0, .int 0, .int 0, .null])), (q1, .inl (T3.2.1, 4, .inl (fun _ => 0))), (q2, .inl (T3.2.1, 4, .inl (fun _ => 0))), (q3, .inl (T3.2.1, 4, .inl (fun _ => 0))), (q4, .inl (T3.2.1, 2, .inl (fun _ => 0))), (q5, .inl (T3.2.1, 2, .inl (fun _ => 0))), (q6, .inl (T3.2.2, 64, .inr (.inl (fun _ => 0))))] := hD
  refine W.widen (k := 6) (n := 80) (Nat.le_refl _) (Nat.le_refl _) ?_
  refine va_putF (D := D) (ci := 5) (v := .ref q6) (ty := .array .long) (C := "HalfFloatsModel") (T := T_M) (N := 21) hx hb hts (hx_up in_M) ty_M tyok_M nm_M hown hK hP hD hS 0 rfl rfl 5 (by decide) (hts _ (hx_cons _ k_561)) (fun _ h9 => h9) rfl hin rfl (by decide +kernel) rfl rfl (Nat.le_of_ble_eq_true rfl) d_M_init_44 (fun H locs hP hD hS => ?_)
  have hP : va_P D vwCl [(h0, .inr (5, [.ref q1, .ref q2, .ref q3, .ref q4, .ref q5, .ref q6, .int 0, .long 0, .int 0, .int 0, .int 0, .null, .int 0, .int 0, .int 0, .int 0, .int 0, .int 0, .int 0, .int 0, .null])), (q1, .inl (T3.2.1, 4, .inl (fun _ => 0))), (q2, .inl (T3.2.1, 4, .inl (fun _ => 0))), (q3, .inl (T3.2.1, 4, .inl (fun _ => 0))), (q4, .inl (T3.2.1, 2, .inl (fun _ => 0))), (q5, .inl (T3.2.1, 2, .inl (fun _ => 0))), (q6, .inl (T3.2.2, 64, .inr (.inl (fun _ => 0))))] H := hP
  have hD : va_D A [(h0, .inr (5, [.ref q1, .ref q2, .ref q3, .ref q4, .ref q5, .ref q6, .int 0, .long 0, .int 0, .int 0, .int 0, .null, .int 0, .int 0, .int 0, .int 0, .int 0, .int 0, .int 0, .int 0, .null])), (q1, .inl (T3.2.1, 4, .inl (fun _ => 0))), (q2, .inl (T3.2.1, 4, .inl (fun _ => 0))), (q3, .inl (T3.2.1, 4, .inl (fun _ => 0))), (q4, .inl (T3.2.1, 2, .inl (fun _ => 0))), (q5, .inl (T3.2.1, 2, .inl (fun _ => 0))), (q6, .inl (T3.2.2, 64, .inr (.inl (fun _ => 0))))] := hD
  refine lv_aload_n hx hb d_M_init_47 rfl (lv_at hl 0 rfl) ?_
  refine lv_bipush (v := 24) hx hb d_M_init_48 (by decide) ?_
  refine va_newa (atype := .long) (a0 := (24, .inr (.inl (fun _ => 0)))) hx hb (hts _ (hx_cons _ k_188)) rfl hK hP hD hS hA (fun _ => rfl) (by decide) (by decide) (by decide) (Nat.le_of_ble_eq_true rfl) (Nat.le_of_ble_eq_true rfl) d_M_init_50 (fun q7 cA H hK9 hP hD hS => ?_)
  rw [hx_same2 hK hK9] at hP hD
  clear hK9
  have hP : va_P D vwCl [(h0, .inr (5, [.ref q1, .ref q2, .ref q3, .ref q4, .ref q5, .ref q6, .int 0, .long 0, .int 0, .int 0, .int 0, .null, .int 0, .int 0, .int 0, .int 0, .int 0, .int 0, .int 0, .int 0, .null])), (q1, .inl (T3.2.1, 4, .inl (fun _ => 0))), (q2, .inl (T3.2.1, 4, .inl (fun _ => 0))), (q3, .inl (T3.2.1, 4, .inl (fun _ => 0))), (q4, .inl (T3.2.1, 2, .inl (fun _ => 0))), (q5, .inl (T3.2.1, 2, .inl (fun _ => 0))), (q6, .inl (T3.2.2, 64, .inr (.inl (fun _ => 0)))), (q7, .inl (T3.2.2, 24, .inr (.inl (fun _ => 0))))] H := hP
  have hD : va_D A [(h0, .inr (5, [.ref q1, .ref q2, .ref q3, .ref q4, .ref q5, .ref q6, .int 0, .long 0, .int 0, .int 0, .int 0, .null, .int 0, .int 0, .int 0, .int 0, .int 0, .int 0, .int 0, .int 0, .null])), (q1, .inl (T3.2.1, 4, .inl (fun _ => 0))), (q2, .inl (T3.2.1, 4, .inl (fun _ => 0))), (q3, .inl (T3.2.1, 4, .inl (fun _ => 0))), (q4, .inl (T3.2.1, 2, .inl (fun _ => 0))), (q5, .inl (T3.2.1, 2, .inl (fun _ => 0))), (q6, .inl (T3.2.2, 64, .inr (.inl (fun _ => 0)))), (q7, .inl (T3.2.2, 24, .inr (.inl (fun _ => 0))))] := hD
  refine W.widen (k := 7) (n := 104) (Nat.le_refl _) (Nat.le_refl _) ?_
  refine va_putF (D := D) (ci := 5) (v := .ref q7) (ty := .array .long) (C := "HalfFloatsModel") (T := T_M) (N := 21) hx hb hts (hx_up in_M) ty_M tyok_M nm_M hown hK hP hD hS 0 rfl rfl 11 (by decide) (hts _ (hx_cons _ k_567)) (fun _ h9 => h9) rfl hin rfl (by decide +kernel) rfl rfl (Nat.le_of_ble_eq_true rfl) d_M_init_52 (fun H locs hP hD hS => ?_)
  have hP : va_P D vwCl [(h0, .inr (5, [.ref q1, .ref q2, .ref q3, .ref q4, .ref q5, .ref q6, .int 0, .long 0, .int 0, .int 0, .int 0, .ref q7, .int 0, .int 0, .int 0, .int 0, .int 0, .int 0, .int 0, .int 0, .null])), (q1, .inl (T3.2.1, 4, .inl (fun _ => 0))), (q2, .inl (T3.2.1, 4, .inl (fun _ => 0))), (q3, .inl (T3.2.1, 4, .inl (fun _ => 0))), (q4, .inl (T3.2.1, 2, .inl (fun _ => 0))), (q5, .inl (T3.2.1, 2, .inl (fun _ => 0))), (q6, .inl (T3.2.2, 64, .inr (.inl (fun _ => 0)))), (q7, .inl (T3.2.2, 24, .inr (.inl (fun _ => 0))))] H := hP
  have hD : va_D A [(h0, .inr (5, [.ref q1, .ref q2, .ref q3, .ref q4, .ref q5, .ref q6, .int 0, .long 0, .int 0, .int 0, .int 0, .ref q7, .int 0, .int 0, .int 0, .int 0, .int 0, .int 0, .int 0, .int 0, .null])), (q1, .inl (T3.2.1, 4, .inl (fun _ => 0))), (q2, .inl (T3.2.1, 4, .inl (fun _ => 0))), (q3, .inl (T3.2.1, 4, .inl (fun _ => 0))), (q4, .inl (T3.2.1, 2, .inl (fun _ => 0))), (q5, .inl (T3.2.1, 2, .inl (fun _ => 0))), (q6, .inl (T3.2.2, 64, .inr (.inl (fun _ => 0)))), (q7, .inl (T3.2.2, 24, .inr (.inl (fun _ => 0))))] := hD
  refine lv_aload_n hx hb d_M_init_55 rfl (lv_at hl 0 rfl) ?_
  refine lv_bipush (v := 32) hx hb d_M_init_56 (by decide) ?_
  refine va_newa (atype := .long) (a0 := (32, .inr (.inl (fun _ => 0)))) hx hb (hts _ (hx_cons _ k_188)) rfl hK hP hD hS hA (fun _ => rfl) (by decide) (by decide) (by decide) (Nat.le_of_ble_eq_true rfl) (Nat.le_of_ble_eq_true rfl) d_M_init_58 (fun q8 cA H hK9 hP hD hS => ?_)
  rw [hx_same2 hK hK9] at hP hD
  clear hK9
  have hP : va_P D vwCl [(h0, .inr (5, [.ref q1, .ref q2, .ref q3, .ref q4, .ref q5, .ref q6, .int 0, .long 0, .int 0, .int 0, .int 0, .ref q7, .int 0, .int 0, .int 0, .int 0, .int 0, .int 0, .int 0, .int 0, .null])), (q1, .inl (T3.2.1, 4, .inl (fun _ => 0))), (q2, .inl (T3.2.1, 4, .inl (fun _ => 0))), (q3, .inl (T3.2.1, 4, .inl (fun _ => 0))), (q4, .inl (T3.2.1, 2, .inl (fun _ => 0))), (q5, .inl (T3.2.1, 2, .inl (fun _ => 0))), (q6, .inl (T3.2.2, 64, .inr (.inl (fun _ => 0)))), (q7, .inl (T3.2.2, 24, .inr (.inl (fun _ => 0)))), (q8, .inl (T3.2.2, 32, .inr (.inl (fun _ => 0))))] H := hP
  have hD : va_D A [(h0, .inr (5, [.ref q1, .ref q2, .ref q3, .ref q4, .ref q5, .ref q6, .int 0, .long 0, .int 0, .int 0, .int 0, .ref q7, .int 0, .int 0, .int 0, .int 0, .int 0, .int 0, .int 0, .int 0, .null])), (q1, .inl (T3.2.1, 4, .inl (fun _ => 0))), (q2, .inl (T3.2.1, 4, .inl (fun _ => 0))), (q3, .inl (T3.2.1, 4, .inl (fun _ => 0))), (q4, .inl (T3.2.1, 2, .inl (fun _ => 0))), (q5, .inl (T3.2.1, 2, .inl (fun _ => 0))), (q6, .inl (T3.2.2, 64, .inr (.inl (fun _ => 0)))), (q7, .inl (T3.2.2, 24, .inr (.inl (fun _ => 0)))), (q8, .inl (T3.2.2, 32, .inr (.inl (fun _ => 0))))] := hD
  refine W.widen (k := 8) (n := 136) (Nat.le_refl _) (Nat.le_refl _) ?_
  refine va_putF (D := D) (ci := 5) (v := .ref q8) (ty := .array .long) (C := "HalfFloatsModel") (T := T_M) (N := 21) hx hb hts (hx_up in_M) ty_M tyok_M nm_M hown hK hP hD hS 0 rfl rfl 20 (by decide) (hts _ (hx_cons _ k_576)) (fun _ h9 => h9) rfl hin rfl (by decide +kernel) rfl rfl (Nat.le_of_ble_eq_true rfl) d_M_init_60 (fun H locs hP hD hS => ?_)
  have hP : va_P D vwCl [(h0, .inr (5, [.ref q1, .ref q2, .ref q3, .ref q4, .ref q5, .ref q6, .int 0, .long 0, .int 0, .int 0, .int 0, .ref q7, .int 0, .int 0, .int 0, .int 0, .int 0, .int 0, .int 0, .int 0, .ref q8])), (q1, .inl (T3.2.1, 4, .inl (fun _ => 0))), (q2, .inl (T3.2.1, 4, .inl (fun _ => 0))), (q3, .inl (T3.2.1, 4, .inl (fun _ => 0))), (q4, .inl (T3.2.1, 2, .inl (fun _ => 0))), (q5, .inl (T3.2.1, 2, .inl (fun _ => 0))), (q6, .inl (T3.2.2, 64, .inr (.inl (fun _ => 0)))), (q7, .inl (T3.2.2, 24, .inr (.inl (fun _ => 0)))), (q8, .inl (T3.2.2, 32, .inr (.inl (fun _ => 0))))] H := hP
  have hD : va_D A [(h0, .inr (5, [.ref q1, .ref q2, .ref q3, .ref q4, .ref q5, .ref q6, .int 0, .long 0, .int 0, .int 0, .int 0, .ref q7, .int 0, .int 0, .int 0, .int 0, .int 0, .int 0, .int 0, .int 0, .ref q8])), (q1, .inl (T3.2.1, 4, .inl (fun _ => 0))), (q2, .inl (T3.2.1, 4, .inl (fun _ => 0))), (q3, .inl (T3.2.1, 4, .inl (fun _ => 0))), (q4, .inl (T3.2.1, 2, .inl (fun _ => 0))), (q5, .inl (T3.2.1, 2, .inl (fun _ => 0))), (q6, .inl (T3.2.2, 64, .inr (.inl (fun _ => 0)))), (q7, .inl (T3.2.2, 24, .inr (.inl (fun _ => 0)))), (q8, .inl (T3.2.2, 32, .inr (.inl (fun _ => 0))))] := hD
  have hP : va_P D vwCl (hm_W T3 (hx_ad [h0, q1, q2, q3, q4, q5, q6, q7, q8]) hm_zero) H := hP
  have hD : va_D A (hm_W T3 (hx_ad [h0, q1, q2, q3, q4, q5, q6, q7, q8]) hm_zero) := hD
  obtain ⟨bd, ebd⟩ : ∃ z : Nat → Nat, z = hx_ad [h0, q1, q2, q3, q4, q5, q6, q7, q8] := ⟨_, rfl⟩
  have hb0 : bd 0 = h0 := by rw [ebd]; rfl
  rw [← ebd] at hP hD
  obtain ⟨τ, eτ⟩ : ∃ z : hm_S, z = hm_zero := ⟨_, rfl⟩
  rw [← eτ] at hP hD h
  have hl : lv_has ls 1 [(0, .ref (bd 0))] := by rw [hb0]; exact hl
  rw [f_M_init] at h
  refine lv_aload_n hx hb d_M_init_63 rfl (lv_at hl 0 rfl) ?_
  refine lv_iconst (v := 0) hx hb d_M_init_64 (by decide) ?_
  refine lv_iconst (v := 5) hx hb d_M_init_65 (by decide) ?_
  refine lv_bipush (v := 10) hx hb d_M_init_66 (by decide) ?_
  refine lv_iconst (v := 0) hx hb d_M_init_68 (by decide) ?_
  obtain ⟨q1, eq1, h⟩ := hx_b1s h
  refine hx_wv (va_runV (As := [.int (0 : Int32), .int (5 : Int32), .int (10 : Int32), .int (0 : Int32)]) (rest := []) ⟨hx, hb, hml, hown, hts⟩ (c_M_set l D T3 bd _ τ (0 : Int32) (5 : Int32) (10 : Int32) (0 : Int32) _ eq1) (cwV 4 hts (hx_gV hx_cons k_552 k_554 k_22 k_55 k_555) rfl rfl rfl (by decide +kernel) ⟨Nat.le_of_ble_eq_true rfl, Nat.le_of_ble_eq_true rfl⟩) (hx_preVw (va_recv hK hP (ci := 5) (q0 := 0) rfl hm_at_M) hP hK hD) rfl rfl hl.1 rfl (lv_room (Nat.le_of_ble_eq_true rfl)) d_M_init_69 ⟨Nat.le_of_ble_eq_true rfl, Nat.le_of_ble_eq_true rfl⟩) hD hS hA (fun H locs hP hD hS => ?_)
  refine lv_aload_n hx hb d_M_init_72 rfl (lv_at hl 0 rfl) ?_
  refine lv_iconst (v := 1) hx hb d_M_init_73 (by decide) ?_
  refine lv_bipush (v := 8) hx hb d_M_init_74 (by decide) ?_
  refine lv_bipush (v := 7) hx hb d_M_init_76 (by decide) ?_
  refine lv_iconst (v := 0) hx hb d_M_init_78 (by decide) ?_
  obtain ⟨q2, eq2, h⟩ := hx_b1s h
  refine hx_wv (va_runV (As := [.int (1 : Int32), .int (8 : Int32), .int (7 : Int32), .int (0 : Int32)]) (rest := []) ⟨hx, hb, hml, hown, hts⟩ (c_M_set l D T3 bd _ q1 (1 : Int32) (8 : Int32) (7 : Int32) (0 : Int32) _ eq2) (cwV 4 hts (hx_gV hx_cons k_552 k_554 k_22 k_55 k_555) rfl rfl rfl (by decide +kernel) ⟨Nat.le_of_ble_eq_true rfl, Nat.le_of_ble_eq_true rfl⟩) (hx_preVw (va_recv hK hP (ci := 5) (q0 := 0) rfl hm_at_M) hP hK hD) rfl rfl hl.1 rfl (lv_room (Nat.le_of_ble_eq_true rfl)) d_M_init_79 ⟨Nat.le_of_ble_eq_true rfl, Nat.le_of_ble_eq_true rfl⟩) hD hS hA (fun H locs hP hD hS => ?_)
  refine lv_aload_n hx hb d_M_init_82 rfl (lv_at hl 0 rfl) ?_
  refine lv_iconst (v := 2) hx hb d_M_init_83 (by decide) ?_
  refine lv_bipush (v := 8) hx hb d_M_init_84 (by decide) ?_
  refine lv_bipush (v := 23) hx hb d_M_init_86 (by decide) ?_
  refine lv_iconst (v := 0) hx hb d_M_init_88 (by decide) ?_
  obtain ⟨q3, eq3, h⟩ := hx_b1s h
  refine hx_wv (va_runV (As := [.int (2 : Int32), .int (8 : Int32), .int (23 : Int32), .int (0 : Int32)]) (rest := []) ⟨hx, hb, hml, hown, hts⟩ (c_M_set l D T3 bd _ q2 (2 : Int32) (8 : Int32) (23 : Int32) (0 : Int32) _ eq3) (cwV 4 hts (hx_gV hx_cons k_552 k_554 k_22 k_55 k_555) rfl rfl rfl (by decide +kernel) ⟨Nat.le_of_ble_eq_true rfl, Nat.le_of_ble_eq_true rfl⟩) (hx_preVw (va_recv hK hP (ci := 5) (q0 := 0) rfl hm_at_M) hP hK hD) rfl rfl hl.1 rfl (lv_room (Nat.le_of_ble_eq_true rfl)) d_M_init_89 ⟨Nat.le_of_ble_eq_true rfl, Nat.le_of_ble_eq_true rfl⟩) hD hS hA (fun H locs hP hD hS => ?_)
  refine lv_aload_n hx hb d_M_init_92 rfl (lv_at hl 0 rfl) ?_
  refine lv_iconst (v := 3) hx hb d_M_init_93 (by decide) ?_
  refine lv_iconst (v := 4) hx hb d_M_init_94 (by decide) ?_
  refine lv_iconst (v := 3) hx hb d_M_init_95 (by decide) ?_
  refine lv_iconst (v := 1) hx hb d_M_init_96 (by decide) ?_
  obtain ⟨q4, eq4, h⟩ := hx_b1s h
  refine hx_wv (va_runV (As := [.int (3 : Int32), .int (4 : Int32), .int (3 : Int32), .int (1 : Int32)]) (rest := []) ⟨hx, hb, hml, hown, hts⟩ (c_M_set l D T3 bd _ q3 (3 : Int32) (4 : Int32) (3 : Int32) (1 : Int32) _ eq4) (cwV 4 hts (hx_gV hx_cons k_552 k_554 k_22 k_55 k_555) rfl rfl rfl (by decide +kernel) ⟨Nat.le_of_ble_eq_true rfl, Nat.le_of_ble_eq_true rfl⟩) (hx_preVw (va_recv hK hP (ci := 5) (q0 := 0) rfl hm_at_M) hP hK hD) rfl rfl hl.1 rfl (lv_room (Nat.le_of_ble_eq_true rfl)) d_M_init_97 ⟨Nat.le_of_ble_eq_true rfl, Nat.le_of_ble_eq_true rfl⟩) hD hS hA (fun H locs hP hD hS => ?_)
  refine lv_aload_n hx hb d_M_init_100 rfl (lv_at hl 0 rfl) ?_
  refine va_get (D := D) (ci := 5) (v := .ref (bd 4)) (C := "HalfFloatsModel") (T := T_M) (N := 21) hx hb hts (hx_up in_M) hown hK hP (0) hm_at_M rfl 3 (by decide) (hts _ (hx_cons _ k_559)) (fun _ h9 => h9) rfl d_M_init_101 ?_
  refine lv_iconst (v := 1) hx hb d_M_init_104 (by decide) ?_
  refine lv_iconst (v := 2) hx hb d_M_init_105 (by decide) ?_
  obtain ⟨g5, h⟩ := hx_gs h
  refine va_iast hx hb hK hP hD hS (4) 1 hm_at_rF rfl g5 d_M_init_106 (fun H locs hP hD hS => ?_)
  obtain ⟨σ6, eσ6⟩ : ∃ y : hm_S, y = (hm_rF_s q4 (1 : Int32).toNatClampNeg (2 : Int32)) := ⟨_, rfl⟩
  replace hP : va_P D vwCl (hm_W T3 bd σ6) H := by rw [eσ6]; exact hP
  replace hD : va_D A (hm_W T3 bd σ6) := by rw [eσ6]; exact hD
  replace h := hx_ns eσ6 h
  clear eσ6
  refine lv_aload_n hx hb d_M_init_107 rfl (lv_at hl 0 rfl) ?_
  refine lv_lconst (v := 1) hx hb d_M_init_108 rfl ?_
  refine va_put (D := D) (ci := 5) (v := .long (1 : Int64)) (ty := .long) (C := "HalfFloatsModel") (T := T_M) (N := 21) hx hb hts (hx_up in_M) ty_M tyok_M nm_M hown hK hP hD hS (0) hm_at_M rfl 7 (by decide) (hts _ (hx_cons _ k_563)) (fun _ h9 => h9) rfl (by decide +kernel) rfl rfl (Nat.le_of_ble_eq_true rfl) d_M_init_109 (fun H locs hP hD hS => ?_)
  obtain ⟨σ7, eσ7⟩ : ∃ y : hm_S, y = (hm_state_s σ6 (1 : Int64)) := ⟨_, rfl⟩
  replace hP : va_P D vwCl (hm_W T3 bd σ7) H := by rw [eσ7]; exact hP
  replace hD : va_D A (hm_W T3 bd σ7) := by rw [eσ7]; exact hD
  replace h := hx_ns eσ7 h
  clear eσ7
  refine lv_aload_n hx hb d_M_init_112 rfl (lv_at hl 0 rfl) ?_
  refine lv_iconst (v := 3) hx hb d_M_init_113 (by decide) ?_
  refine va_put (D := D) (ci := 5) (v := .int (3 : Int32)) (ty := .int) (C := "HalfFloatsModel") (T := T_M) (N := 21) hx hb hts (hx_up in_M) ty_M tyok_M nm_M hown hK hP hD hS (0) hm_at_M rfl 10 (by decide) (hts _ (hx_cons _ k_566)) (fun _ h9 => h9) rfl (by decide +kernel) rfl rfl (Nat.le_of_ble_eq_true rfl) d_M_init_114 (fun H locs hP hD hS => ?_)
  obtain ⟨σ8, eσ8⟩ : ∃ y : hm_S, y = (hm_growth_s σ7 (3 : Int32)) := ⟨_, rfl⟩
  replace hP : va_P D vwCl (hm_W T3 bd σ8) H := by rw [eσ8]; exact hP
  replace hD : va_D A (hm_W T3 bd σ8) := by rw [eσ8]; exact hD
  replace h := hx_ns eσ8 h
  clear eσ8
  exact W.vret hx hb hr (fun t ht hW => ⟨⟨bd, rfl, hb0, by cases h; rw [ht]; exact hP, va_K.moved hW.alike hK, by cases h; exact hD⟩, hS.F ht⟩) hS.2.2 d_M_init_117
