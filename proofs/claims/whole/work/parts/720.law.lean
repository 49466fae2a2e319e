theorem hx_K0 {s : State} {args : Array Value} (hts : ∀ w ∈ lw_tbl, w.before args s = true) : ∃ T3 : hx_T3, ∀ (k : Nat) (q : ClassId × FieldType), (hx_ty T3)[k]? = some q → ArrOfT s q.1 q.2 ∧ va_RA s q.1 q.2 := by
  obtain ⟨comp, cF, kF, h1, h2, h3, h4, h5⟩ := Cond.arrayOver_spec (hts _ k_69)
  obtain ⟨cI, kI, co2, i1, i2, i3⟩ := Cond.arrayClass_spec (hts _ (hx_low _ k_135))
  obtain ⟨cJ, kJ, co3, j1, j2, j3⟩ := Cond.arrayClass_spec (hts _ (hx_low _ k_188))
  refine ⟨(cF, cI, cJ), fun k q hq => ?_⟩
  match k, hq with
  | 0, hq => cases hq; exact ⟨fun N z => ⟨(fun k h => by cases h), kF, h3, comp, h4⟩, kF, comp, h3, h4, h1, h5⟩
  | 1, hq => cases hq; exact ⟨fun N z => ⟨(fun k h => by cases h), kI, i2, co2, i3⟩, i1⟩
  | 2, hq => cases hq; exact ⟨fun N z => ⟨(fun k h => by cases h), kJ, j2, co3, j3⟩, j1⟩
  | k + 3, hq => simp at hq
theorem hx_lc (r : Int64) : lg_cmp r r = 0 := by simp [lg_cmp]
theorem law_ix {L i : Nat} (hL : L ≤ 4096) (hi : i ≤ L) (h : ¬ (nI L - 8 < nI i)) : i + 8 ≤ L := by
  rw [Int32.lt_iff_toInt_lt, nI_toInt (by omega)] at h
  have h8 : (nI L - 8).toInt = (L : Int) - 8 := pk_sub_toInt (b := 8) (by omega) (by omega)
  rw [h8] at h
  omega
theorem law_in {L i k : Nat} (h : i + k < L) (hL : L ≤ 4096) : vp_in (nI i + nI k) L := by
  rw [nI_add]; exact vp_in_nI h (by omega)

set_option maxHeartbeats 16000000 in
set_option maxRecDepth 100000 in
theorem law_loop {p : Program} {l : Launch} {e : Env} {s : State} {m : MethodId} {below : List Frame} {meth : Method} {c : Code} {D : va_G} {T3 : hx_T3} {b L : Nat} {xs : Nat → Int32} (hL : L ≤ 4096) (C0 : lw_At p s m meth c b L xs) (hK : va_K D vwCl (hx_ty T3) s) (ad bd : Nat → Nat) :
    ∀ (n i : Nat) (x3 : Int32), i ≤ L → L + 1 ≤ i + n → x3 = nI i → ∀ (σ : hx_S) (τ : hm_S), hr_R σ τ → ∀ (H : Heap) (locs : List Loc), va_P D vwCl (hx_W T3 ad σ ++ hm_W T3 bd τ) H → va_D (fun q : Nat => s.heap.size ≤ q) (hx_W T3 ad σ ++ hm_W T3 bd τ) → va_S (fun q : Nat => s.heap.size ≤ q) s.heap H locs → ∀ (ls : Array Slot), lv_has ls 4 [(0, .ref b), (1, .ref (ad 0)), (2, .ref (bd 0)), (3, .int x3)] → W p l e room_1 s m #[Value.ref b] below meth c H locs 23 338 (lw_Z below #[Value.ref b] s) (F0 m 18 ls []) := by
  obtain ⟨hx, hb, hr, hml, hown, hts, hX, hbl, hlocks, hgv⟩ := C0
  have hA : ∀ q : Nat, s.heap.size ≤ q → (fun q : Nat => s.heap.size ≤ q) q := fun _ h => h
  have hbA : ¬ (fun q : Nat => s.heap.size ≤ q) b := Nat.not_le.mpr hbl
  intro n
  induction n with
  | zero =>
    intro i x3 h1 h2
    exact absurd h2 (by omega)
  | succ n ih =>
    intro i x3 hi hin ex3 σ τ hR H locs hP hD hS ls hl
    refine lv_iload_n hx hb d_L_law_18 rfl (lv_at hl 3 rfl) ?_
    refine lv_aload_n hx hb d_L_law_19 rfl (lv_at hl 0 rfl) ?_
    refine va_slen hx hb hX hbl hbA hS d_L_law_20 ?_
    refine lv_bipush (v := 8) hx hb d_L_law_21 (by decide) ?_
    refine lv_isub hx hb d_L_law_23 ?_
    refine lv_icmp_gt (tgt := 957) hx hb d_L_law_24 (by decide) (fun c1 => ?_) (fun c1 => ?_)
    · refine lv_iconst (v := 1) hx hb d_L_law_957 (by decide) ?_
      refine va_forget (fun q hq => hS.2.2 q hq) ?_
      exact lw_ret hx hb hr hlocks d_L_law_958
    · have hi8 : i + 8 ≤ L := law_ix hL hi (by rw [← ex3]; exact c1)
      have h0 : vp_in x3 L := by rw [ex3]; exact vp_in_nI (by omega) (by omega)
      have h1 : vp_in (x3 + 1) L := by rw [ex3]; exact law_in (k := 1) (by omega) hL
      have h2 : vp_in (x3 + 2) L := by rw [ex3]; exact law_in (k := 2) (by omega) hL
      have h3 : vp_in (x3 + 3) L := by rw [ex3]; exact law_in (k := 3) (by omega) hL
      have h4 : vp_in (x3 + 4) L := by rw [ex3]; exact law_in (k := 4) (by omega) hL
      have h5 : vp_in (x3 + 5) L := by rw [ex3]; exact law_in (k := 5) (by omega) hL
      have h6 : vp_in (x3 + 6) L := by rw [ex3]; exact law_in (k := 6) (by omega) hL
      have h7 : vp_in (x3 + 7) L := by rw [ex3]; exact law_in (k := 7) (by omega) hL
      have tail : ∀ (σ1 : hx_S) (τ1 : hm_S), hr_R σ1 τ1 → ∀ (H : Heap) (locs : List Loc), va_P D vwCl (hx_W T3 ad σ1 ++ hm_W T3 bd τ1) H → va_D (fun q : Nat => s.heap.size ≤ q) (hx_W T3 ad σ1 ++ hm_W T3 bd τ1) → va_S (fun q : Nat => s.heap.size ≤ q) s.heap H locs → W p l e room_1 s m #[Value.ref b] below meth c H locs 23 338 (lw_Z below #[Value.ref b] s) (F0 m 951 ls []) := by
        intro σ1 τ1 hR1 H locs hP hD hS
        obtain ⟨y3, ey3⟩ : ∃ y : Int32, y = x3 + 8 := ⟨_, rfl⟩
        refine lv_iinc (v := y3) (lv' := [(3, .int y3), (0, .ref b), (1, .ref (ad 0)), (2, .ref (bd 0))]) hx hb d_L_law_951 hl (k := 3) rfl (by rw [ey3]; rfl) (by decide) rfl (fun ls hl => ?_)
        refine lv_goto (tgt := 18) hx hb d_L_law_954 (by decide) ?_
        exact ih (i + 8) y3 hi8 (by omega) (by rw [ey3, ex3]; exact nI_add i 8) σ1 τ1 hR1 H locs hP hD hS ls (lv_sub hl [1, 2, 3, 0] rfl)
      refine lv_aload_n hx hb d_L_law_27 rfl (lv_at hl 0 rfl) ?_
      refine lv_iload_n hx hb d_L_law_28 rfl (lv_at hl 3 rfl) ?_
      refine va_sld hx hb hX hbl hbA hS h0 d_L_law_29 ?_
      refine lv_bipush (v := 31) hx hb d_L_law_30 (by decide) ?_
      refine lv_iand hx hb d_L_law_32 ?_
      refine lv_topi (fun v0 ev0 => ?_)
      by_cases c_0 : v0 = 0
      · refine lv_tableIn (tgt := 128) hx hb d_L_law_33 (by rw [c_0]; decide) (by rw [c_0]; decide) (by rw [c_0]; rfl) (by decide) ?_
        obtain ⟨r, σ1, τ1, e1, e2, hR1⟩ := sim_format hR (xs (x3 + 1).toNatClampNeg) (xs (x3 + 2).toNatClampNeg) (xs (x3 + 3).toNatClampNeg) (xs (x3 + 4).toNatClampNeg)
        refine lv_aload_n hx hb d_L_law_128 rfl (lv_at hl 1 rfl) ?_
        refine lv_aload_n hx hb d_L_law_129 rfl (lv_at hl 0 rfl) ?_
        refine lv_iload_n hx hb d_L_law_130 rfl (lv_at hl 3 rfl) ?_
        refine lv_iconst (v := 1) hx hb d_L_law_131 (by decide) ?_
        refine lv_iadd hx hb d_L_law_132 ?_
        refine va_sld hx hb hX hbl hbA hS h1 d_L_law_133 ?_
        refine lv_aload_n hx hb d_L_law_134 rfl (lv_at hl 0 rfl) ?_
        refine lv_iload_n hx hb d_L_law_135 rfl (lv_at hl 3 rfl) ?_
        refine lv_iconst (v := 2) hx hb d_L_law_136 (by decide) ?_
        refine lv_iadd hx hb d_L_law_137 ?_
        refine va_sld hx hb hX hbl hbA hS h2 d_L_law_138 ?_
        refine lv_aload_n hx hb d_L_law_139 rfl (lv_at hl 0 rfl) ?_
        refine lv_iload_n hx hb d_L_law_140 rfl (lv_at hl 3 rfl) ?_
        refine lv_iconst (v := 3) hx hb d_L_law_141 (by decide) ?_
        refine lv_iadd hx hb d_L_law_142 ?_
        refine va_sld hx hb hX hbl hbA hS h3 d_L_law_143 ?_
        refine lv_aload_n hx hb d_L_law_144 rfl (lv_at hl 0 rfl) ?_
        refine lv_iload_n hx hb d_L_law_145 rfl (lv_at hl 3 rfl) ?_
        refine lv_iconst (v := 4) hx hb d_L_law_146 (by decide) ?_
        refine lv_iadd hx hb d_L_law_147 ?_
        refine va_sld hx hb hX hbl hbA hS h4 d_L_law_148 ?_
        refine hx_wiA (va_runV (As := [.int (xs (x3 + 1).toNatClampNeg), .int (xs (x3 + 2).toNatClampNeg), .int (xs (x3 + 3).toNatClampNeg), .int (xs (x3 + 4).toNatClampNeg)]) (rest := []) ⟨hx, hb, hml, hown, hts⟩ (c_X_format l D T3 ad _ σ (xs (x3 + 1).toNatClampNeg) (xs (x3 + 2).toNatClampNeg) (xs (x3 + 3).toNatClampNeg) (xs (x3 + 4).toNatClampNeg) _ _ e1) (cwV 4 hts (hx_gV hx_low k_232 k_233 k_234 k_50 k_235) rfl rfl rfl (by decide +kernel) ⟨(Nat.le_of_ble_eq_true rfl), (Nat.le_of_ble_eq_true rfl)⟩) (hx_preVw (va_recv hK (hx_app_l hP) (ci := 0) (q0 := 0) rfl hx_at_X) (hx_app_l hP) hK (hx_D_l hD)) rfl rfl hl.1 rfl (lv_room (Nat.le_of_ble_eq_true rfl)) d_L_law_149 ⟨(Nat.le_of_ble_eq_true rfl), (Nat.le_of_ble_eq_true rfl)⟩) hP hD hS hA (fun H locs hP hD hS => ?_)
        refine lv_aload_n hx hb d_L_law_152 rfl (lv_at hl 2 rfl) ?_
        refine lv_aload_n hx hb d_L_law_153 rfl (lv_at hl 0 rfl) ?_
        refine lv_iload_n hx hb d_L_law_154 rfl (lv_at hl 3 rfl) ?_
        refine lv_iconst (v := 1) hx hb d_L_law_155 (by decide) ?_
        refine lv_iadd hx hb d_L_law_156 ?_
        refine va_sld hx hb hX hbl hbA hS h1 d_L_law_157 ?_
        refine lv_aload_n hx hb d_L_law_158 rfl (lv_at hl 0 rfl) ?_
        refine lv_iload_n hx hb d_L_law_159 rfl (lv_at hl 3 rfl) ?_
        refine lv_iconst (v := 2) hx hb d_L_law_160 (by decide) ?_
        refine lv_iadd hx hb d_L_law_161 ?_
        refine va_sld hx hb hX hbl hbA hS h2 d_L_law_162 ?_
        refine lv_aload_n hx hb d_L_law_163 rfl (lv_at hl 0 rfl) ?_
        refine lv_iload_n hx hb d_L_law_164 rfl (lv_at hl 3 rfl) ?_
        refine lv_iconst (v := 3) hx hb d_L_law_165 (by decide) ?_
        refine lv_iadd hx hb d_L_law_166 ?_
        refine va_sld hx hb hX hbl hbA hS h3 d_L_law_167 ?_
        refine lv_aload_n hx hb d_L_law_168 rfl (lv_at hl 0 rfl) ?_
        refine lv_iload_n hx hb d_L_law_169 rfl (lv_at hl 3 rfl) ?_
        refine lv_iconst (v := 4) hx hb d_L_law_170 (by decide) ?_
        refine lv_iadd hx hb d_L_law_171 ?_
        refine va_sld hx hb hX hbl hbA hS h4 d_L_law_172 ?_
        have hP := hx_swapP hP
        have hD := hx_swapD hD
        refine hx_wiA (va_runV (As := [.int (xs (x3 + 1).toNatClampNeg), .int (xs (x3 + 2).toNatClampNeg), .int (xs (x3 + 3).toNatClampNeg), .int (xs (x3 + 4).toNatClampNeg)]) (rest := [.int r]) ⟨hx, hb, hml, hown, hts⟩ (c_M_format l D T3 bd _ τ (xs (x3 + 1).toNatClampNeg) (xs (x3 + 2).toNatClampNeg) (xs (x3 + 3).toNatClampNeg) (xs (x3 + 4).toNatClampNeg) _ _ e2) (cwV 4 hts (hx_gV hx_low k_620 k_621 k_622 k_55 k_623) rfl rfl rfl (by decide +kernel) ⟨(Nat.le_of_ble_eq_true rfl), (Nat.le_of_ble_eq_true rfl)⟩) (hx_preVw (va_recv hK (hx_app_l hP) (ci := 5) (q0 := 0) rfl hm_at_M) (hx_app_l hP) hK (hx_D_l hD)) rfl rfl hl.1 rfl (lv_room (Nat.le_of_ble_eq_true rfl)) d_L_law_173 ⟨(Nat.le_of_ble_eq_true rfl), (Nat.le_of_ble_eq_true rfl)⟩) hP hD hS hA (fun H locs hP hD hS => ?_)
        have hP := hx_swapP hP
        have hD := hx_swapD hD
        refine lv_icmp_eq (tgt := 951) hx hb d_L_law_176 (by decide) (fun _ => ?_) (fun c9 => absurd rfl c9)
        exact tail σ1 τ1 hR1 _ _ hP hD hS
      by_cases c_1 : v0 = 1
      · refine lv_tableIn (tgt := 181) hx hb d_L_law_33 (by rw [c_1]; decide) (by rw [c_1]; decide) (by rw [c_1]; rfl) (by decide) ?_
        obtain ⟨r, e1, e2⟩ := sim_form hR (xs (x3 + 1).toNatClampNeg) (xs (x3 + 2).toNatClampNeg)
        refine lv_aload_n hx hb d_L_law_181 rfl (lv_at hl 1 rfl) ?_
        refine lv_aload_n hx hb d_L_law_182 rfl (lv_at hl 0 rfl) ?_
        refine lv_iload_n hx hb d_L_law_183 rfl (lv_at hl 3 rfl) ?_
        refine lv_iconst (v := 1) hx hb d_L_law_184 (by decide) ?_
        refine lv_iadd hx hb d_L_law_185 ?_
        refine va_sld hx hb hX hbl hbA hS h1 d_L_law_186 ?_
        refine lv_aload_n hx hb d_L_law_187 rfl (lv_at hl 0 rfl) ?_
        refine lv_iload_n hx hb d_L_law_188 rfl (lv_at hl 3 rfl) ?_
        refine lv_iconst (v := 2) hx hb d_L_law_189 (by decide) ?_
        refine lv_iadd hx hb d_L_law_190 ?_
        refine va_sld hx hb hX hbl hbA hS h2 d_L_law_191 ?_
        refine hx_rd (va_runV (As := [.int (xs (x3 + 1).toNatClampNeg), .int (xs (x3 + 2).toNatClampNeg)]) (rest := []) ⟨hx, hb, hml, hown, hts⟩ (c_X_form l D T3 ad σ (xs (x3 + 1).toNatClampNeg) (xs (x3 + 2).toNatClampNeg) _ e1) (cwV 2 hts (hx_gV hx_low k_244 k_245 k_246 k_50 k_247) rfl rfl rfl (by decide +kernel) ⟨(Nat.le_of_ble_eq_true rfl), (Nat.le_of_ble_eq_true rfl)⟩) (hx_preV (va_recv hK (hx_app_l hP) (ci := 0) (q0 := 0) rfl hx_at_X) (hx_app_l hP) hK) rfl rfl hl.1 rfl (lv_room (Nat.le_of_ble_eq_true rfl)) d_L_law_192 ⟨(Nat.le_of_ble_eq_true rfl), (Nat.le_of_ble_eq_true rfl)⟩) ?_
        refine lv_aload_n hx hb d_L_law_195 rfl (lv_at hl 2 rfl) ?_
        refine lv_aload_n hx hb d_L_law_196 rfl (lv_at hl 0 rfl) ?_
        refine lv_iload_n hx hb d_L_law_197 rfl (lv_at hl 3 rfl) ?_
        refine lv_iconst (v := 1) hx hb d_L_law_198 (by decide) ?_
        refine lv_iadd hx hb d_L_law_199 ?_
        refine va_sld hx hb hX hbl hbA hS h1 d_L_law_200 ?_
        refine lv_aload_n hx hb d_L_law_201 rfl (lv_at hl 0 rfl) ?_
        refine lv_iload_n hx hb d_L_law_202 rfl (lv_at hl 3 rfl) ?_
        refine lv_iconst (v := 2) hx hb d_L_law_203 (by decide) ?_
        refine lv_iadd hx hb d_L_law_204 ?_
        refine va_sld hx hb hX hbl hbA hS h2 d_L_law_205 ?_
        have hP := hx_swapP hP
        have hD := hx_swapD hD
        refine hx_rd (va_runV (As := [.int (xs (x3 + 1).toNatClampNeg), .int (xs (x3 + 2).toNatClampNeg)]) (rest := [.int r]) ⟨hx, hb, hml, hown, hts⟩ (c_M_form l D T3 bd τ (xs (x3 + 1).toNatClampNeg) (xs (x3 + 2).toNatClampNeg) _ e2) (cwV 2 hts (hx_gV hx_low k_634 k_635 k_636 k_55 k_637) rfl rfl rfl (by decide +kernel) ⟨(Nat.le_of_ble_eq_true rfl), (Nat.le_of_ble_eq_true rfl)⟩) (hx_preV (va_recv hK (hx_app_l hP) (ci := 5) (q0 := 0) rfl hm_at_M) (hx_app_l hP) hK) rfl rfl hl.1 rfl (lv_room (Nat.le_of_ble_eq_true rfl)) d_L_law_206 ⟨(Nat.le_of_ble_eq_true rfl), (Nat.le_of_ble_eq_true rfl)⟩) ?_
        have hP := hx_swapP hP
        have hD := hx_swapD hD
        refine lv_icmp_eq (tgt := 951) hx hb d_L_law_209 (by decide) (fun _ => ?_) (fun c9 => absurd rfl c9)
        exact tail σ τ hR _ _ hP hD hS
      by_cases c_2 : v0 = 2
      · refine lv_tableIn (tgt := 214) hx hb d_L_law_33 (by rw [c_2]; decide) (by rw [c_2]; decide) (by rw [c_2]; rfl) (by decide) ?_
        obtain ⟨r, e1, e2⟩ := sim_part hR (xs (x3 + 1).toNatClampNeg) (xs (x3 + 2).toNatClampNeg) (xs (x3 + 3).toNatClampNeg)
        refine lv_aload_n hx hb d_L_law_214 rfl (lv_at hl 1 rfl) ?_
        refine lv_aload_n hx hb d_L_law_215 rfl (lv_at hl 0 rfl) ?_
        refine lv_iload_n hx hb d_L_law_216 rfl (lv_at hl 3 rfl) ?_
        refine lv_iconst (v := 1) hx hb d_L_law_217 (by decide) ?_
        refine lv_iadd hx hb d_L_law_218 ?_
        refine va_sld hx hb hX hbl hbA hS h1 d_L_law_219 ?_
        refine lv_aload_n hx hb d_L_law_220 rfl (lv_at hl 0 rfl) ?_
        refine lv_iload_n hx hb d_L_law_221 rfl (lv_at hl 3 rfl) ?_
        refine lv_iconst (v := 2) hx hb d_L_law_222 (by decide) ?_
        refine lv_iadd hx hb d_L_law_223 ?_
        refine va_sld hx hb hX hbl hbA hS h2 d_L_law_224 ?_
        refine lv_aload_n hx hb d_L_law_225 rfl (lv_at hl 0 rfl) ?_
        refine lv_iload_n hx hb d_L_law_226 rfl (lv_at hl 3 rfl) ?_
        refine lv_iconst (v := 3) hx hb d_L_law_227 (by decide) ?_
        refine lv_iadd hx hb d_L_law_228 ?_
        refine va_sld hx hb hX hbl hbA hS h3 d_L_law_229 ?_
        refine hx_rd (va_runV (As := [.int (xs (x3 + 1).toNatClampNeg), .int (xs (x3 + 2).toNatClampNeg), .int (xs (x3 + 3).toNatClampNeg)]) (rest := []) ⟨hx, hb, hml, hown, hts⟩ (c_X_part l D T3 ad σ (xs (x3 + 1).toNatClampNeg) (xs (x3 + 2).toNatClampNeg) (xs (x3 + 3).toNatClampNeg) _ e1) (cwV 3 hts (hx_gV hx_low k_248 k_249 k_250 k_50 k_251) rfl rfl rfl (by decide +kernel) ⟨(Nat.le_of_ble_eq_true rfl), (Nat.le_of_ble_eq_true rfl)⟩) (hx_preV (va_recv hK (hx_app_l hP) (ci := 0) (q0 := 0) rfl hx_at_X) (hx_app_l hP) hK) rfl rfl hl.1 rfl (lv_room (Nat.le_of_ble_eq_true rfl)) d_L_law_230 ⟨(Nat.le_of_ble_eq_true rfl), (Nat.le_of_ble_eq_true rfl)⟩) ?_
        refine lv_aload_n hx hb d_L_law_233 rfl (lv_at hl 2 rfl) ?_
        refine lv_aload_n hx hb d_L_law_234 rfl (lv_at hl 0 rfl) ?_
        refine lv_iload_n hx hb d_L_law_235 rfl (lv_at hl 3 rfl) ?_
        refine lv_iconst (v := 1) hx hb d_L_law_236 (by decide) ?_
        refine lv_iadd hx hb d_L_law_237 ?_
        refine va_sld hx hb hX hbl hbA hS h1 d_L_law_238 ?_
        refine lv_aload_n hx hb d_L_law_239 rfl (lv_at hl 0 rfl) ?_
        refine lv_iload_n hx hb d_L_law_240 rfl (lv_at hl 3 rfl) ?_
        refine lv_iconst (v := 2) hx hb d_L_law_241 (by decide) ?_
        refine lv_iadd hx hb d_L_law_242 ?_
        refine va_sld hx hb hX hbl hbA hS h2 d_L_law_243 ?_
        refine lv_aload_n hx hb d_L_law_244 rfl (lv_at hl 0 rfl) ?_
        refine lv_iload_n hx hb d_L_law_245 rfl (lv_at hl 3 rfl) ?_
        refine lv_iconst (v := 3) hx hb d_L_law_246 (by decide) ?_
        refine lv_iadd hx hb d_L_law_247 ?_
        refine va_sld hx hb hX hbl hbA hS h3 d_L_law_248 ?_
        have hP := hx_swapP hP
        have hD := hx_swapD hD
        refine hx_rd (va_runV (As := [.int (xs (x3 + 1).toNatClampNeg), .int (xs (x3 + 2).toNatClampNeg), .int (xs (x3 + 3).toNatClampNeg)]) (rest := [.int r]) ⟨hx, hb, hml, hown, hts⟩ (c_M_part l D T3 bd τ (xs (x3 + 1).toNatClampNeg) (xs (x3 + 2).toNatClampNeg) (xs (x3 + 3).toNatClampNeg) _ e2) (cwV 3 hts (hx_gV hx_low k_651 k_652 k_653 k_55 k_654) rfl rfl rfl (by decide +kernel) ⟨(Nat.le_of_ble_eq_true rfl), (Nat.le_of_ble_eq_true rfl)⟩) (hx_preV (va_recv hK (hx_app_l hP) (ci := 5) (q0 := 0) rfl hm_at_M) (hx_app_l hP) hK) rfl rfl hl.1 rfl (lv_room (Nat.le_of_ble_eq_true rfl)) d_L_law_249 ⟨(Nat.le_of_ble_eq_true rfl), (Nat.le_of_ble_eq_true rfl)⟩) ?_
        have hP := hx_swapP hP
        have hD := hx_swapD hD
        refine lv_icmp_eq (tgt := 951) hx hb d_L_law_252 (by decide) (fun _ => ?_) (fun c9 => absurd rfl c9)
        exact tail σ τ hR _ _ hP hD hS
      by_cases c_3 : v0 = 3
      · refine lv_tableIn (tgt := 257) hx hb d_L_law_33 (by rw [c_3]; decide) (by rw [c_3]; decide) (by rw [c_3]; rfl) (by decide) ?_
        obtain ⟨r, σ1, τ1, e1, e2, hR1⟩ := sim_turn hR (xs (x3 + 1).toNatClampNeg) (xs (x3 + 2).toNatClampNeg) (xs (x3 + 3).toNatClampNeg) (xs (x3 + 4).toNatClampNeg)
        refine lv_aload_n hx hb d_L_law_257 rfl (lv_at hl 1 rfl) ?_
        refine lv_aload_n hx hb d_L_law_258 rfl (lv_at hl 0 rfl) ?_
        refine lv_iload_n hx hb d_L_law_259 rfl (lv_at hl 3 rfl) ?_
        refine lv_iconst (v := 1) hx hb d_L_law_260 (by decide) ?_
        refine lv_iadd hx hb d_L_law_261 ?_
        refine va_sld hx hb hX hbl hbA hS h1 d_L_law_262 ?_
        refine lv_aload_n hx hb d_L_law_263 rfl (lv_at hl 0 rfl) ?_
        refine lv_iload_n hx hb d_L_law_264 rfl (lv_at hl 3 rfl) ?_
        refine lv_iconst (v := 2) hx hb d_L_law_265 (by decide) ?_
        refine lv_iadd hx hb d_L_law_266 ?_
        refine va_sld hx hb hX hbl hbA hS h2 d_L_law_267 ?_
        refine lv_aload_n hx hb d_L_law_268 rfl (lv_at hl 0 rfl) ?_
        refine lv_iload_n hx hb d_L_law_269 rfl (lv_at hl 3 rfl) ?_
        refine lv_iconst (v := 3) hx hb d_L_law_270 (by decide) ?_
        refine lv_iadd hx hb d_L_law_271 ?_
        refine va_sld hx hb hX hbl hbA hS h3 d_L_law_272 ?_
        refine lv_aload_n hx hb d_L_law_273 rfl (lv_at hl 0 rfl) ?_
        refine lv_iload_n hx hb d_L_law_274 rfl (lv_at hl 3 rfl) ?_
        refine lv_iconst (v := 4) hx hb d_L_law_275 (by decide) ?_
        refine lv_iadd hx hb d_L_law_276 ?_
        refine va_sld hx hb hX hbl hbA hS h4 d_L_law_277 ?_
        refine hx_wjA (va_runV (As := [.int (xs (x3 + 1).toNatClampNeg), .int (xs (x3 + 2).toNatClampNeg), .int (xs (x3 + 3).toNatClampNeg), .int (xs (x3 + 4).toNatClampNeg)]) (rest := []) ⟨hx, hb, hml, hown, hts⟩ (c_X_turn l D T3 ad _ σ (xs (x3 + 1).toNatClampNeg) (xs (x3 + 2).toNatClampNeg) (xs (x3 + 3).toNatClampNeg) (xs (x3 + 4).toNatClampNeg) _ _ e1) (cwV 4 hts (hx_gV hx_low k_284 k_285 k_286 k_50 k_287) rfl rfl rfl (by decide +kernel) ⟨(Nat.le_of_ble_eq_true rfl), (Nat.le_of_ble_eq_true rfl)⟩) (hx_preVw (va_recv hK (hx_app_l hP) (ci := 0) (q0 := 0) rfl hx_at_X) (hx_app_l hP) hK (hx_D_l hD)) rfl rfl hl.1 rfl (lv_room (Nat.le_of_ble_eq_true rfl)) d_L_law_278 ⟨(Nat.le_of_ble_eq_true rfl), (Nat.le_of_ble_eq_true rfl)⟩) hP hD hS hA (fun H locs hP hD hS => ?_)
        refine lv_aload_n hx hb d_L_law_281 rfl (lv_at hl 2 rfl) ?_
        refine lv_aload_n hx hb d_L_law_282 rfl (lv_at hl 0 rfl) ?_
        refine lv_iload_n hx hb d_L_law_283 rfl (lv_at hl 3 rfl) ?_
        refine lv_iconst (v := 1) hx hb d_L_law_284 (by decide) ?_
        refine lv_iadd hx hb d_L_law_285 ?_
        refine va_sld hx hb hX hbl hbA hS h1 d_L_law_286 ?_
        refine lv_aload_n hx hb d_L_law_287 rfl (lv_at hl 0 rfl) ?_
        refine lv_iload_n hx hb d_L_law_288 rfl (lv_at hl 3 rfl) ?_
        refine lv_iconst (v := 2) hx hb d_L_law_289 (by decide) ?_
        refine lv_iadd hx hb d_L_law_290 ?_
        refine va_sld hx hb hX hbl hbA hS h2 d_L_law_291 ?_
        refine lv_aload_n hx hb d_L_law_292 rfl (lv_at hl 0 rfl) ?_
        refine lv_iload_n hx hb d_L_law_293 rfl (lv_at hl 3 rfl) ?_
        refine lv_iconst (v := 3) hx hb d_L_law_294 (by decide) ?_
        refine lv_iadd hx hb d_L_law_295 ?_
        refine va_sld hx hb hX hbl hbA hS h3 d_L_law_296 ?_
        refine lv_aload_n hx hb d_L_law_297 rfl (lv_at hl 0 rfl) ?_
        refine lv_iload_n hx hb d_L_law_298 rfl (lv_at hl 3 rfl) ?_
        refine lv_iconst (v := 4) hx hb d_L_law_299 (by decide) ?_
        refine lv_iadd hx hb d_L_law_300 ?_
        refine va_sld hx hb hX hbl hbA hS h4 d_L_law_301 ?_
        have hP := hx_swapP hP
        have hD := hx_swapD hD
        refine hx_wjA (va_runV (As := [.int (xs (x3 + 1).toNatClampNeg), .int (xs (x3 + 2).toNatClampNeg), .int (xs (x3 + 3).toNatClampNeg), .int (xs (x3 + 4).toNatClampNeg)]) (rest := [.long r]) ⟨hx, hb, hml, hown, hts⟩ (c_M_turn l D T3 bd _ τ (xs (x3 + 1).toNatClampNeg) (xs (x3 + 2).toNatClampNeg) (xs (x3 + 3).toNatClampNeg) (xs (x3 + 4).toNatClampNeg) _ _ e2) (cwV 4 hts (hx_gV hx_low k_686 k_687 k_688 k_55 k_689) rfl rfl rfl (by decide +kernel) ⟨(Nat.le_of_ble_eq_true rfl), (Nat.le_of_ble_eq_true rfl)⟩) (hx_preVw (va_recv hK (hx_app_l hP) (ci := 5) (q0 := 0) rfl hm_at_M) (hx_app_l hP) hK (hx_D_l hD)) rfl rfl hl.1 rfl (lv_room (Nat.le_of_ble_eq_true rfl)) d_L_law_302 ⟨(Nat.le_of_ble_eq_true rfl), (Nat.le_of_ble_eq_true rfl)⟩) hP hD hS hA (fun H locs hP hD hS => ?_)
        have hP := hx_swapP hP
        have hD := hx_swapD hD
        refine W.lcmp hx hb d_L_law_305 ?_
        refine lv_if_eq (tgt := 951) hx hb d_L_law_306 (by decide) (fun _ => ?_) (fun c9 => absurd (hx_lc r) c9)
        exact tail σ1 τ1 hR1 _ _ hP hD hS
      by_cases c_4 : v0 = 4
      · refine lv_tableIn (tgt := 311) hx hb d_L_law_33 (by rw [c_4]; decide) (by rw [c_4]; decide) (by rw [c_4]; rfl) (by decide) ?_
        obtain ⟨r, σ1, τ1, e1, e2, hR1⟩ := sim_reckon hR (xs (x3 + 1).toNatClampNeg) (xs (x3 + 2).toNatClampNeg) (xs (x3 + 3).toNatClampNeg) (xs (x3 + 4).toNatClampNeg) (xs (x3 + 5).toNatClampNeg) (xs (x3 + 6).toNatClampNeg) (xs (x3 + 7).toNatClampNeg)
        refine lv_aload_n hx hb d_L_law_311 rfl (lv_at hl 1 rfl) ?_
        refine lv_aload_n hx hb d_L_law_312 rfl (lv_at hl 0 rfl) ?_
        refine lv_iload_n hx hb d_L_law_313 rfl (lv_at hl 3 rfl) ?_
        refine lv_iconst (v := 1) hx hb d_L_law_314 (by decide) ?_
        refine lv_iadd hx hb d_L_law_315 ?_
        refine va_sld hx hb hX hbl hbA hS h1 d_L_law_316 ?_
        refine lv_aload_n hx hb d_L_law_317 rfl (lv_at hl 0 rfl) ?_
        refine lv_iload_n hx hb d_L_law_318 rfl (lv_at hl 3 rfl) ?_
        refine lv_iconst (v := 2) hx hb d_L_law_319 (by decide) ?_
        refine lv_iadd hx hb d_L_law_320 ?_
        refine va_sld hx hb hX hbl hbA hS h2 d_L_law_321 ?_
        refine lv_aload_n hx hb d_L_law_322 rfl (lv_at hl 0 rfl) ?_
        refine lv_iload_n hx hb d_L_law_323 rfl (lv_at hl 3 rfl) ?_
        refine lv_iconst (v := 3) hx hb d_L_law_324 (by decide) ?_
        refine lv_iadd hx hb d_L_law_325 ?_
        refine va_sld hx hb hX hbl hbA hS h3 d_L_law_326 ?_
        refine lv_aload_n hx hb d_L_law_327 rfl (lv_at hl 0 rfl) ?_
        refine lv_iload_n hx hb d_L_law_328 rfl (lv_at hl 3 rfl) ?_
        refine lv_iconst (v := 4) hx hb d_L_law_329 (by decide) ?_
        refine lv_iadd hx hb d_L_law_330 ?_
        refine va_sld hx hb hX hbl hbA hS h4 d_L_law_331 ?_
        refine lv_aload_n hx hb d_L_law_332 rfl (lv_at hl 0 rfl) ?_
        refine lv_iload_n hx hb d_L_law_333 rfl (lv_at hl 3 rfl) ?_
        refine lv_iconst (v := 5) hx hb d_L_law_334 (by decide) ?_
        refine lv_iadd hx hb d_L_law_335 ?_
        refine va_sld hx hb hX hbl hbA hS h5 d_L_law_336 ?_
        refine lv_aload_n hx hb d_L_law_337 rfl (lv_at hl 0 rfl) ?_
        refine lv_iload_n hx hb d_L_law_338 rfl (lv_at hl 3 rfl) ?_
        refine lv_bipush (v := 6) hx hb d_L_law_339 (by decide) ?_
        refine lv_iadd hx hb d_L_law_341 ?_
        refine va_sld hx hb hX hbl hbA hS h6 d_L_law_342 ?_
        refine lv_aload_n hx hb d_L_law_343 rfl (lv_at hl 0 rfl) ?_
        refine lv_iload_n hx hb d_L_law_344 rfl (lv_at hl 3 rfl) ?_
        refine lv_bipush (v := 7) hx hb d_L_law_345 (by decide) ?_
        refine lv_iadd hx hb d_L_law_347 ?_
        refine va_sld hx hb hX hbl hbA hS h7 d_L_law_348 ?_
        refine hx_wjA (va_runV (As := [.int (xs (x3 + 1).toNatClampNeg), .int (xs (x3 + 2).toNatClampNeg), .int (xs (x3 + 3).toNatClampNeg), .int (xs (x3 + 4).toNatClampNeg), .int (xs (x3 + 5).toNatClampNeg), .int (xs (x3 + 6).toNatClampNeg), .int (xs (x3 + 7).toNatClampNeg)]) (rest := []) ⟨hx, hb, hml, hown, hts⟩ (c_X_reckon l D T3 ad _ σ (xs (x3 + 1).toNatClampNeg) (xs (x3 + 2).toNatClampNeg) (xs (x3 + 3).toNatClampNeg) (xs (x3 + 4).toNatClampNeg) (xs (x3 + 5).toNatClampNeg) (xs (x3 + 6).toNatClampNeg) (xs (x3 + 7).toNatClampNeg) _ _ e1) (cwV 7 hts (hx_gV hx_low k_346 k_347 k_348 k_50 k_349) rfl rfl rfl (by decide +kernel) ⟨(Nat.le_of_ble_eq_true rfl), (Nat.le_of_ble_eq_true rfl)⟩) (hx_preVw (va_recv hK (hx_app_l hP) (ci := 0) (q0 := 0) rfl hx_at_X) (hx_app_l hP) hK (hx_D_l hD)) rfl rfl hl.1 rfl (lv_room (Nat.le_of_ble_eq_true rfl)) d_L_law_349 ⟨(Nat.le_of_ble_eq_true rfl), (Nat.le_of_ble_eq_true rfl)⟩) hP hD hS hA (fun H locs hP hD hS => ?_)
        refine lv_aload_n hx hb d_L_law_352 rfl (lv_at hl 2 rfl) ?_
        refine lv_aload_n hx hb d_L_law_353 rfl (lv_at hl 0 rfl) ?_
        refine lv_iload_n hx hb d_L_law_354 rfl (lv_at hl 3 rfl) ?_
        refine lv_iconst (v := 1) hx hb d_L_law_355 (by decide) ?_
        refine lv_iadd hx hb d_L_law_356 ?_
        refine va_sld hx hb hX hbl hbA hS h1 d_L_law_357 ?_
        refine lv_aload_n hx hb d_L_law_358 rfl (lv_at hl 0 rfl) ?_
        refine lv_iload_n hx hb d_L_law_359 rfl (lv_at hl 3 rfl) ?_
        refine lv_iconst (v := 2) hx hb d_L_law_360 (by decide) ?_
        refine lv_iadd hx hb d_L_law_361 ?_
        refine va_sld hx hb hX hbl hbA hS h2 d_L_law_362 ?_
        refine lv_aload_n hx hb d_L_law_363 rfl (lv_at hl 0 rfl) ?_
        refine lv_iload_n hx hb d_L_law_364 rfl (lv_at hl 3 rfl) ?_
        refine lv_iconst (v := 3) hx hb d_L_law_365 (by decide) ?_
        refine lv_iadd hx hb d_L_law_366 ?_
        refine va_sld hx hb hX hbl hbA hS h3 d_L_law_367 ?_
        refine lv_aload_n hx hb d_L_law_368 rfl (lv_at hl 0 rfl) ?_
        refine lv_iload_n hx hb d_L_law_369 rfl (lv_at hl 3 rfl) ?_
        refine lv_iconst (v := 4) hx hb d_L_law_370 (by decide) ?_
        refine lv_iadd hx hb d_L_law_371 ?_
        refine va_sld hx hb hX hbl hbA hS h4 d_L_law_372 ?_
        refine lv_aload_n hx hb d_L_law_373 rfl (lv_at hl 0 rfl) ?_
        refine lv_iload_n hx hb d_L_law_374 rfl (lv_at hl 3 rfl) ?_
        refine lv_iconst (v := 5) hx hb d_L_law_375 (by decide) ?_
        refine lv_iadd hx hb d_L_law_376 ?_
        refine va_sld hx hb hX hbl hbA hS h5 d_L_law_377 ?_
        refine lv_aload_n hx hb d_L_law_378 rfl (lv_at hl 0 rfl) ?_
        refine lv_iload_n hx hb d_L_law_379 rfl (lv_at hl 3 rfl) ?_
        refine lv_bipush (v := 6) hx hb d_L_law_380 (by decide) ?_
        refine lv_iadd hx hb d_L_law_382 ?_
        refine va_sld hx hb hX hbl hbA hS h6 d_L_law_383 ?_
        refine lv_aload_n hx hb d_L_law_384 rfl (lv_at hl 0 rfl) ?_
        refine lv_iload_n hx hb d_L_law_385 rfl (lv_at hl 3 rfl) ?_
        refine lv_bipush (v := 7) hx hb d_L_law_386 (by decide) ?_
        refine lv_iadd hx hb d_L_law_388 ?_
        refine va_sld hx hb hX hbl hbA hS h7 d_L_law_389 ?_
        have hP := hx_swapP hP
        have hD := hx_swapD hD
        refine hx_wjA (va_runV (As := [.int (xs (x3 + 1).toNatClampNeg), .int (xs (x3 + 2).toNatClampNeg), .int (xs (x3 + 3).toNatClampNeg), .int (xs (x3 + 4).toNatClampNeg), .int (xs (x3 + 5).toNatClampNeg), .int (xs (x3 + 6).toNatClampNeg), .int (xs (x3 + 7).toNatClampNeg)]) (rest := [.long r]) ⟨hx, hb, hml, hown, hts⟩ (c_M_reckon l D T3 bd _ τ (xs (x3 + 1).toNatClampNeg) (xs (x3 + 2).toNatClampNeg) (xs (x3 + 3).toNatClampNeg) (xs (x3 + 4).toNatClampNeg) (xs (x3 + 5).toNatClampNeg) (xs (x3 + 6).toNatClampNeg) (xs (x3 + 7).toNatClampNeg) _ _ e2) (cwV 7 hts (hx_gV hx_low k_748 k_749 k_750 k_55 k_751) rfl rfl rfl (by decide +kernel) ⟨(Nat.le_of_ble_eq_true rfl), (Nat.le_of_ble_eq_true rfl)⟩) (hx_preVw (va_recv hK (hx_app_l hP) (ci := 5) (q0 := 0) rfl hm_at_M) (hx_app_l hP) hK (hx_D_l hD)) rfl rfl hl.1 rfl (lv_room (Nat.le_of_ble_eq_true rfl)) d_L_law_390 ⟨(Nat.le_of_ble_eq_true rfl), (Nat.le_of_ble_eq_true rfl)⟩) hP hD hS hA (fun H locs hP hD hS => ?_)
        have hP := hx_swapP hP
        have hD := hx_swapD hD
        refine W.lcmp hx hb d_L_law_393 ?_
        refine lv_if_eq (tgt := 951) hx hb d_L_law_394 (by decide) (fun _ => ?_) (fun c9 => absurd (hx_lc r) c9)
        exact tail σ1 τ1 hR1 _ _ hP hD hS
      by_cases c_5 : v0 = 5
      · refine lv_tableIn (tgt := 399) hx hb d_L_law_33 (by rw [c_5]; decide) (by rw [c_5]; decide) (by rw [c_5]; rfl) (by decide) ?_
        obtain ⟨r, σ1, τ1, e1, e2, hR1⟩ := sim_fused hR (xs (x3 + 1).toNatClampNeg) (xs (x3 + 2).toNatClampNeg) (xs (x3 + 3).toNatClampNeg) (xs (x3 + 4).toNatClampNeg) (xs (x3 + 5).toNatClampNeg) (xs (x3 + 6).toNatClampNeg)
        refine lv_aload_n hx hb d_L_law_399 rfl (lv_at hl 1 rfl) ?_
        refine lv_aload_n hx hb d_L_law_400 rfl (lv_at hl 0 rfl) ?_
        refine lv_iload_n hx hb d_L_law_401 rfl (lv_at hl 3 rfl) ?_
        refine lv_iconst (v := 1) hx hb d_L_law_402 (by decide) ?_
        refine lv_iadd hx hb d_L_law_403 ?_
        refine va_sld hx hb hX hbl hbA hS h1 d_L_law_404 ?_
        refine lv_aload_n hx hb d_L_law_405 rfl (lv_at hl 0 rfl) ?_
        refine lv_iload_n hx hb d_L_law_406 rfl (lv_at hl 3 rfl) ?_
        refine lv_iconst (v := 2) hx hb d_L_law_407 (by decide) ?_
        refine lv_iadd hx hb d_L_law_408 ?_
        refine va_sld hx hb hX hbl hbA hS h2 d_L_law_409 ?_
        refine lv_aload_n hx hb d_L_law_410 rfl (lv_at hl 0 rfl) ?_
        refine lv_iload_n hx hb d_L_law_411 rfl (lv_at hl 3 rfl) ?_
        refine lv_iconst (v := 3) hx hb d_L_law_412 (by decide) ?_
        refine lv_iadd hx hb d_L_law_413 ?_
        refine va_sld hx hb hX hbl hbA hS h3 d_L_law_414 ?_
        refine lv_aload_n hx hb d_L_law_415 rfl (lv_at hl 0 rfl) ?_
        refine lv_iload_n hx hb d_L_law_416 rfl (lv_at hl 3 rfl) ?_
        refine lv_iconst (v := 4) hx hb d_L_law_417 (by decide) ?_
        refine lv_iadd hx hb d_L_law_418 ?_
        refine va_sld hx hb hX hbl hbA hS h4 d_L_law_419 ?_
        refine lv_aload_n hx hb d_L_law_420 rfl (lv_at hl 0 rfl) ?_
        refine lv_iload_n hx hb d_L_law_421 rfl (lv_at hl 3 rfl) ?_
        refine lv_iconst (v := 5) hx hb d_L_law_422 (by decide) ?_
        refine lv_iadd hx hb d_L_law_423 ?_
        refine va_sld hx hb hX hbl hbA hS h5 d_L_law_424 ?_
        refine lv_aload_n hx hb d_L_law_425 rfl (lv_at hl 0 rfl) ?_
        refine lv_iload_n hx hb d_L_law_426 rfl (lv_at hl 3 rfl) ?_
        refine lv_bipush (v := 6) hx hb d_L_law_427 (by decide) ?_
        refine lv_iadd hx hb d_L_law_429 ?_
        refine va_sld hx hb hX hbl hbA hS h6 d_L_law_430 ?_
        refine hx_wjA (va_runV (As := [.int (xs (x3 + 1).toNatClampNeg), .int (xs (x3 + 2).toNatClampNeg), .int (xs (x3 + 3).toNatClampNeg), .int (xs (x3 + 4).toNatClampNeg), .int (xs (x3 + 5).toNatClampNeg), .int (xs (x3 + 6).toNatClampNeg)]) (rest := []) ⟨hx, hb, hml, hown, hts⟩ (c_X_fused l D T3 ad _ σ (xs (x3 + 1).toNatClampNeg) (xs (x3 + 2).toNatClampNeg) (xs (x3 + 3).toNatClampNeg) (xs (x3 + 4).toNatClampNeg) (xs (x3 + 5).toNatClampNeg) (xs (x3 + 6).toNatClampNeg) _ _ e1) (cwV 6 hts (hx_gV hx_low k_405 k_406 k_407 k_50 k_408) rfl rfl rfl (by decide +kernel) ⟨(Nat.le_of_ble_eq_true rfl), (Nat.le_of_ble_eq_true rfl)⟩) (hx_preVw (va_recv hK (hx_app_l hP) (ci := 0) (q0 := 0) rfl hx_at_X) (hx_app_l hP) hK (hx_D_l hD)) rfl rfl hl.1 rfl (lv_room (Nat.le_of_ble_eq_true rfl)) d_L_law_431 ⟨(Nat.le_of_ble_eq_true rfl), (Nat.le_of_ble_eq_true rfl)⟩) hP hD hS hA (fun H locs hP hD hS => ?_)
        refine lv_aload_n hx hb d_L_law_434 rfl (lv_at hl 2 rfl) ?_
        refine lv_aload_n hx hb d_L_law_435 rfl (lv_at hl 0 rfl) ?_
        refine lv_iload_n hx hb d_L_law_436 rfl (lv_at hl 3 rfl) ?_
        refine lv_iconst (v := 1) hx hb d_L_law_437 (by decide) ?_
        refine lv_iadd hx hb d_L_law_438 ?_
        refine va_sld hx hb hX hbl hbA hS h1 d_L_law_439 ?_
        refine lv_aload_n hx hb d_L_law_440 rfl (lv_at hl 0 rfl) ?_
        refine lv_iload_n hx hb d_L_law_441 rfl (lv_at hl 3 rfl) ?_
        refine lv_iconst (v := 2) hx hb d_L_law_442 (by decide) ?_
        refine lv_iadd hx hb d_L_law_443 ?_
        refine va_sld hx hb hX hbl hbA hS h2 d_L_law_444 ?_
        refine lv_aload_n hx hb d_L_law_445 rfl (lv_at hl 0 rfl) ?_
        refine lv_iload_n hx hb d_L_law_446 rfl (lv_at hl 3 rfl) ?_
        refine lv_iconst (v := 3) hx hb d_L_law_447 (by decide) ?_
        refine lv_iadd hx hb d_L_law_448 ?_
        refine va_sld hx hb hX hbl hbA hS h3 d_L_law_449 ?_
        refine lv_aload_n hx hb d_L_law_450 rfl (lv_at hl 0 rfl) ?_
        refine lv_iload_n hx hb d_L_law_451 rfl (lv_at hl 3 rfl) ?_
        refine lv_iconst (v := 4) hx hb d_L_law_452 (by decide) ?_
        refine lv_iadd hx hb d_L_law_453 ?_
        refine va_sld hx hb hX hbl hbA hS h4 d_L_law_454 ?_
        refine lv_aload_n hx hb d_L_law_455 rfl (lv_at hl 0 rfl) ?_
        refine lv_iload_n hx hb d_L_law_456 rfl (lv_at hl 3 rfl) ?_
        refine lv_iconst (v := 5) hx hb d_L_law_457 (by decide) ?_
        refine lv_iadd hx hb d_L_law_458 ?_
        refine va_sld hx hb hX hbl hbA hS h5 d_L_law_459 ?_
        refine lv_aload_n hx hb d_L_law_460 rfl (lv_at hl 0 rfl) ?_
        refine lv_iload_n hx hb d_L_law_461 rfl (lv_at hl 3 rfl) ?_
        refine lv_bipush (v := 6) hx hb d_L_law_462 (by decide) ?_
        refine lv_iadd hx hb d_L_law_464 ?_
        refine va_sld hx hb hX hbl hbA hS h6 d_L_law_465 ?_
        have hP := hx_swapP hP
        have hD := hx_swapD hD
        refine hx_wjA (va_runV (As := [.int (xs (x3 + 1).toNatClampNeg), .int (xs (x3 + 2).toNatClampNeg), .int (xs (x3 + 3).toNatClampNeg), .int (xs (x3 + 4).toNatClampNeg), .int (xs (x3 + 5).toNatClampNeg), .int (xs (x3 + 6).toNatClampNeg)]) (rest := [.long r]) ⟨hx, hb, hml, hown, hts⟩ (c_M_fused l D T3 bd _ τ (xs (x3 + 1).toNatClampNeg) (xs (x3 + 2).toNatClampNeg) (xs (x3 + 3).toNatClampNeg) (xs (x3 + 4).toNatClampNeg) (xs (x3 + 5).toNatClampNeg) (xs (x3 + 6).toNatClampNeg) _ _ e2) (cwV 6 hts (hx_gV hx_low k_756 k_757 k_758 k_55 k_759) rfl rfl rfl (by decide +kernel) ⟨(Nat.le_of_ble_eq_true rfl), (Nat.le_of_ble_eq_true rfl)⟩) (hx_preVw (va_recv hK (hx_app_l hP) (ci := 5) (q0 := 0) rfl hm_at_M) (hx_app_l hP) hK (hx_D_l hD)) rfl rfl hl.1 rfl (lv_room (Nat.le_of_ble_eq_true rfl)) d_L_law_466 ⟨(Nat.le_of_ble_eq_true rfl), (Nat.le_of_ble_eq_true rfl)⟩) hP hD hS hA (fun H locs hP hD hS => ?_)
        have hP := hx_swapP hP
        have hD := hx_swapD hD
        refine W.lcmp hx hb d_L_law_469 ?_
        refine lv_if_eq (tgt := 951) hx hb d_L_law_470 (by decide) (fun _ => ?_) (fun c9 => absurd (hx_lc r) c9)
        exact tail σ1 τ1 hR1 _ _ hP hD hS
      by_cases c_6 : v0 = 6
      · refine lv_tableIn (tgt := 475) hx hb d_L_law_33 (by rw [c_6]; decide) (by rw [c_6]; decide) (by rw [c_6]; rfl) (by decide) ?_
        obtain ⟨r, σ1, τ1, e1, e2, hR1⟩ := sim_compare hR (xs (x3 + 1).toNatClampNeg) (xs (x3 + 2).toNatClampNeg) (xs (x3 + 3).toNatClampNeg) (xs (x3 + 4).toNatClampNeg)
        refine lv_aload_n hx hb d_L_law_475 rfl (lv_at hl 1 rfl) ?_
        refine lv_aload_n hx hb d_L_law_476 rfl (lv_at hl 0 rfl) ?_
        refine lv_iload_n hx hb d_L_law_477 rfl (lv_at hl 3 rfl) ?_
        refine lv_iconst (v := 1) hx hb d_L_law_478 (by decide) ?_
        refine lv_iadd hx hb d_L_law_479 ?_
        refine va_sld hx hb hX hbl hbA hS h1 d_L_law_480 ?_
        refine lv_aload_n hx hb d_L_law_481 rfl (lv_at hl 0 rfl) ?_
        refine lv_iload_n hx hb d_L_law_482 rfl (lv_at hl 3 rfl) ?_
        refine lv_iconst (v := 2) hx hb d_L_law_483 (by decide) ?_
        refine lv_iadd hx hb d_L_law_484 ?_
        refine va_sld hx hb hX hbl hbA hS h2 d_L_law_485 ?_
        refine lv_aload_n hx hb d_L_law_486 rfl (lv_at hl 0 rfl) ?_
        refine lv_iload_n hx hb d_L_law_487 rfl (lv_at hl 3 rfl) ?_
        refine lv_iconst (v := 3) hx hb d_L_law_488 (by decide) ?_
        refine lv_iadd hx hb d_L_law_489 ?_
        refine va_sld hx hb hX hbl hbA hS h3 d_L_law_490 ?_
        refine lv_aload_n hx hb d_L_law_491 rfl (lv_at hl 0 rfl) ?_
        refine lv_iload_n hx hb d_L_law_492 rfl (lv_at hl 3 rfl) ?_
        refine lv_iconst (v := 4) hx hb d_L_law_493 (by decide) ?_
        refine lv_iadd hx hb d_L_law_494 ?_
        refine va_sld hx hb hX hbl hbA hS h4 d_L_law_495 ?_
        refine hx_wiA (va_runV (As := [.int (xs (x3 + 1).toNatClampNeg), .int (xs (x3 + 2).toNatClampNeg), .int (xs (x3 + 3).toNatClampNeg), .int (xs (x3 + 4).toNatClampNeg)]) (rest := []) ⟨hx, hb, hml, hown, hts⟩ (c_X_compare l D T3 ad _ σ (xs (x3 + 1).toNatClampNeg) (xs (x3 + 2).toNatClampNeg) (xs (x3 + 3).toNatClampNeg) (xs (x3 + 4).toNatClampNeg) _ _ e1) (cwV 4 hts (hx_gV hx_low k_409 k_410 k_411 k_50 k_412) rfl rfl rfl (by decide +kernel) ⟨(Nat.le_of_ble_eq_true rfl), (Nat.le_of_ble_eq_true rfl)⟩) (hx_preVw (va_recv hK (hx_app_l hP) (ci := 0) (q0 := 0) rfl hx_at_X) (hx_app_l hP) hK (hx_D_l hD)) rfl rfl hl.1 rfl (lv_room (Nat.le_of_ble_eq_true rfl)) d_L_law_496 ⟨(Nat.le_of_ble_eq_true rfl), (Nat.le_of_ble_eq_true rfl)⟩) hP hD hS hA (fun H locs hP hD hS => ?_)
        refine lv_aload_n hx hb d_L_law_499 rfl (lv_at hl 2 rfl) ?_
        refine lv_aload_n hx hb d_L_law_500 rfl (lv_at hl 0 rfl) ?_
        refine lv_iload_n hx hb d_L_law_501 rfl (lv_at hl 3 rfl) ?_
        refine lv_iconst (v := 1) hx hb d_L_law_502 (by decide) ?_
        refine lv_iadd hx hb d_L_law_503 ?_
        refine va_sld hx hb hX hbl hbA hS h1 d_L_law_504 ?_
        refine lv_aload_n hx hb d_L_law_505 rfl (lv_at hl 0 rfl) ?_
        refine lv_iload_n hx hb d_L_law_506 rfl (lv_at hl 3 rfl) ?_
        refine lv_iconst (v := 2) hx hb d_L_law_507 (by decide) ?_
        refine lv_iadd hx hb d_L_law_508 ?_
        refine va_sld hx hb hX hbl hbA hS h2 d_L_law_509 ?_
        refine lv_aload_n hx hb d_L_law_510 rfl (lv_at hl 0 rfl) ?_
        refine lv_iload_n hx hb d_L_law_511 rfl (lv_at hl 3 rfl) ?_
        refine lv_iconst (v := 3) hx hb d_L_law_512 (by decide) ?_
        refine lv_iadd hx hb d_L_law_513 ?_
        refine va_sld hx hb hX hbl hbA hS h3 d_L_law_514 ?_
        refine lv_aload_n hx hb d_L_law_515 rfl (lv_at hl 0 rfl) ?_
        refine lv_iload_n hx hb d_L_law_516 rfl (lv_at hl 3 rfl) ?_
        refine lv_iconst (v := 4) hx hb d_L_law_517 (by decide) ?_
        refine lv_iadd hx hb d_L_law_518 ?_
        refine va_sld hx hb hX hbl hbA hS h4 d_L_law_519 ?_
        have hP := hx_swapP hP
        have hD := hx_swapD hD
        refine hx_wiA (va_runV (As := [.int (xs (x3 + 1).toNatClampNeg), .int (xs (x3 + 2).toNatClampNeg), .int (xs (x3 + 3).toNatClampNeg), .int (xs (x3 + 4).toNatClampNeg)]) (rest := [.int r]) ⟨hx, hb, hml, hown, hts⟩ (c_M_compare l D T3 bd _ τ (xs (x3 + 1).toNatClampNeg) (xs (x3 + 2).toNatClampNeg) (xs (x3 + 3).toNatClampNeg) (xs (x3 + 4).toNatClampNeg) _ _ e2) (cwV 4 hts (hx_gV hx_low k_760 k_761 k_762 k_55 k_763) rfl rfl rfl (by decide +kernel) ⟨(Nat.le_of_ble_eq_true rfl), (Nat.le_of_ble_eq_true rfl)⟩) (hx_preVw (va_recv hK (hx_app_l hP) (ci := 5) (q0 := 0) rfl hm_at_M) (hx_app_l hP) hK (hx_D_l hD)) rfl rfl hl.1 rfl (lv_room (Nat.le_of_ble_eq_true rfl)) d_L_law_520 ⟨(Nat.le_of_ble_eq_true rfl), (Nat.le_of_ble_eq_true rfl)⟩) hP hD hS hA (fun H locs hP hD hS => ?_)
        have hP := hx_swapP hP
        have hD := hx_swapD hD
        refine lv_icmp_eq (tgt := 951) hx hb d_L_law_523 (by decide) (fun _ => ?_) (fun c9 => absurd rfl c9)
        exact tail σ1 τ1 hR1 _ _ hP hD hS
      by_cases c_7 : v0 = 7
      · refine lv_tableIn (tgt := 528) hx hb d_L_law_33 (by rw [c_7]; decide) (by rw [c_7]; decide) (by rw [c_7]; rfl) (by decide) ?_
        obtain ⟨r, σ1, τ1, e1, e2, hR1⟩ := sim_flags hR 
        refine lv_aload_n hx hb d_L_law_528 rfl (lv_at hl 1 rfl) ?_
        refine hx_wiA (va_runV (As := []) (rest := []) ⟨hx, hb, hml, hown, hts⟩ (c_X_flags l D T3 ad _ σ  _ _ e1) (cwV 0 hts (hx_gV hx_low k_418 k_419 k_420 k_50 k_421) rfl rfl rfl (by decide +kernel) ⟨(Nat.le_of_ble_eq_true rfl), (Nat.le_of_ble_eq_true rfl)⟩) (hx_preVw (va_recv hK (hx_app_l hP) (ci := 0) (q0 := 0) rfl hx_at_X) (hx_app_l hP) hK (hx_D_l hD)) rfl rfl hl.1 rfl (lv_room (Nat.le_of_ble_eq_true rfl)) d_L_law_529 ⟨(Nat.le_of_ble_eq_true rfl), (Nat.le_of_ble_eq_true rfl)⟩) hP hD hS hA (fun H locs hP hD hS => ?_)
        refine lv_aload_n hx hb d_L_law_532 rfl (lv_at hl 2 rfl) ?_
        have hP := hx_swapP hP
        have hD := hx_swapD hD
        refine hx_wiA (va_runV (As := []) (rest := [.int r]) ⟨hx, hb, hml, hown, hts⟩ (c_M_flags l D T3 bd _ τ  _ _ e2) (cwV 0 hts (hx_gV hx_low k_764 k_765 k_766 k_55 k_767) rfl rfl rfl (by decide +kernel) ⟨(Nat.le_of_ble_eq_true rfl), (Nat.le_of_ble_eq_true rfl)⟩) (hx_preVw (va_recv hK (hx_app_l hP) (ci := 5) (q0 := 0) rfl hm_at_M) (hx_app_l hP) hK (hx_D_l hD)) rfl rfl hl.1 rfl (lv_room (Nat.le_of_ble_eq_true rfl)) d_L_law_533 ⟨(Nat.le_of_ble_eq_true rfl), (Nat.le_of_ble_eq_true rfl)⟩) hP hD hS hA (fun H locs hP hD hS => ?_)
        have hP := hx_swapP hP
        have hD := hx_swapD hD
        refine lv_icmp_eq (tgt := 951) hx hb d_L_law_536 (by decide) (fun _ => ?_) (fun c9 => absurd rfl c9)
        exact tail σ1 τ1 hR1 _ _ hP hD hS
      by_cases c_8 : v0 = 8
      · refine lv_tableIn (tgt := 541) hx hb d_L_law_33 (by rw [c_8]; decide) (by rw [c_8]; decide) (by rw [c_8]; rfl) (by decide) ?_
        obtain ⟨r, σ1, τ1, e1, e2, hR1⟩ := sim_seed hR (xs (x3 + 1).toNatClampNeg)
        refine lv_aload_n hx hb d_L_law_541 rfl (lv_at hl 1 rfl) ?_
        refine lv_aload_n hx hb d_L_law_542 rfl (lv_at hl 0 rfl) ?_
        refine lv_iload_n hx hb d_L_law_543 rfl (lv_at hl 3 rfl) ?_
        refine lv_iconst (v := 1) hx hb d_L_law_544 (by decide) ?_
        refine lv_iadd hx hb d_L_law_545 ?_
        refine va_sld hx hb hX hbl hbA hS h1 d_L_law_546 ?_
        refine hx_wiA (va_runV (As := [.int (xs (x3 + 1).toNatClampNeg)]) (rest := []) ⟨hx, hb, hml, hown, hts⟩ (c_X_seed l D T3 ad _ σ (xs (x3 + 1).toNatClampNeg) _ _ e1) (cwV 1 hts (hx_gV hx_low k_422 k_423 k_424 k_50 k_425) rfl rfl rfl (by decide +kernel) ⟨(Nat.le_of_ble_eq_true rfl), (Nat.le_of_ble_eq_true rfl)⟩) (hx_preVw (va_recv hK (hx_app_l hP) (ci := 0) (q0 := 0) rfl hx_at_X) (hx_app_l hP) hK (hx_D_l hD)) rfl rfl hl.1 rfl (lv_room (Nat.le_of_ble_eq_true rfl)) d_L_law_547 ⟨(Nat.le_of_ble_eq_true rfl), (Nat.le_of_ble_eq_true rfl)⟩) hP hD hS hA (fun H locs hP hD hS => ?_)
        refine lv_aload_n hx hb d_L_law_550 rfl (lv_at hl 2 rfl) ?_
        refine lv_aload_n hx hb d_L_law_551 rfl (lv_at hl 0 rfl) ?_
        refine lv_iload_n hx hb d_L_law_552 rfl (lv_at hl 3 rfl) ?_
        refine lv_iconst (v := 1) hx hb d_L_law_553 (by decide) ?_
        refine lv_iadd hx hb d_L_law_554 ?_
        refine va_sld hx hb hX hbl hbA hS h1 d_L_law_555 ?_
        have hP := hx_swapP hP
        have hD := hx_swapD hD
        refine hx_wiA (va_runV (As := [.int (xs (x3 + 1).toNatClampNeg)]) (rest := [.int r]) ⟨hx, hb, hml, hown, hts⟩ (c_M_seed l D T3 bd _ τ (xs (x3 + 1).toNatClampNeg) _ _ e2) (cwV 1 hts (hx_gV hx_low k_768 k_769 k_770 k_55 k_771) rfl rfl rfl (by decide +kernel) ⟨(Nat.le_of_ble_eq_true rfl), (Nat.le_of_ble_eq_true rfl)⟩) (hx_preVw (va_recv hK (hx_app_l hP) (ci := 5) (q0 := 0) rfl hm_at_M) (hx_app_l hP) hK (hx_D_l hD)) rfl rfl hl.1 rfl (lv_room (Nat.le_of_ble_eq_true rfl)) d_L_law_556 ⟨(Nat.le_of_ble_eq_true rfl), (Nat.le_of_ble_eq_true rfl)⟩) hP hD hS hA (fun H locs hP hD hS => ?_)
        have hP := hx_swapP hP
        have hD := hx_swapD hD
        refine lv_icmp_eq (tgt := 951) hx hb d_L_law_559 (by decide) (fun _ => ?_) (fun c9 => absurd rfl c9)
        exact tail σ1 τ1 hR1 _ _ hP hD hS
      by_cases c_9 : v0 = 9
      · refine lv_tableIn (tgt := 564) hx hb d_L_law_33 (by rw [c_9]; decide) (by rw [c_9]; decide) (by rw [c_9]; rfl) (by decide) ?_
        obtain ⟨r, σ1, τ1, e1, e2, hR1⟩ := sim_clear hR (xs (x3 + 1).toNatClampNeg) (xs (x3 + 2).toNatClampNeg)
        refine lv_aload_n hx hb d_L_law_564 rfl (lv_at hl 1 rfl) ?_
        refine lv_aload_n hx hb d_L_law_565 rfl (lv_at hl 0 rfl) ?_
        refine lv_iload_n hx hb d_L_law_566 rfl (lv_at hl 3 rfl) ?_
        refine lv_iconst (v := 1) hx hb d_L_law_567 (by decide) ?_
        refine lv_iadd hx hb d_L_law_568 ?_
        refine va_sld hx hb hX hbl hbA hS h1 d_L_law_569 ?_
        refine lv_aload_n hx hb d_L_law_570 rfl (lv_at hl 0 rfl) ?_
        refine lv_iload_n hx hb d_L_law_571 rfl (lv_at hl 3 rfl) ?_
        refine lv_iconst (v := 2) hx hb d_L_law_572 (by decide) ?_
        refine lv_iadd hx hb d_L_law_573 ?_
        refine va_sld hx hb hX hbl hbA hS h2 d_L_law_574 ?_
        refine hx_wiA (va_runV (As := [.int (xs (x3 + 1).toNatClampNeg), .int (xs (x3 + 2).toNatClampNeg)]) (rest := []) ⟨hx, hb, hml, hown, hts⟩ (c_X_clear l D T3 ad _ σ (xs (x3 + 1).toNatClampNeg) (xs (x3 + 2).toNatClampNeg) _ _ e1) (cwV 2 hts (hx_gV hx_low k_427 k_428 k_429 k_50 k_430) rfl rfl rfl (by decide +kernel) ⟨(Nat.le_of_ble_eq_true rfl), (Nat.le_of_ble_eq_true rfl)⟩) (hx_preVw (va_recv hK (hx_app_l hP) (ci := 0) (q0 := 0) rfl hx_at_X) (hx_app_l hP) hK (hx_D_l hD)) rfl rfl hl.1 rfl (lv_room (Nat.le_of_ble_eq_true rfl)) d_L_law_575 ⟨(Nat.le_of_ble_eq_true rfl), (Nat.le_of_ble_eq_true rfl)⟩) hP hD hS hA (fun H locs hP hD hS => ?_)
        refine lv_aload_n hx hb d_L_law_578 rfl (lv_at hl 2 rfl) ?_
        refine lv_aload_n hx hb d_L_law_579 rfl (lv_at hl 0 rfl) ?_
        refine lv_iload_n hx hb d_L_law_580 rfl (lv_at hl 3 rfl) ?_
        refine lv_iconst (v := 1) hx hb d_L_law_581 (by decide) ?_
        refine lv_iadd hx hb d_L_law_582 ?_
        refine va_sld hx hb hX hbl hbA hS h1 d_L_law_583 ?_
        refine lv_aload_n hx hb d_L_law_584 rfl (lv_at hl 0 rfl) ?_
        refine lv_iload_n hx hb d_L_law_585 rfl (lv_at hl 3 rfl) ?_
        refine lv_iconst (v := 2) hx hb d_L_law_586 (by decide) ?_
        refine lv_iadd hx hb d_L_law_587 ?_
        refine va_sld hx hb hX hbl hbA hS h2 d_L_law_588 ?_
        have hP := hx_swapP hP
        have hD := hx_swapD hD
        refine hx_wiA (va_runV (As := [.int (xs (x3 + 1).toNatClampNeg), .int (xs (x3 + 2).toNatClampNeg)]) (rest := [.int r]) ⟨hx, hb, hml, hown, hts⟩ (c_M_clear l D T3 bd _ τ (xs (x3 + 1).toNatClampNeg) (xs (x3 + 2).toNatClampNeg) _ _ e2) (cwV 2 hts (hx_gV hx_low k_773 k_774 k_775 k_55 k_776) rfl rfl rfl (by decide +kernel) ⟨(Nat.le_of_ble_eq_true rfl), (Nat.le_of_ble_eq_true rfl)⟩) (hx_preVw (va_recv hK (hx_app_l hP) (ci := 5) (q0 := 0) rfl hm_at_M) (hx_app_l hP) hK (hx_D_l hD)) rfl rfl hl.1 rfl (lv_room (Nat.le_of_ble_eq_true rfl)) d_L_law_589 ⟨(Nat.le_of_ble_eq_true rfl), (Nat.le_of_ble_eq_true rfl)⟩) hP hD hS hA (fun H locs hP hD hS => ?_)
        have hP := hx_swapP hP
        have hD := hx_swapD hD
        refine lv_icmp_eq (tgt := 951) hx hb d_L_law_592 (by decide) (fun _ => ?_) (fun c9 => absurd rfl c9)
        exact tail σ1 τ1 hR1 _ _ hP hD hS
      by_cases c_10 : v0 = 10
      · refine lv_tableIn (tgt := 597) hx hb d_L_law_33 (by rw [c_10]; decide) (by rw [c_10]; decide) (by rw [c_10]; rfl) (by decide) ?_
        obtain ⟨r, σ1, τ1, e1, e2, hR1⟩ := sim_push hR (xs (x3 + 1).toNatClampNeg) (xs (x3 + 2).toNatClampNeg)
        refine lv_aload_n hx hb d_L_law_597 rfl (lv_at hl 1 rfl) ?_
        refine lv_aload_n hx hb d_L_law_598 rfl (lv_at hl 0 rfl) ?_
        refine lv_iload_n hx hb d_L_law_599 rfl (lv_at hl 3 rfl) ?_
        refine lv_iconst (v := 1) hx hb d_L_law_600 (by decide) ?_
        refine lv_iadd hx hb d_L_law_601 ?_
        refine va_sld hx hb hX hbl hbA hS h1 d_L_law_602 ?_
        refine lv_aload_n hx hb d_L_law_603 rfl (lv_at hl 0 rfl) ?_
        refine lv_iload_n hx hb d_L_law_604 rfl (lv_at hl 3 rfl) ?_
        refine lv_iconst (v := 2) hx hb d_L_law_605 (by decide) ?_
        refine lv_iadd hx hb d_L_law_606 ?_
        refine va_sld hx hb hX hbl hbA hS h2 d_L_law_607 ?_
        refine hx_wiA (va_runV (As := [.int (xs (x3 + 1).toNatClampNeg), .int (xs (x3 + 2).toNatClampNeg)]) (rest := []) ⟨hx, hb, hml, hown, hts⟩ (c_X_push l D T3 ad _ σ (xs (x3 + 1).toNatClampNeg) (xs (x3 + 2).toNatClampNeg) _ _ e1) (cwV 2 hts (hx_gV hx_low k_438 k_439 k_440 k_50 k_441) rfl rfl rfl (by decide +kernel) ⟨(Nat.le_of_ble_eq_true rfl), (Nat.le_of_ble_eq_true rfl)⟩) (hx_preVw (va_recv hK (hx_app_l hP) (ci := 0) (q0 := 0) rfl hx_at_X) (hx_app_l hP) hK (hx_D_l hD)) rfl rfl hl.1 rfl (lv_room (Nat.le_of_ble_eq_true rfl)) d_L_law_608 ⟨(Nat.le_of_ble_eq_true rfl), (Nat.le_of_ble_eq_true rfl)⟩) hP hD hS hA (fun H locs hP hD hS => ?_)
        refine lv_aload_n hx hb d_L_law_611 rfl (lv_at hl 2 rfl) ?_
        refine lv_aload_n hx hb d_L_law_612 rfl (lv_at hl 0 rfl) ?_
        refine lv_iload_n hx hb d_L_law_613 rfl (lv_at hl 3 rfl) ?_
        refine lv_iconst (v := 1) hx hb d_L_law_614 (by decide) ?_
        refine lv_iadd hx hb d_L_law_615 ?_
        refine va_sld hx hb hX hbl hbA hS h1 d_L_law_616 ?_
        refine lv_aload_n hx hb d_L_law_617 rfl (lv_at hl 0 rfl) ?_
        refine lv_iload_n hx hb d_L_law_618 rfl (lv_at hl 3 rfl) ?_
        refine lv_iconst (v := 2) hx hb d_L_law_619 (by decide) ?_
        refine lv_iadd hx hb d_L_law_620 ?_
        refine va_sld hx hb hX hbl hbA hS h2 d_L_law_621 ?_
        have hP := hx_swapP hP
        have hD := hx_swapD hD
        refine hx_wiA (va_runV (As := [.int (xs (x3 + 1).toNatClampNeg), .int (xs (x3 + 2).toNatClampNeg)]) (rest := [.int r]) ⟨hx, hb, hml, hown, hts⟩ (c_M_push l D T3 bd _ τ (xs (x3 + 1).toNatClampNeg) (xs (x3 + 2).toNatClampNeg) _ _ e2) (cwV 2 hts (hx_gV hx_low k_777 k_778 k_779 k_55 k_780) rfl rfl rfl (by decide +kernel) ⟨(Nat.le_of_ble_eq_true rfl), (Nat.le_of_ble_eq_true rfl)⟩) (hx_preVw (va_recv hK (hx_app_l hP) (ci := 5) (q0 := 0) rfl hm_at_M) (hx_app_l hP) hK (hx_D_l hD)) rfl rfl hl.1 rfl (lv_room (Nat.le_of_ble_eq_true rfl)) d_L_law_622 ⟨(Nat.le_of_ble_eq_true rfl), (Nat.le_of_ble_eq_true rfl)⟩) hP hD hS hA (fun H locs hP hD hS => ?_)
        have hP := hx_swapP hP
        have hD := hx_swapD hD
        refine lv_icmp_eq (tgt := 951) hx hb d_L_law_625 (by decide) (fun _ => ?_) (fun c9 => absurd rfl c9)
        exact tail σ1 τ1 hR1 _ _ hP hD hS
      by_cases c_11 : v0 = 11
      · refine lv_tableIn (tgt := 630) hx hb d_L_law_33 (by rw [c_11]; decide) (by rw [c_11]; decide) (by rw [c_11]; rfl) (by decide) ?_
        obtain ⟨r, e1, e2⟩ := sim_at hR (xs (x3 + 1).toNatClampNeg) (xs (x3 + 2).toNatClampNeg)
        refine lv_aload_n hx hb d_L_law_630 rfl (lv_at hl 1 rfl) ?_
        refine lv_aload_n hx hb d_L_law_631 rfl (lv_at hl 0 rfl) ?_
        refine lv_iload_n hx hb d_L_law_632 rfl (lv_at hl 3 rfl) ?_
        refine lv_iconst (v := 1) hx hb d_L_law_633 (by decide) ?_
        refine lv_iadd hx hb d_L_law_634 ?_
        refine va_sld hx hb hX hbl hbA hS h1 d_L_law_635 ?_
        refine lv_aload_n hx hb d_L_law_636 rfl (lv_at hl 0 rfl) ?_
        refine lv_iload_n hx hb d_L_law_637 rfl (lv_at hl 3 rfl) ?_
        refine lv_iconst (v := 2) hx hb d_L_law_638 (by decide) ?_
        refine lv_iadd hx hb d_L_law_639 ?_
        refine va_sld hx hb hX hbl hbA hS h2 d_L_law_640 ?_
        refine hx_rd (va_runV (As := [.int (xs (x3 + 1).toNatClampNeg), .int (xs (x3 + 2).toNatClampNeg)]) (rest := []) ⟨hx, hb, hml, hown, hts⟩ (c_X_at l D T3 ad σ (xs (x3 + 1).toNatClampNeg) (xs (x3 + 2).toNatClampNeg) _ e1) (cwV 2 hts (hx_gV hx_low k_442 k_443 k_444 k_50 k_445) rfl rfl rfl (by decide +kernel) ⟨(Nat.le_of_ble_eq_true rfl), (Nat.le_of_ble_eq_true rfl)⟩) (hx_preV (va_recv hK (hx_app_l hP) (ci := 0) (q0 := 0) rfl hx_at_X) (hx_app_l hP) hK) rfl rfl hl.1 rfl (lv_room (Nat.le_of_ble_eq_true rfl)) d_L_law_641 ⟨(Nat.le_of_ble_eq_true rfl), (Nat.le_of_ble_eq_true rfl)⟩) ?_
        refine lv_aload_n hx hb d_L_law_644 rfl (lv_at hl 2 rfl) ?_
        refine lv_aload_n hx hb d_L_law_645 rfl (lv_at hl 0 rfl) ?_
        refine lv_iload_n hx hb d_L_law_646 rfl (lv_at hl 3 rfl) ?_
        refine lv_iconst (v := 1) hx hb d_L_law_647 (by decide) ?_
        refine lv_iadd hx hb d_L_law_648 ?_
        refine va_sld hx hb hX hbl hbA hS h1 d_L_law_649 ?_
        refine lv_aload_n hx hb d_L_law_650 rfl (lv_at hl 0 rfl) ?_
        refine lv_iload_n hx hb d_L_law_651 rfl (lv_at hl 3 rfl) ?_
        refine lv_iconst (v := 2) hx hb d_L_law_652 (by decide) ?_
        refine lv_iadd hx hb d_L_law_653 ?_
        refine va_sld hx hb hX hbl hbA hS h2 d_L_law_654 ?_
        have hP := hx_swapP hP
        have hD := hx_swapD hD
        refine hx_rd (va_runV (As := [.int (xs (x3 + 1).toNatClampNeg), .int (xs (x3 + 2).toNatClampNeg)]) (rest := [.long r]) ⟨hx, hb, hml, hown, hts⟩ (c_M_at l D T3 bd τ (xs (x3 + 1).toNatClampNeg) (xs (x3 + 2).toNatClampNeg) _ e2) (cwV 2 hts (hx_gV hx_low k_781 k_782 k_783 k_55 k_784) rfl rfl rfl (by decide +kernel) ⟨(Nat.le_of_ble_eq_true rfl), (Nat.le_of_ble_eq_true rfl)⟩) (hx_preV (va_recv hK (hx_app_l hP) (ci := 5) (q0 := 0) rfl hm_at_M) (hx_app_l hP) hK) rfl rfl hl.1 rfl (lv_room (Nat.le_of_ble_eq_true rfl)) d_L_law_655 ⟨(Nat.le_of_ble_eq_true rfl), (Nat.le_of_ble_eq_true rfl)⟩) ?_
        have hP := hx_swapP hP
        have hD := hx_swapD hD
        refine W.lcmp hx hb d_L_law_658 ?_
        refine lv_if_eq (tgt := 951) hx hb d_L_law_659 (by decide) (fun _ => ?_) (fun c9 => absurd (hx_lc r) c9)
        exact tail σ τ hR _ _ hP hD hS
      by_cases c_12 : v0 = 12
      · refine lv_tableIn (tgt := 664) hx hb d_L_law_33 (by rw [c_12]; decide) (by rw [c_12]; decide) (by rw [c_12]; rfl) (by decide) ?_
        obtain ⟨r, e1, e2⟩ := sim_count hR (xs (x3 + 1).toNatClampNeg)
        refine lv_aload_n hx hb d_L_law_664 rfl (lv_at hl 1 rfl) ?_
        refine lv_aload_n hx hb d_L_law_665 rfl (lv_at hl 0 rfl) ?_
        refine lv_iload_n hx hb d_L_law_666 rfl (lv_at hl 3 rfl) ?_
        refine lv_iconst (v := 1) hx hb d_L_law_667 (by decide) ?_
        refine lv_iadd hx hb d_L_law_668 ?_
        refine va_sld hx hb hX hbl hbA hS h1 d_L_law_669 ?_
        refine hx_rd (va_runV (As := [.int (xs (x3 + 1).toNatClampNeg)]) (rest := []) ⟨hx, hb, hml, hown, hts⟩ (c_X_count l D T3 ad σ (xs (x3 + 1).toNatClampNeg) _ e1) (cwV 1 hts (hx_gV hx_low k_450 k_451 k_452 k_50 k_453) rfl rfl rfl (by decide +kernel) ⟨(Nat.le_of_ble_eq_true rfl), (Nat.le_of_ble_eq_true rfl)⟩) (hx_preV (va_recv hK (hx_app_l hP) (ci := 0) (q0 := 0) rfl hx_at_X) (hx_app_l hP) hK) rfl rfl hl.1 rfl (lv_room (Nat.le_of_ble_eq_true rfl)) d_L_law_670 ⟨(Nat.le_of_ble_eq_true rfl), (Nat.le_of_ble_eq_true rfl)⟩) ?_
        refine lv_aload_n hx hb d_L_law_673 rfl (lv_at hl 2 rfl) ?_
        refine lv_aload_n hx hb d_L_law_674 rfl (lv_at hl 0 rfl) ?_
        refine lv_iload_n hx hb d_L_law_675 rfl (lv_at hl 3 rfl) ?_
        refine lv_iconst (v := 1) hx hb d_L_law_676 (by decide) ?_
        refine lv_iadd hx hb d_L_law_677 ?_
        refine va_sld hx hb hX hbl hbA hS h1 d_L_law_678 ?_
        have hP := hx_swapP hP
        have hD := hx_swapD hD
        refine hx_rd (va_runV (As := [.int (xs (x3 + 1).toNatClampNeg)]) (rest := [.int r]) ⟨hx, hb, hml, hown, hts⟩ (c_M_count l D T3 bd τ (xs (x3 + 1).toNatClampNeg) _ e2) (cwV 1 hts (hx_gV hx_low k_785 k_786 k_787 k_55 k_788) rfl rfl rfl (by decide +kernel) ⟨(Nat.le_of_ble_eq_true rfl), (Nat.le_of_ble_eq_true rfl)⟩) (hx_preV (va_recv hK (hx_app_l hP) (ci := 5) (q0 := 0) rfl hm_at_M) (hx_app_l hP) hK) rfl rfl hl.1 rfl (lv_room (Nat.le_of_ble_eq_true rfl)) d_L_law_679 ⟨(Nat.le_of_ble_eq_true rfl), (Nat.le_of_ble_eq_true rfl)⟩) ?_
        have hP := hx_swapP hP
        have hD := hx_swapD hD
        refine lv_icmp_eq (tgt := 951) hx hb d_L_law_682 (by decide) (fun _ => ?_) (fun c9 => absurd rfl c9)
        exact tail σ τ hR _ _ hP hD hS
      by_cases c_13 : v0 = 13
      · refine lv_tableIn (tgt := 687) hx hb d_L_law_33 (by rw [c_13]; decide) (by rw [c_13]; decide) (by rw [c_13]; rfl) (by decide) ?_
        obtain ⟨r, σ1, τ1, e1, e2, hR1⟩ := sim_sum hR (xs (x3 + 1).toNatClampNeg) (xs (x3 + 2).toNatClampNeg) (xs (x3 + 3).toNatClampNeg) (xs (x3 + 4).toNatClampNeg)
        refine lv_aload_n hx hb d_L_law_687 rfl (lv_at hl 1 rfl) ?_
        refine lv_aload_n hx hb d_L_law_688 rfl (lv_at hl 0 rfl) ?_
        refine lv_iload_n hx hb d_L_law_689 rfl (lv_at hl 3 rfl) ?_
        refine lv_iconst (v := 1) hx hb d_L_law_690 (by decide) ?_
        refine lv_iadd hx hb d_L_law_691 ?_
        refine va_sld hx hb hX hbl hbA hS h1 d_L_law_692 ?_
        refine lv_aload_n hx hb d_L_law_693 rfl (lv_at hl 0 rfl) ?_
        refine lv_iload_n hx hb d_L_law_694 rfl (lv_at hl 3 rfl) ?_
        refine lv_iconst (v := 2) hx hb d_L_law_695 (by decide) ?_
        refine lv_iadd hx hb d_L_law_696 ?_
        refine va_sld hx hb hX hbl hbA hS h2 d_L_law_697 ?_
        refine lv_aload_n hx hb d_L_law_698 rfl (lv_at hl 0 rfl) ?_
        refine lv_iload_n hx hb d_L_law_699 rfl (lv_at hl 3 rfl) ?_
        refine lv_iconst (v := 3) hx hb d_L_law_700 (by decide) ?_
        refine lv_iadd hx hb d_L_law_701 ?_
        refine va_sld hx hb hX hbl hbA hS h3 d_L_law_702 ?_
        refine lv_aload_n hx hb d_L_law_703 rfl (lv_at hl 0 rfl) ?_
        refine lv_iload_n hx hb d_L_law_704 rfl (lv_at hl 3 rfl) ?_
        refine lv_iconst (v := 4) hx hb d_L_law_705 (by decide) ?_
        refine lv_iadd hx hb d_L_law_706 ?_
        refine va_sld hx hb hX hbl hbA hS h4 d_L_law_707 ?_
        refine hx_wjA (va_runV (As := [.int (xs (x3 + 1).toNatClampNeg), .int (xs (x3 + 2).toNatClampNeg), .int (xs (x3 + 3).toNatClampNeg), .int (xs (x3 + 4).toNatClampNeg)]) (rest := []) ⟨hx, hb, hml, hown, hts⟩ (c_X_sum l D T3 ad _ σ (xs (x3 + 1).toNatClampNeg) (xs (x3 + 2).toNatClampNeg) (xs (x3 + 3).toNatClampNeg) (xs (x3 + 4).toNatClampNeg) _ _ e1) (cwV 4 hts (hx_gV hx_low k_454 k_455 k_456 k_50 k_457) rfl rfl rfl (by decide +kernel) ⟨(Nat.le_of_ble_eq_true rfl), (Nat.le_of_ble_eq_true rfl)⟩) (hx_preVw (va_recv hK (hx_app_l hP) (ci := 0) (q0 := 0) rfl hx_at_X) (hx_app_l hP) hK (hx_D_l hD)) rfl rfl hl.1 rfl (lv_room (Nat.le_of_ble_eq_true rfl)) d_L_law_708 ⟨(Nat.le_of_ble_eq_true rfl), (Nat.le_of_ble_eq_true rfl)⟩) hP hD hS hA (fun H locs hP hD hS => ?_)
        refine lv_aload_n hx hb d_L_law_711 rfl (lv_at hl 2 rfl) ?_
        refine lv_aload_n hx hb d_L_law_712 rfl (lv_at hl 0 rfl) ?_
        refine lv_iload_n hx hb d_L_law_713 rfl (lv_at hl 3 rfl) ?_
        refine lv_iconst (v := 1) hx hb d_L_law_714 (by decide) ?_
        refine lv_iadd hx hb d_L_law_715 ?_
        refine va_sld hx hb hX hbl hbA hS h1 d_L_law_716 ?_
        refine lv_aload_n hx hb d_L_law_717 rfl (lv_at hl 0 rfl) ?_
        refine lv_iload_n hx hb d_L_law_718 rfl (lv_at hl 3 rfl) ?_
        refine lv_iconst (v := 2) hx hb d_L_law_719 (by decide) ?_
        refine lv_iadd hx hb d_L_law_720 ?_
        refine va_sld hx hb hX hbl hbA hS h2 d_L_law_721 ?_
        refine lv_aload_n hx hb d_L_law_722 rfl (lv_at hl 0 rfl) ?_
        refine lv_iload_n hx hb d_L_law_723 rfl (lv_at hl 3 rfl) ?_
        refine lv_iconst (v := 3) hx hb d_L_law_724 (by decide) ?_
        refine lv_iadd hx hb d_L_law_725 ?_
        refine va_sld hx hb hX hbl hbA hS h3 d_L_law_726 ?_
        refine lv_aload_n hx hb d_L_law_727 rfl (lv_at hl 0 rfl) ?_
        refine lv_iload_n hx hb d_L_law_728 rfl (lv_at hl 3 rfl) ?_
        refine lv_iconst (v := 4) hx hb d_L_law_729 (by decide) ?_
        refine lv_iadd hx hb d_L_law_730 ?_
        refine va_sld hx hb hX hbl hbA hS h4 d_L_law_731 ?_
        have hP := hx_swapP hP
        have hD := hx_swapD hD
        refine hx_wjA (va_runV (As := [.int (xs (x3 + 1).toNatClampNeg), .int (xs (x3 + 2).toNatClampNeg), .int (xs (x3 + 3).toNatClampNeg), .int (xs (x3 + 4).toNatClampNeg)]) (rest := [.long r]) ⟨hx, hb, hml, hown, hts⟩ (c_M_sum l D T3 bd _ τ (xs (x3 + 1).toNatClampNeg) (xs (x3 + 2).toNatClampNeg) (xs (x3 + 3).toNatClampNeg) (xs (x3 + 4).toNatClampNeg) _ _ e2) (cwV 4 hts (hx_gV hx_low k_789 k_790 k_791 k_55 k_792) rfl rfl rfl (by decide +kernel) ⟨(Nat.le_of_ble_eq_true rfl), (Nat.le_of_ble_eq_true rfl)⟩) (hx_preVw (va_recv hK (hx_app_l hP) (ci := 5) (q0 := 0) rfl hm_at_M) (hx_app_l hP) hK (hx_D_l hD)) rfl rfl hl.1 rfl (lv_room (Nat.le_of_ble_eq_true rfl)) d_L_law_732 ⟨(Nat.le_of_ble_eq_true rfl), (Nat.le_of_ble_eq_true rfl)⟩) hP hD hS hA (fun H locs hP hD hS => ?_)
        have hP := hx_swapP hP
        have hD := hx_swapD hD
        refine W.lcmp hx hb d_L_law_735 ?_
        refine lv_if_eq (tgt := 951) hx hb d_L_law_736 (by decide) (fun _ => ?_) (fun c9 => absurd (hx_lc r) c9)
        exact tail σ1 τ1 hR1 _ _ hP hD hS
      by_cases c_14 : v0 = 14
      · refine lv_tableIn (tgt := 741) hx hb d_L_law_33 (by rw [c_14]; decide) (by rw [c_14]; decide) (by rw [c_14]; rfl) (by decide) ?_
        obtain ⟨r, σ1, τ1, e1, e2, hR1⟩ := sim_dot hR (xs (x3 + 1).toNatClampNeg) (xs (x3 + 2).toNatClampNeg) (xs (x3 + 3).toNatClampNeg) (xs (x3 + 4).toNatClampNeg)
        refine lv_aload_n hx hb d_L_law_741 rfl (lv_at hl 1 rfl) ?_
        refine lv_aload_n hx hb d_L_law_742 rfl (lv_at hl 0 rfl) ?_
        refine lv_iload_n hx hb d_L_law_743 rfl (lv_at hl 3 rfl) ?_
        refine lv_iconst (v := 1) hx hb d_L_law_744 (by decide) ?_
        refine lv_iadd hx hb d_L_law_745 ?_
        refine va_sld hx hb hX hbl hbA hS h1 d_L_law_746 ?_
        refine lv_aload_n hx hb d_L_law_747 rfl (lv_at hl 0 rfl) ?_
        refine lv_iload_n hx hb d_L_law_748 rfl (lv_at hl 3 rfl) ?_
        refine lv_iconst (v := 2) hx hb d_L_law_749 (by decide) ?_
        refine lv_iadd hx hb d_L_law_750 ?_
        refine va_sld hx hb hX hbl hbA hS h2 d_L_law_751 ?_
        refine lv_aload_n hx hb d_L_law_752 rfl (lv_at hl 0 rfl) ?_
        refine lv_iload_n hx hb d_L_law_753 rfl (lv_at hl 3 rfl) ?_
        refine lv_iconst (v := 3) hx hb d_L_law_754 (by decide) ?_
        refine lv_iadd hx hb d_L_law_755 ?_
        refine va_sld hx hb hX hbl hbA hS h3 d_L_law_756 ?_
        refine lv_aload_n hx hb d_L_law_757 rfl (lv_at hl 0 rfl) ?_
        refine lv_iload_n hx hb d_L_law_758 rfl (lv_at hl 3 rfl) ?_
        refine lv_iconst (v := 4) hx hb d_L_law_759 (by decide) ?_
        refine lv_iadd hx hb d_L_law_760 ?_
        refine va_sld hx hb hX hbl hbA hS h4 d_L_law_761 ?_
        refine hx_wjA (va_runV (As := [.int (xs (x3 + 1).toNatClampNeg), .int (xs (x3 + 2).toNatClampNeg), .int (xs (x3 + 3).toNatClampNeg), .int (xs (x3 + 4).toNatClampNeg)]) (rest := []) ⟨hx, hb, hml, hown, hts⟩ (c_X_dot l D T3 ad _ σ (xs (x3 + 1).toNatClampNeg) (xs (x3 + 2).toNatClampNeg) (xs (x3 + 3).toNatClampNeg) (xs (x3 + 4).toNatClampNeg) _ _ e1) (cwV 4 hts (hx_gV hx_low k_478 k_479 k_480 k_50 k_481) rfl rfl rfl (by decide +kernel) ⟨(Nat.le_of_ble_eq_true rfl), (Nat.le_of_ble_eq_true rfl)⟩) (hx_preVw (va_recv hK (hx_app_l hP) (ci := 0) (q0 := 0) rfl hx_at_X) (hx_app_l hP) hK (hx_D_l hD)) rfl rfl hl.1 rfl (lv_room (Nat.le_of_ble_eq_true rfl)) d_L_law_762 ⟨(Nat.le_of_ble_eq_true rfl), (Nat.le_of_ble_eq_true rfl)⟩) hP hD hS hA (fun H locs hP hD hS => ?_)
        refine lv_aload_n hx hb d_L_law_765 rfl (lv_at hl 2 rfl) ?_
        refine lv_aload_n hx hb d_L_law_766 rfl (lv_at hl 0 rfl) ?_
        refine lv_iload_n hx hb d_L_law_767 rfl (lv_at hl 3 rfl) ?_
        refine lv_iconst (v := 1) hx hb d_L_law_768 (by decide) ?_
        refine lv_iadd hx hb d_L_law_769 ?_
        refine va_sld hx hb hX hbl hbA hS h1 d_L_law_770 ?_
        refine lv_aload_n hx hb d_L_law_771 rfl (lv_at hl 0 rfl) ?_
        refine lv_iload_n hx hb d_L_law_772 rfl (lv_at hl 3 rfl) ?_
        refine lv_iconst (v := 2) hx hb d_L_law_773 (by decide) ?_
        refine lv_iadd hx hb d_L_law_774 ?_
        refine va_sld hx hb hX hbl hbA hS h2 d_L_law_775 ?_
        refine lv_aload_n hx hb d_L_law_776 rfl (lv_at hl 0 rfl) ?_
        refine lv_iload_n hx hb d_L_law_777 rfl (lv_at hl 3 rfl) ?_
        refine lv_iconst (v := 3) hx hb d_L_law_778 (by decide) ?_
        refine lv_iadd hx hb d_L_law_779 ?_
        refine va_sld hx hb hX hbl hbA hS h3 d_L_law_780 ?_
        refine lv_aload_n hx hb d_L_law_781 rfl (lv_at hl 0 rfl) ?_
        refine lv_iload_n hx hb d_L_law_782 rfl (lv_at hl 3 rfl) ?_
        refine lv_iconst (v := 4) hx hb d_L_law_783 (by decide) ?_
        refine lv_iadd hx hb d_L_law_784 ?_
        refine va_sld hx hb hX hbl hbA hS h4 d_L_law_785 ?_
        have hP := hx_swapP hP
        have hD := hx_swapD hD
        refine hx_wjA (va_runV (As := [.int (xs (x3 + 1).toNatClampNeg), .int (xs (x3 + 2).toNatClampNeg), .int (xs (x3 + 3).toNatClampNeg), .int (xs (x3 + 4).toNatClampNeg)]) (rest := [.long r]) ⟨hx, hb, hml, hown, hts⟩ (c_M_dot l D T3 bd _ τ (xs (x3 + 1).toNatClampNeg) (xs (x3 + 2).toNatClampNeg) (xs (x3 + 3).toNatClampNeg) (xs (x3 + 4).toNatClampNeg) _ _ e2) (cwV 4 hts (hx_gV hx_low k_793 k_794 k_795 k_55 k_796) rfl rfl rfl (by decide +kernel) ⟨(Nat.le_of_ble_eq_true rfl), (Nat.le_of_ble_eq_true rfl)⟩) (hx_preVw (va_recv hK (hx_app_l hP) (ci := 5) (q0 := 0) rfl hm_at_M) (hx_app_l hP) hK (hx_D_l hD)) rfl rfl hl.1 rfl (lv_room (Nat.le_of_ble_eq_true rfl)) d_L_law_786 ⟨(Nat.le_of_ble_eq_true rfl), (Nat.le_of_ble_eq_true rfl)⟩) hP hD hS hA (fun H locs hP hD hS => ?_)
        have hP := hx_swapP hP
        have hD := hx_swapD hD
        refine W.lcmp hx hb d_L_law_789 ?_
        refine lv_if_eq (tgt := 951) hx hb d_L_law_790 (by decide) (fun _ => ?_) (fun c9 => absurd (hx_lc r) c9)
        exact tail σ1 τ1 hR1 _ _ hP hD hS
      by_cases c_15 : v0 = 15
      · refine lv_tableIn (tgt := 795) hx hb d_L_law_33 (by rw [c_15]; decide) (by rw [c_15]; decide) (by rw [c_15]; rfl) (by decide) ?_
        obtain ⟨r, e1, e2⟩ := sim_scale hR (xs (x3 + 1).toNatClampNeg)
        refine lv_aload_n hx hb d_L_law_795 rfl (lv_at hl 1 rfl) ?_
        refine lv_aload_n hx hb d_L_law_796 rfl (lv_at hl 0 rfl) ?_
        refine lv_iload_n hx hb d_L_law_797 rfl (lv_at hl 3 rfl) ?_
        refine lv_iconst (v := 1) hx hb d_L_law_798 (by decide) ?_
        refine lv_iadd hx hb d_L_law_799 ?_
        refine va_sld hx hb hX hbl hbA hS h1 d_L_law_800 ?_
        refine hx_rd (va_runV (As := [.int (xs (x3 + 1).toNatClampNeg)]) (rest := []) ⟨hx, hb, hml, hown, hts⟩ (c_X_scale l D T3 ad σ (xs (x3 + 1).toNatClampNeg) _ e1) (cwV 1 hts (hx_gV hx_low k_497 k_498 k_499 k_50 k_500) rfl rfl rfl (by decide +kernel) ⟨(Nat.le_of_ble_eq_true rfl), (Nat.le_of_ble_eq_true rfl)⟩) (hx_preV (va_recv hK (hx_app_l hP) (ci := 0) (q0 := 0) rfl hx_at_X) (hx_app_l hP) hK) rfl rfl hl.1 rfl (lv_room (Nat.le_of_ble_eq_true rfl)) d_L_law_801 ⟨(Nat.le_of_ble_eq_true rfl), (Nat.le_of_ble_eq_true rfl)⟩) ?_
        refine lv_aload_n hx hb d_L_law_804 rfl (lv_at hl 2 rfl) ?_
        refine lv_aload_n hx hb d_L_law_805 rfl (lv_at hl 0 rfl) ?_
        refine lv_iload_n hx hb d_L_law_806 rfl (lv_at hl 3 rfl) ?_
        refine lv_iconst (v := 1) hx hb d_L_law_807 (by decide) ?_
        refine lv_iadd hx hb d_L_law_808 ?_
        refine va_sld hx hb hX hbl hbA hS h1 d_L_law_809 ?_
        have hP := hx_swapP hP
        have hD := hx_swapD hD
        refine hx_rd (va_runV (As := [.int (xs (x3 + 1).toNatClampNeg)]) (rest := [.int r]) ⟨hx, hb, hml, hown, hts⟩ (c_M_scale l D T3 bd τ (xs (x3 + 1).toNatClampNeg) _ e2) (cwV 1 hts (hx_gV hx_low k_802 k_803 k_804 k_55 k_805) rfl rfl rfl (by decide +kernel) ⟨(Nat.le_of_ble_eq_true rfl), (Nat.le_of_ble_eq_true rfl)⟩) (hx_preV (va_recv hK (hx_app_l hP) (ci := 5) (q0 := 0) rfl hm_at_M) (hx_app_l hP) hK) rfl rfl hl.1 rfl (lv_room (Nat.le_of_ble_eq_true rfl)) d_L_law_810 ⟨(Nat.le_of_ble_eq_true rfl), (Nat.le_of_ble_eq_true rfl)⟩) ?_
        have hP := hx_swapP hP
        have hD := hx_swapD hD
        refine lv_icmp_eq (tgt := 951) hx hb d_L_law_813 (by decide) (fun _ => ?_) (fun c9 => absurd rfl c9)
        exact tail σ τ hR _ _ hP hD hS
      by_cases c_16 : v0 = 16
      · refine lv_tableIn (tgt := 818) hx hb d_L_law_33 (by rw [c_16]; decide) (by rw [c_16]; decide) (by rw [c_16]; rfl) (by decide) ?_
        obtain ⟨r, σ1, τ1, e1, e2, hR1⟩ := sim_element hR (xs (x3 + 1).toNatClampNeg) (xs (x3 + 2).toNatClampNeg)
        refine lv_aload_n hx hb d_L_law_818 rfl (lv_at hl 1 rfl) ?_
        refine lv_aload_n hx hb d_L_law_819 rfl (lv_at hl 0 rfl) ?_
        refine lv_iload_n hx hb d_L_law_820 rfl (lv_at hl 3 rfl) ?_
        refine lv_iconst (v := 1) hx hb d_L_law_821 (by decide) ?_
        refine lv_iadd hx hb d_L_law_822 ?_
        refine va_sld hx hb hX hbl hbA hS h1 d_L_law_823 ?_
        refine lv_aload_n hx hb d_L_law_824 rfl (lv_at hl 0 rfl) ?_
        refine lv_iload_n hx hb d_L_law_825 rfl (lv_at hl 3 rfl) ?_
        refine lv_iconst (v := 2) hx hb d_L_law_826 (by decide) ?_
        refine lv_iadd hx hb d_L_law_827 ?_
        refine va_sld hx hb hX hbl hbA hS h2 d_L_law_828 ?_
        refine hx_wjA (va_runV (As := [.int (xs (x3 + 1).toNatClampNeg), .int (xs (x3 + 2).toNatClampNeg)]) (rest := []) ⟨hx, hb, hml, hown, hts⟩ (c_X_element l D T3 ad _ σ (xs (x3 + 1).toNatClampNeg) (xs (x3 + 2).toNatClampNeg) _ _ e1) (cwV 2 hts (hx_gV hx_low k_514 k_515 k_516 k_50 k_517) rfl rfl rfl (by decide +kernel) ⟨(Nat.le_of_ble_eq_true rfl), (Nat.le_of_ble_eq_true rfl)⟩) (hx_preVw (va_recv hK (hx_app_l hP) (ci := 0) (q0 := 0) rfl hx_at_X) (hx_app_l hP) hK (hx_D_l hD)) rfl rfl hl.1 rfl (lv_room (Nat.le_of_ble_eq_true rfl)) d_L_law_829 ⟨(Nat.le_of_ble_eq_true rfl), (Nat.le_of_ble_eq_true rfl)⟩) hP hD hS hA (fun H locs hP hD hS => ?_)
        refine lv_aload_n hx hb d_L_law_832 rfl (lv_at hl 2 rfl) ?_
        refine lv_aload_n hx hb d_L_law_833 rfl (lv_at hl 0 rfl) ?_
        refine lv_iload_n hx hb d_L_law_834 rfl (lv_at hl 3 rfl) ?_
        refine lv_iconst (v := 1) hx hb d_L_law_835 (by decide) ?_
        refine lv_iadd hx hb d_L_law_836 ?_
        refine va_sld hx hb hX hbl hbA hS h1 d_L_law_837 ?_
        refine lv_aload_n hx hb d_L_law_838 rfl (lv_at hl 0 rfl) ?_
        refine lv_iload_n hx hb d_L_law_839 rfl (lv_at hl 3 rfl) ?_
        refine lv_iconst (v := 2) hx hb d_L_law_840 (by decide) ?_
        refine lv_iadd hx hb d_L_law_841 ?_
        refine va_sld hx hb hX hbl hbA hS h2 d_L_law_842 ?_
        have hP := hx_swapP hP
        have hD := hx_swapD hD
        refine hx_wjA (va_runV (As := [.int (xs (x3 + 1).toNatClampNeg), .int (xs (x3 + 2).toNatClampNeg)]) (rest := [.long r]) ⟨hx, hb, hml, hown, hts⟩ (c_M_element l D T3 bd _ τ (xs (x3 + 1).toNatClampNeg) (xs (x3 + 2).toNatClampNeg) _ _ e2) (cwV 2 hts (hx_gV hx_low k_814 k_815 k_816 k_55 k_817) rfl rfl rfl (by decide +kernel) ⟨(Nat.le_of_ble_eq_true rfl), (Nat.le_of_ble_eq_true rfl)⟩) (hx_preVw (va_recv hK (hx_app_l hP) (ci := 5) (q0 := 0) rfl hm_at_M) (hx_app_l hP) hK (hx_D_l hD)) rfl rfl hl.1 rfl (lv_room (Nat.le_of_ble_eq_true rfl)) d_L_law_843 ⟨(Nat.le_of_ble_eq_true rfl), (Nat.le_of_ble_eq_true rfl)⟩) hP hD hS hA (fun H locs hP hD hS => ?_)
        have hP := hx_swapP hP
        have hD := hx_swapD hD
        refine W.lcmp hx hb d_L_law_846 ?_
        refine lv_if_eq (tgt := 951) hx hb d_L_law_847 (by decide) (fun _ => ?_) (fun c9 => absurd (hx_lc r) c9)
        exact tail σ1 τ1 hR1 _ _ hP hD hS
      by_cases c_17 : v0 = 17
      · refine lv_tableIn (tgt := 852) hx hb d_L_law_33 (by rw [c_17]; decide) (by rw [c_17]; decide) (by rw [c_17]; rfl) (by decide) ?_
        obtain ⟨r, σ1, τ1, e1, e2, hR1⟩ := sim_scaler hR (xs (x3 + 1).toNatClampNeg) (xs (x3 + 2).toNatClampNeg)
        refine lv_aload_n hx hb d_L_law_852 rfl (lv_at hl 1 rfl) ?_
        refine lv_aload_n hx hb d_L_law_853 rfl (lv_at hl 0 rfl) ?_
        refine lv_iload_n hx hb d_L_law_854 rfl (lv_at hl 3 rfl) ?_
        refine lv_iconst (v := 1) hx hb d_L_law_855 (by decide) ?_
        refine lv_iadd hx hb d_L_law_856 ?_
        refine va_sld hx hb hX hbl hbA hS h1 d_L_law_857 ?_
        refine lv_aload_n hx hb d_L_law_858 rfl (lv_at hl 0 rfl) ?_
        refine lv_iload_n hx hb d_L_law_859 rfl (lv_at hl 3 rfl) ?_
        refine lv_iconst (v := 2) hx hb d_L_law_860 (by decide) ?_
        refine lv_iadd hx hb d_L_law_861 ?_
        refine va_sld hx hb hX hbl hbA hS h2 d_L_law_862 ?_
        refine hx_wiA (va_runV (As := [.int (xs (x3 + 1).toNatClampNeg), .int (xs (x3 + 2).toNatClampNeg)]) (rest := []) ⟨hx, hb, hml, hown, hts⟩ (c_X_scaler l D T3 ad _ σ (xs (x3 + 1).toNatClampNeg) (xs (x3 + 2).toNatClampNeg) _ _ e1) (cwV 2 hts (hx_gV hx_low k_518 k_519 k_520 k_50 k_521) rfl rfl rfl (by decide +kernel) ⟨(Nat.le_of_ble_eq_true rfl), (Nat.le_of_ble_eq_true rfl)⟩) (hx_preVw (va_recv hK (hx_app_l hP) (ci := 0) (q0 := 0) rfl hx_at_X) (hx_app_l hP) hK (hx_D_l hD)) rfl rfl hl.1 rfl (lv_room (Nat.le_of_ble_eq_true rfl)) d_L_law_863 ⟨(Nat.le_of_ble_eq_true rfl), (Nat.le_of_ble_eq_true rfl)⟩) hP hD hS hA (fun H locs hP hD hS => ?_)
        refine lv_aload_n hx hb d_L_law_866 rfl (lv_at hl 2 rfl) ?_
        refine lv_aload_n hx hb d_L_law_867 rfl (lv_at hl 0 rfl) ?_
        refine lv_iload_n hx hb d_L_law_868 rfl (lv_at hl 3 rfl) ?_
        refine lv_iconst (v := 1) hx hb d_L_law_869 (by decide) ?_
        refine lv_iadd hx hb d_L_law_870 ?_
        refine va_sld hx hb hX hbl hbA hS h1 d_L_law_871 ?_
        refine lv_aload_n hx hb d_L_law_872 rfl (lv_at hl 0 rfl) ?_
        refine lv_iload_n hx hb d_L_law_873 rfl (lv_at hl 3 rfl) ?_
        refine lv_iconst (v := 2) hx hb d_L_law_874 (by decide) ?_
        refine lv_iadd hx hb d_L_law_875 ?_
        refine va_sld hx hb hX hbl hbA hS h2 d_L_law_876 ?_
        have hP := hx_swapP hP
        have hD := hx_swapD hD
        refine hx_wiA (va_runV (As := [.int (xs (x3 + 1).toNatClampNeg), .int (xs (x3 + 2).toNatClampNeg)]) (rest := [.int r]) ⟨hx, hb, hml, hown, hts⟩ (c_M_scaler l D T3 bd _ τ (xs (x3 + 1).toNatClampNeg) (xs (x3 + 2).toNatClampNeg) _ _ e2) (cwV 2 hts (hx_gV hx_low k_818 k_819 k_820 k_55 k_821) rfl rfl rfl (by decide +kernel) ⟨(Nat.le_of_ble_eq_true rfl), (Nat.le_of_ble_eq_true rfl)⟩) (hx_preVw (va_recv hK (hx_app_l hP) (ci := 5) (q0 := 0) rfl hm_at_M) (hx_app_l hP) hK (hx_D_l hD)) rfl rfl hl.1 rfl (lv_room (Nat.le_of_ble_eq_true rfl)) d_L_law_877 ⟨(Nat.le_of_ble_eq_true rfl), (Nat.le_of_ble_eq_true rfl)⟩) hP hD hS hA (fun H locs hP hD hS => ?_)
        have hP := hx_swapP hP
        have hD := hx_swapD hD
        refine lv_icmp_eq (tgt := 951) hx hb d_L_law_880 (by decide) (fun _ => ?_) (fun c9 => absurd rfl c9)
        exact tail σ1 τ1 hR1 _ _ hP hD hS
      by_cases c_18 : v0 = 18
      · refine lv_tableIn (tgt := 885) hx hb d_L_law_33 (by rw [c_18]; decide) (by rw [c_18]; decide) (by rw [c_18]; rfl) (by decide) ?_
        obtain ⟨r, σ1, τ1, e1, e2, hR1⟩ := sim_step hR (xs (x3 + 1).toNatClampNeg)
        refine lv_aload_n hx hb d_L_law_885 rfl (lv_at hl 1 rfl) ?_
        refine lv_aload_n hx hb d_L_law_886 rfl (lv_at hl 0 rfl) ?_
        refine lv_iload_n hx hb d_L_law_887 rfl (lv_at hl 3 rfl) ?_
        refine lv_iconst (v := 1) hx hb d_L_law_888 (by decide) ?_
        refine lv_iadd hx hb d_L_law_889 ?_
        refine va_sld hx hb hX hbl hbA hS h1 d_L_law_890 ?_
        refine hx_wiA (va_runV (As := [.int (xs (x3 + 1).toNatClampNeg)]) (rest := []) ⟨hx, hb, hml, hown, hts⟩ (c_X_step l D T3 ad _ σ (xs (x3 + 1).toNatClampNeg) _ _ e1) (cwV 1 hts (hx_gV hx_low k_522 k_523 k_524 k_50 k_525) rfl rfl rfl (by decide +kernel) ⟨(Nat.le_of_ble_eq_true rfl), (Nat.le_of_ble_eq_true rfl)⟩) (hx_preVw (va_recv hK (hx_app_l hP) (ci := 0) (q0 := 0) rfl hx_at_X) (hx_app_l hP) hK (hx_D_l hD)) rfl rfl hl.1 rfl (lv_room (Nat.le_of_ble_eq_true rfl)) d_L_law_891 ⟨(Nat.le_of_ble_eq_true rfl), (Nat.le_of_ble_eq_true rfl)⟩) hP hD hS hA (fun H locs hP hD hS => ?_)
        refine lv_aload_n hx hb d_L_law_894 rfl (lv_at hl 2 rfl) ?_
        refine lv_aload_n hx hb d_L_law_895 rfl (lv_at hl 0 rfl) ?_
        refine lv_iload_n hx hb d_L_law_896 rfl (lv_at hl 3 rfl) ?_
        refine lv_iconst (v := 1) hx hb d_L_law_897 (by decide) ?_
        refine lv_iadd hx hb d_L_law_898 ?_
        refine va_sld hx hb hX hbl hbA hS h1 d_L_law_899 ?_
        have hP := hx_swapP hP
        have hD := hx_swapD hD
        refine hx_wiA (va_runV (As := [.int (xs (x3 + 1).toNatClampNeg)]) (rest := [.int r]) ⟨hx, hb, hml, hown, hts⟩ (c_M_step l D T3 bd _ τ (xs (x3 + 1).toNatClampNeg) _ _ e2) (cwV 1 hts (hx_gV hx_low k_825 k_826 k_827 k_55 k_828) rfl rfl rfl (by decide +kernel) ⟨(Nat.le_of_ble_eq_true rfl), (Nat.le_of_ble_eq_true rfl)⟩) (hx_preVw (va_recv hK (hx_app_l hP) (ci := 5) (q0 := 0) rfl hm_at_M) (hx_app_l hP) hK (hx_D_l hD)) rfl rfl hl.1 rfl (lv_room (Nat.le_of_ble_eq_true rfl)) d_L_law_900 ⟨(Nat.le_of_ble_eq_true rfl), (Nat.le_of_ble_eq_true rfl)⟩) hP hD hS hA (fun H locs hP hD hS => ?_)
        have hP := hx_swapP hP
        have hD := hx_swapD hD
        refine lv_icmp_eq (tgt := 951) hx hb d_L_law_903 (by decide) (fun _ => ?_) (fun c9 => absurd rfl c9)
        exact tail σ1 τ1 hR1 _ _ hP hD hS
      by_cases c_19 : v0 = 19
      · refine lv_tableIn (tgt := 908) hx hb d_L_law_33 (by rw [c_19]; decide) (by rw [c_19]; decide) (by rw [c_19]; rfl) (by decide) ?_
        obtain ⟨r, σ1, τ1, e1, e2, hR1⟩ := sim_kept hR (xs (x3 + 1).toNatClampNeg) (xs (x3 + 2).toNatClampNeg) (xs (x3 + 3).toNatClampNeg)
        refine lv_aload_n hx hb d_L_law_908 rfl (lv_at hl 1 rfl) ?_
        refine lv_aload_n hx hb d_L_law_909 rfl (lv_at hl 0 rfl) ?_
        refine lv_iload_n hx hb d_L_law_910 rfl (lv_at hl 3 rfl) ?_
        refine lv_iconst (v := 1) hx hb d_L_law_911 (by decide) ?_
        refine lv_iadd hx hb d_L_law_912 ?_
        refine va_sld hx hb hX hbl hbA hS h1 d_L_law_913 ?_
        refine lv_aload_n hx hb d_L_law_914 rfl (lv_at hl 0 rfl) ?_
        refine lv_iload_n hx hb d_L_law_915 rfl (lv_at hl 3 rfl) ?_
        refine lv_iconst (v := 2) hx hb d_L_law_916 (by decide) ?_
        refine lv_iadd hx hb d_L_law_917 ?_
        refine va_sld hx hb hX hbl hbA hS h2 d_L_law_918 ?_
        refine lv_aload_n hx hb d_L_law_919 rfl (lv_at hl 0 rfl) ?_
        refine lv_iload_n hx hb d_L_law_920 rfl (lv_at hl 3 rfl) ?_
        refine lv_iconst (v := 3) hx hb d_L_law_921 (by decide) ?_
        refine lv_iadd hx hb d_L_law_922 ?_
        refine va_sld hx hb hX hbl hbA hS h3 d_L_law_923 ?_
        refine hx_wiA (va_runV (As := [.int (xs (x3 + 1).toNatClampNeg), .int (xs (x3 + 2).toNatClampNeg), .int (xs (x3 + 3).toNatClampNeg)]) (rest := []) ⟨hx, hb, hml, hown, hts⟩ (c_X_kept l D T3 ad _ σ (xs (x3 + 1).toNatClampNeg) (xs (x3 + 2).toNatClampNeg) (xs (x3 + 3).toNatClampNeg) _ _ e1) (cwV 3 hts (hx_gV hx_low k_538 k_539 k_540 k_50 k_541) rfl rfl rfl (by decide +kernel) ⟨(Nat.le_of_ble_eq_true rfl), (Nat.le_of_ble_eq_true rfl)⟩) (hx_preVw (va_recv hK (hx_app_l hP) (ci := 0) (q0 := 0) rfl hx_at_X) (hx_app_l hP) hK (hx_D_l hD)) rfl rfl hl.1 rfl (lv_room (Nat.le_of_ble_eq_true rfl)) d_L_law_924 ⟨(Nat.le_of_ble_eq_true rfl), (Nat.le_of_ble_eq_true rfl)⟩) hP hD hS hA (fun H locs hP hD hS => ?_)
        refine lv_aload_n hx hb d_L_law_927 rfl (lv_at hl 2 rfl) ?_
        refine lv_aload_n hx hb d_L_law_928 rfl (lv_at hl 0 rfl) ?_
        refine lv_iload_n hx hb d_L_law_929 rfl (lv_at hl 3 rfl) ?_
        refine lv_iconst (v := 1) hx hb d_L_law_930 (by decide) ?_
        refine lv_iadd hx hb d_L_law_931 ?_
        refine va_sld hx hb hX hbl hbA hS h1 d_L_law_932 ?_
        refine lv_aload_n hx hb d_L_law_933 rfl (lv_at hl 0 rfl) ?_
        refine lv_iload_n hx hb d_L_law_934 rfl (lv_at hl 3 rfl) ?_
        refine lv_iconst (v := 2) hx hb d_L_law_935 (by decide) ?_
        refine lv_iadd hx hb d_L_law_936 ?_
        refine va_sld hx hb hX hbl hbA hS h2 d_L_law_937 ?_
        refine lv_aload_n hx hb d_L_law_938 rfl (lv_at hl 0 rfl) ?_
        refine lv_iload_n hx hb d_L_law_939 rfl (lv_at hl 3 rfl) ?_
        refine lv_iconst (v := 3) hx hb d_L_law_940 (by decide) ?_
        refine lv_iadd hx hb d_L_law_941 ?_
        refine va_sld hx hb hX hbl hbA hS h3 d_L_law_942 ?_
        have hP := hx_swapP hP
        have hD := hx_swapD hD
        refine hx_wiA (va_runV (As := [.int (xs (x3 + 1).toNatClampNeg), .int (xs (x3 + 2).toNatClampNeg), .int (xs (x3 + 3).toNatClampNeg)]) (rest := [.int r]) ⟨hx, hb, hml, hown, hts⟩ (c_M_kept l D T3 bd _ τ (xs (x3 + 1).toNatClampNeg) (xs (x3 + 2).toNatClampNeg) (xs (x3 + 3).toNatClampNeg) _ _ e2) (cwV 3 hts (hx_gV hx_low k_829 k_830 k_831 k_55 k_832) rfl rfl rfl (by decide +kernel) ⟨(Nat.le_of_ble_eq_true rfl), (Nat.le_of_ble_eq_true rfl)⟩) (hx_preVw (va_recv hK (hx_app_l hP) (ci := 5) (q0 := 0) rfl hm_at_M) (hx_app_l hP) hK (hx_D_l hD)) rfl rfl hl.1 rfl (lv_room (Nat.le_of_ble_eq_true rfl)) d_L_law_943 ⟨(Nat.le_of_ble_eq_true rfl), (Nat.le_of_ble_eq_true rfl)⟩) hP hD hS hA (fun H locs hP hD hS => ?_)
        have hP := hx_swapP hP
        have hD := hx_swapD hD
        refine lv_icmp_eq (tgt := 951) hx hb d_L_law_946 (by decide) (fun _ => ?_) (fun c9 => absurd rfl c9)
        exact tail σ1 τ1 hR1 _ _ hP hD hS
      have t0 := lv_neT (a := 0) c_0 (by decide)
      have t1 := lv_neT (a := 1) c_1 (by decide)
      have t2 := lv_neT (a := 2) c_2 (by decide)
      have t3 := lv_neT (a := 3) c_3 (by decide)
      have t4 := lv_neT (a := 4) c_4 (by decide)
      have t5 := lv_neT (a := 5) c_5 (by decide)
      have t6 := lv_neT (a := 6) c_6 (by decide)
      have t7 := lv_neT (a := 7) c_7 (by decide)
      have t8 := lv_neT (a := 8) c_8 (by decide)
      have t9 := lv_neT (a := 9) c_9 (by decide)
      have t10 := lv_neT (a := 10) c_10 (by decide)
      have t11 := lv_neT (a := 11) c_11 (by decide)
      have t12 := lv_neT (a := 12) c_12 (by decide)
      have t13 := lv_neT (a := 13) c_13 (by decide)
      have t14 := lv_neT (a := 14) c_14 (by decide)
      have t15 := lv_neT (a := 15) c_15 (by decide)
      have t16 := lv_neT (a := 16) c_16 (by decide)
      have t17 := lv_neT (a := 17) c_17 (by decide)
      have t18 := lv_neT (a := 18) c_18 (by decide)
      have t19 := lv_neT (a := 19) c_19 (by decide)
      refine lv_tableOut (tgt := 951) hx hb d_L_law_33 (by omega) (by decide) ?_
      exact tail σ τ hR H locs hP hD hS
set_option maxHeartbeats 16000000 in
set_option maxRecDepth 100000 in
theorem whole_start {p : Program} {e : Env} {s : State} {m : MethodId} {below : List Frame} {meth : Method} {c : Code} (l : Launch) {b L : Nat} {xs : Nat → Int32} (hL : L ≤ 4096) (C0 : lw_At p s m meth c b L xs) : W p l e room_1 s m #[Value.ref b] below meth c s.heap [] 0 0 (lw_Z below #[Value.ref b] s) (entryFrame m ([Value.ref b] : List Value).toArray 4) := by
  obtain ⟨hx, hb, hr, hml, hown, hts, hX, hbl, hlocks, hgv⟩ := id C0
  obtain ⟨A, eA⟩ : ∃ z : Nat → Prop, z = (fun q : Nat => s.heap.size ≤ q) := ⟨_, rfl⟩
  have hA : ∀ q : Nat, s.heap.size ≤ q → A q := fun _ h => by rw [eA]; exact h
  obtain ⟨c0, iS0, hKn0⟩ := u_known (C := "HalfFloats") (T := T_X) (N := 9) (n := 9) hts (fun w h => hx_low _ (in_X w h)) (hts _ (hx_low _ k_61))
  obtain ⟨c1, iS1, hKn1⟩ := u_known (C := "HalfFloats$Format") (T := T_F) (N := 8) (n := 8) hts (fun w h => hx_low _ (in_F w h)) (hts _ (hx_low _ k_70))
  obtain ⟨c2, iS2, hKn2⟩ := u_known (C := "HalfFloats$Row") (T := T_R) (N := 3) (n := 3) hts (fun w h => hx_low _ (in_R w h)) (hts _ (hx_low _ k_117))
  obtain ⟨c3, iS3, hKn3⟩ := u_known (C := "HalfFloats$Exact") (T := T_E) (N := 12) (n := 12) hts (fun w h => hx_low _ (in_E w h)) (hts _ (hx_low _ k_137))
  obtain ⟨c4, iS4, hKn4⟩ := u_known (C := "HalfFloats$Rounder") (T := T_D) (N := 2) (n := 2) hts (fun w h => hx_low _ (in_D w h)) (hts _ (hx_low _ k_190))
  obtain ⟨c5, iS5, hKn5⟩ := u_known (C := "HalfFloatsModel") (T := T_M) (N := 21) (n := 21) hts (fun w h => hx_low _ (in_M w h)) (hts _ (hx_low _ k_547))
  obtain ⟨D, hKc⟩ : ∃ D : va_G, ∀ (k : Nat) (q : vw_C), vwCl[k]? = some q → u_Kn s q.1 q.2.1 q.2.2 (D.1 k) (D.2 k) := by
    refine ⟨(fun k => if k = 0 then c0 else if k = 1 then c1 else if k = 2 then c2 else if k = 3 then c3 else if k = 4 then c4 else c5, fun k => if k = 0 then iS0 else if k = 1 then iS1 else if k = 2 then iS2 else if k = 3 then iS3 else if k = 4 then iS4 else iS5), ?_⟩
    intro k q hq
    match k, hq with
    | 0, hq => cases hq; exact hKn0
    | 1, hq => cases hq; exact hKn1
    | 2, hq => cases hq; exact hKn2
    | 3, hq => cases hq; exact hKn3
    | 4, hq => cases hq; exact hKn4
    | 5, hq => cases hq; exact hKn5
    | k + 6, hq => simp [vwCl] at hq
  obtain ⟨T3, hK3⟩ := hx_K0 hts
  have hK : va_K D vwCl (hx_ty T3) s := ⟨hKc, hK3⟩
  have hAO : va_AO "HalfFloats$Format" s := va_AO.of (hts _ k_69)
  have hS : va_S A s.heap s.heap [] := va_S.rf
  have hP : va_P D vwCl [] s.heap := fun k q h => by simp at h
  have hD : va_D A [] := ⟨fun i j p q h => by simp at h, fun k q h => by simp at h⟩
  have hl := lv_entry ([.ref b]) (n := 4) (Nat.le_of_ble_eq_true rfl)
  rw [lg_entry_eq]
  generalize (lg_sl ([.ref b]) ++ List.replicate (4 - (lg_sl ([.ref b])).length) Slot.unset).toArray = ls at hl ⊢
  have hl : lv_has ls 4 [(0, .ref b)] := hl
  refine va_new (ci := 0) (fs := [.null, .null, .null, .null, .null, .null, .int 0, .int 0, .int 0]) (C := "HalfFloats") (T := T_X) (N := 9) hx hb hts (fun w h => hx_low _ (in_X w h)) ty_X tyok_X hown (hts _ (hx_low _ k_60)) (hts _ (hx_low _ k_61)) (hts _ (hx_low _ k_50)) hK hP hD hS hA rfl (fun j hj => by rcases (show j = 0 ∨ j = 1 ∨ j = 2 ∨ j = 3 ∨ j = 4 ∨ j = 5 ∨ j = 6 ∨ j = 7 ∨ j = 8 by omega) with rfl | rfl | rfl | rfl | rfl | rfl | rfl | rfl | rfl <;> rfl) (Nat.le_of_ble_eq_true rfl) (Nat.le_of_ble_eq_true rfl) d_L_law_0 (fun q0 H hP hD hS => ?_)
  have hP : va_P D vwCl ([] ++ [(q0, .inr (0, [.null, .null, .null, .null, .null, .null, .int 0, .int 0, .int 0]))]) H := hP
  have hD : va_D A ([] ++ [(q0, .inr (0, [.null, .null, .null, .null, .null, .null, .int 0, .int 0, .int 0]))]) := hD
  have hP := hx_swapP hP
  have hD := hx_swapD hD
  refine W.widen (k := 1) (n := 9) (Nat.le_refl _) (Nat.le_refl _) ?_
  refine lv_dup hx hb d_L_law_3 rfl ?_
  have hF := hx_free (hx_D_l hD) hS hA
  refine va_callv (va_runI (As := []) (rest := [.ref q0]) ⟨hx, hb, hml, hown, hts⟩ (c_X_init l D T3 q0 _) (cwI 0 hts (hx_gI hx_low k_64) rfl rfl rfl (hts _ (hx_low _ k_50)) (hts _ (hx_low _ k_62)) (hts _ (hx_low _ k_63)) rfl (by decide +kernel) ⟨(Nat.le_of_ble_eq_true rfl), (Nat.le_of_ble_eq_true rfl)⟩) ⟨hx_bX, fun U hU hW => ⟨⟨rfl, by rw [hU], by rw [hU]; exact hx_app_l hP, va_K.moved hW.alike hK, (hx_D_l hD).weaken (fun _ _ _ _ => trivial)⟩, va_AO.moved hW.alike hAO⟩⟩ rfl rfl hl.1 rfl (lv_room (Nat.le_of_ble_eq_true rfl)) d_L_law_4 ⟨(Nat.le_of_ble_eq_true rfl), (Nat.le_of_ble_eq_true rfl)⟩) hS (fun q _ h => hF q h) hF (fun ad t H1 locs ht hvm hw hB hz1 hk1 hS => ?_)
  obtain ⟨hP1, hK1, hD1⟩ := hB
  rw [ht] at hP1
  obtain ⟨hP, hD⟩ := hx_joinA hP hD hk1 hF hP1 hD1
  generalize H1 = H at hP hS ⊢
  clear hF hk1 hz1 hP1 hK1 hD1 hvm ht
  refine W.widen (k := 14) (n := 181) (Nat.le_refl _) (Nat.le_refl _) ?_
  have hw : ad 0 = q0 := hw
  rw [← hw]
  have hP : va_P D vwCl (hx_W T3 ad hx_init) H := hx_app_l hP
  have hD : va_D A (hx_W T3 ad hx_init) := hx_D_l hD
  refine lv_astore_n (lv' := [(1, .ref (ad 0)), (0, .ref b)]) hx hb d_L_law_7 rfl hl (by decide) rfl (fun ls hl => ?_)
  refine va_new (ci := 5) (fs := [.null, .null, .null, .null, .null, .null, .int 0, .long 0, .int 0, .int 0, .int 0, .null, .int 0, .int 0, .int 0, .int 0, .int 0, .int 0, .int 0, .int 0, .null]) (C := "HalfFloatsModel") (T := T_M) (N := 21) hx hb hts (fun w h => hx_low _ (in_M w h)) ty_M tyok_M hown (hts _ (hx_low _ k_546)) (hts _ (hx_low _ k_547)) (hts _ (hx_low _ k_55)) hK hP hD hS hA rfl (fun j hj => by rcases (show j = 0 ∨ j = 1 ∨ j = 2 ∨ j = 3 ∨ j = 4 ∨ j = 5 ∨ j = 6 ∨ j = 7 ∨ j = 8 ∨ j = 9 ∨ j = 10 ∨ j = 11 ∨ j = 12 ∨ j = 13 ∨ j = 14 ∨ j = 15 ∨ j = 16 ∨ j = 17 ∨ j = 18 ∨ j = 19 ∨ j = 20 by omega) with rfl | rfl | rfl | rfl | rfl | rfl | rfl | rfl | rfl | rfl | rfl | rfl | rfl | rfl | rfl | rfl | rfl | rfl | rfl | rfl | rfl <;> rfl) (Nat.le_of_ble_eq_true rfl) (Nat.le_of_ble_eq_true rfl) d_L_law_8 (fun q1 H hP hD hS => ?_)
  have hP : va_P D vwCl (hx_W T3 ad hx_init ++ [(q1, .inr (5, [.null, .null, .null, .null, .null, .null, .int 0, .long 0, .int 0, .int 0, .int 0, .null, .int 0, .int 0, .int 0, .int 0, .int 0, .int 0, .int 0, .int 0, .null]))]) H := hP
  have hD : va_D A (hx_W T3 ad hx_init ++ [(q1, .inr (5, [.null, .null, .null, .null, .null, .null, .int 0, .long 0, .int 0, .int 0, .int 0, .null, .int 0, .int 0, .int 0, .int 0, .int 0, .int 0, .int 0, .int 0, .null]))]) := hD
  have hP := hx_swapP hP
  have hD := hx_swapD hD
  refine W.widen (k := 15) (n := 202) (Nat.le_refl _) (Nat.le_refl _) ?_
  refine lv_dup hx hb d_L_law_11 rfl ?_
  obtain ⟨τ0, eτ0, hR0⟩ := sim_init
  have hF := hx_free (hx_D_l hD) hS hA
  refine va_callv (va_runI (As := []) (rest := [.ref q1]) ⟨hx, hb, hml, hown, hts⟩ (c_M_init l D T3 q1 _ τ0 eτ0) (cwI 0 hts (hx_gI hx_low k_550) rfl rfl rfl (hts _ (hx_low _ k_55)) (hts _ (hx_low _ k_548)) (hts _ (hx_low _ k_549)) rfl (by decide +kernel) ⟨(Nat.le_of_ble_eq_true rfl), (Nat.le_of_ble_eq_true rfl)⟩) ⟨hx_bW, fun U hU hW => ⟨rfl, by rw [hU], by rw [hU]; exact hx_app_l hP, va_K.moved hW.alike hK, (hx_D_l hD).weaken (fun _ _ _ _ => trivial)⟩⟩ rfl rfl hl.1 rfl (lv_room (Nat.le_of_ble_eq_true rfl)) d_L_law_12 ⟨(Nat.le_of_ble_eq_true rfl), (Nat.le_of_ble_eq_true rfl)⟩) hS (fun q _ h => hF q h) hF (fun bd t H1 locs ht hvm hw hB hz1 hk1 hS => ?_)
  obtain ⟨hP1, hK1, hD1⟩ := hB
  rw [ht] at hP1
  obtain ⟨hP, hD⟩ := hx_joinA hP hD hk1 hF hP1 hD1
  generalize H1 = H at hP hS ⊢
  clear hF hk1 hz1 hP1 hK1 hD1 hvm ht
  refine W.widen (k := 23) (n := 338) (Nat.le_refl _) (Nat.le_refl _) ?_
  have hw2 : bd 0 = q1 := hw
  rw [← hw2]
  have hP : va_P D vwCl (hx_W T3 ad hx_init ++ hm_W T3 bd τ0) H := hx_swapP hP
  have hD : va_D A (hx_W T3 ad hx_init ++ hm_W T3 bd τ0) := hx_swapD hD
  refine lv_astore_n (lv' := [(2, .ref (bd 0)), (1, .ref (ad 0)), (0, .ref b)]) hx hb d_L_law_15 rfl hl (by decide) rfl (fun ls hl => ?_)
  refine lv_iconst (v := 0) hx hb d_L_law_16 (by decide) ?_
  refine lv_istore_n (lv' := [(3, .int 0), (2, .ref (bd 0)), (1, .ref (ad 0)), (0, .ref b)]) hx hb d_L_law_17 rfl hl (by decide) rfl (fun ls hl => ?_)
  rw [eA] at hD hS
  exact law_loop hL C0 hK ad bd (L + 1) 0 0 (Nat.zero_le L) (by omega) nI_0.symm hx_init τ0 hR0 _ _ hP hD hS ls (lv_sub hl [3, 2, 1, 0] rfl)
