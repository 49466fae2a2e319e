abbrev hx_Fm : Type := Int32 × Int32 × Int32 × Int32 × Int32 × Int32 × Int32 × Int32
abbrev hx_Rw : Type := (Nat → Int32) × Int32 × Int32
abbrev hx_Ex : Type := Int32 × Int32 × Int32 × Int32 × Int32 × Int32 × Int32 × Int32 × Int64 × Int32 × Int32 × (Nat → Int64)
abbrev hx_Rd : Type := Int32 × Int64
abbrev hx_S : Type := (Nat → hx_Fm) × (Nat → hx_Rw) × hx_Ex × hx_Rd × (Nat → Int32) × Int32 × Int32 × Int32
abbrev hx_T3 : Type := ClassId × ClassId × ClassId
def hx_fm_expBits (v : hx_Fm) : Int32 := v.1
def hx_fm_fracBits (v : hx_Fm) : Int32 := v.2.1
def hx_fm_kind (v : hx_Fm) : Int32 := v.2.2.1
def hx_fm_width (v : hx_Fm) : Int32 := v.2.2.2.1
def hx_fm_limit (v : hx_Fm) : Int32 := v.2.2.2.2.1
def hx_fm_theNan (v : hx_Fm) : Int32 := v.2.2.2.2.2.1
def hx_fm_leastTop (v : hx_Fm) : Int32 := v.2.2.2.2.2.2.1
def hx_fm_leastPower (v : hx_Fm) : Int32 := v.2.2.2.2.2.2.2
def hx_fm_expBits_s (v : hx_Fm) (x : Int32) : hx_Fm := (x, v.2.1, v.2.2.1, v.2.2.2.1, v.2.2.2.2.1, v.2.2.2.2.2.1, v.2.2.2.2.2.2.1, v.2.2.2.2.2.2.2)
def hx_fm_fracBits_s (v : hx_Fm) (x : Int32) : hx_Fm := (v.1, x, v.2.2.1, v.2.2.2.1, v.2.2.2.2.1, v.2.2.2.2.2.1, v.2.2.2.2.2.2.1, v.2.2.2.2.2.2.2)
def hx_fm_kind_s (v : hx_Fm) (x : Int32) : hx_Fm := (v.1, v.2.1, x, v.2.2.2.1, v.2.2.2.2.1, v.2.2.2.2.2.1, v.2.2.2.2.2.2.1, v.2.2.2.2.2.2.2)
def hx_fm_width_s (v : hx_Fm) (x : Int32) : hx_Fm := (v.1, v.2.1, v.2.2.1, x, v.2.2.2.2.1, v.2.2.2.2.2.1, v.2.2.2.2.2.2.1, v.2.2.2.2.2.2.2)
def hx_fm_limit_s (v : hx_Fm) (x : Int32) : hx_Fm := (v.1, v.2.1, v.2.2.1, v.2.2.2.1, x, v.2.2.2.2.2.1, v.2.2.2.2.2.2.1, v.2.2.2.2.2.2.2)
def hx_fm_theNan_s (v : hx_Fm) (x : Int32) : hx_Fm := (v.1, v.2.1, v.2.2.1, v.2.2.2.1, v.2.2.2.2.1, x, v.2.2.2.2.2.2.1, v.2.2.2.2.2.2.2)
def hx_fm_leastTop_s (v : hx_Fm) (x : Int32) : hx_Fm := (v.1, v.2.1, v.2.2.1, v.2.2.2.1, v.2.2.2.2.1, v.2.2.2.2.2.1, x, v.2.2.2.2.2.2.2)
def hx_fm_leastPower_s (v : hx_Fm) (x : Int32) : hx_Fm := (v.1, v.2.1, v.2.2.1, v.2.2.2.1, v.2.2.2.2.1, v.2.2.2.2.2.1, v.2.2.2.2.2.2.1, x)
def hx_fmL (v : hx_Fm) : List Value := [.int (hx_fm_expBits v), .int (hx_fm_fracBits v), .int (hx_fm_kind v), .int (hx_fm_width v), .int (hx_fm_limit v), .int (hx_fm_theNan v), .int (hx_fm_leastTop v), .int (hx_fm_leastPower v)]
def hx_F1 (h : Nat) (v : hx_Fm) : va_W := [(h, .inr (1, hx_fmL v))]
theorem hx_at_F1 {h : Nat} {v : hx_Fm} : (hx_F1 h v)[0]? = some (h, .inr (1, hx_fmL v)) := rfl
def hx_rw_pats (v : hx_Rw) : Nat → Int32 := v.1
def hx_rw_size (v : hx_Rw) : Int32 := v.2.1
def hx_rw_format (v : hx_Rw) : Int32 := v.2.2
def hx_rwL (hp : Nat) (v : hx_Rw) : List Value := [.ref hp, .int (hx_rw_size v), .int (hx_rw_format v)]
def hx_R1 (h hp : Nat) (v : hx_Rw) : va_W := [(h, .inr (2, hx_rwL hp v))]
theorem hx_at_R1 {h hp : Nat} {v : hx_Rw} : (hx_R1 h hp v)[0]? = some (h, .inr (2, hx_rwL hp v)) := rfl
def hx_A1 (T3 : hx_T3) (h : Nat) (v : Nat → Int64) : va_W := [(h, .inl (T3.2.2, 20, .inr (.inl v)))]
theorem hx_at_A1 {T3 : hx_T3} {h : Nat} {v : Nat → Int64} : (hx_A1 T3 h v)[0]? = some (h, .inl (T3.2.2, 20, .inr (.inl v))) := rfl
def hx_fm (σ : hx_S) (k : Nat) : hx_Fm := σ.1 k
def hx_rw (σ : hx_S) (k : Nat) : hx_Rw := σ.2.1 k
def hx_tr (σ : hx_S) : Nat → Int32 := σ.2.2.2.2.1
def hx_shift (σ : hx_S) : Int32 := σ.2.2.2.2.2.1
def hx_streak (σ : hx_S) : Int32 := σ.2.2.2.2.2.2.1
def hx_goal (σ : hx_S) : Int32 := σ.2.2.2.2.2.2.2
def hx_fm_s (σ : hx_S) (k : Nat) (v : hx_Fm) : hx_S := ((fun j => if j = k then v else σ.1 j), σ.2.1, σ.2.2.1, σ.2.2.2.1, σ.2.2.2.2.1, σ.2.2.2.2.2.1, σ.2.2.2.2.2.2.1, σ.2.2.2.2.2.2.2)
def hx_rw_s (σ : hx_S) (k : Nat) (v : hx_Rw) : hx_S := (σ.1, (fun j => if j = k then v else σ.2.1 j), σ.2.2.1, σ.2.2.2.1, σ.2.2.2.2.1, σ.2.2.2.2.2.1, σ.2.2.2.2.2.2.1, σ.2.2.2.2.2.2.2)
def hx_shift_s (σ : hx_S) (x : Int32) : hx_S := (σ.1, σ.2.1, σ.2.2.1, σ.2.2.2.1, σ.2.2.2.2.1, x, σ.2.2.2.2.2.2.1, σ.2.2.2.2.2.2.2)
def hx_streak_s (σ : hx_S) (x : Int32) : hx_S := (σ.1, σ.2.1, σ.2.2.1, σ.2.2.2.1, σ.2.2.2.2.1, σ.2.2.2.2.2.1, x, σ.2.2.2.2.2.2.2)
def hx_goal_s (σ : hx_S) (x : Int32) : hx_S := (σ.1, σ.2.1, σ.2.2.1, σ.2.2.2.1, σ.2.2.2.2.1, σ.2.2.2.2.2.1, σ.2.2.2.2.2.2.1, x)
def hx_tr_s (σ : hx_S) (i : Nat) (x : Int32) : hx_S := (σ.1, σ.2.1, σ.2.2.1, σ.2.2.2.1, (upd σ.2.2.2.2.1 i x), σ.2.2.2.2.2.1, σ.2.2.2.2.2.2.1, σ.2.2.2.2.2.2.2)
def hx_ex_hasNan (σ : hx_S) : Int32 := σ.2.2.1.1
def hx_ex_hasNan_s (σ : hx_S) (x : Int32) : hx_S := (σ.1, σ.2.1, (x, σ.2.2.1.2.1, σ.2.2.1.2.2.1, σ.2.2.1.2.2.2.1, σ.2.2.1.2.2.2.2.1, σ.2.2.1.2.2.2.2.2.1, σ.2.2.1.2.2.2.2.2.2.1, σ.2.2.1.2.2.2.2.2.2.2.1, σ.2.2.1.2.2.2.2.2.2.2.2.1, σ.2.2.1.2.2.2.2.2.2.2.2.2.1, σ.2.2.1.2.2.2.2.2.2.2.2.2.2.1, σ.2.2.1.2.2.2.2.2.2.2.2.2.2.2), σ.2.2.2.1, σ.2.2.2.2.1, σ.2.2.2.2.2.1, σ.2.2.2.2.2.2.1, σ.2.2.2.2.2.2.2)
def hx_ex_zeroTimesInfinite (σ : hx_S) : Int32 := σ.2.2.1.2.1
def hx_ex_zeroTimesInfinite_s (σ : hx_S) (x : Int32) : hx_S := (σ.1, σ.2.1, (σ.2.2.1.1, x, σ.2.2.1.2.2.1, σ.2.2.1.2.2.2.1, σ.2.2.1.2.2.2.2.1, σ.2.2.1.2.2.2.2.2.1, σ.2.2.1.2.2.2.2.2.2.1, σ.2.2.1.2.2.2.2.2.2.2.1, σ.2.2.1.2.2.2.2.2.2.2.2.1, σ.2.2.1.2.2.2.2.2.2.2.2.2.1, σ.2.2.1.2.2.2.2.2.2.2.2.2.2.1, σ.2.2.1.2.2.2.2.2.2.2.2.2.2.2), σ.2.2.2.1, σ.2.2.2.2.1, σ.2.2.2.2.2.1, σ.2.2.2.2.2.2.1, σ.2.2.2.2.2.2.2)
def hx_ex_plusInfinite (σ : hx_S) : Int32 := σ.2.2.1.2.2.1
def hx_ex_plusInfinite_s (σ : hx_S) (x : Int32) : hx_S := (σ.1, σ.2.1, (σ.2.2.1.1, σ.2.2.1.2.1, x, σ.2.2.1.2.2.2.1, σ.2.2.1.2.2.2.2.1, σ.2.2.1.2.2.2.2.2.1, σ.2.2.1.2.2.2.2.2.2.1, σ.2.2.1.2.2.2.2.2.2.2.1, σ.2.2.1.2.2.2.2.2.2.2.2.1, σ.2.2.1.2.2.2.2.2.2.2.2.2.1, σ.2.2.1.2.2.2.2.2.2.2.2.2.2.1, σ.2.2.1.2.2.2.2.2.2.2.2.2.2.2), σ.2.2.2.1, σ.2.2.2.2.1, σ.2.2.2.2.2.1, σ.2.2.2.2.2.2.1, σ.2.2.2.2.2.2.2)
def hx_ex_minusInfinite (σ : hx_S) : Int32 := σ.2.2.1.2.2.2.1
def hx_ex_minusInfinite_s (σ : hx_S) (x : Int32) : hx_S := (σ.1, σ.2.1, (σ.2.2.1.1, σ.2.2.1.2.1, σ.2.2.1.2.2.1, x, σ.2.2.1.2.2.2.2.1, σ.2.2.1.2.2.2.2.2.1, σ.2.2.1.2.2.2.2.2.2.1, σ.2.2.1.2.2.2.2.2.2.2.1, σ.2.2.1.2.2.2.2.2.2.2.2.1, σ.2.2.1.2.2.2.2.2.2.2.2.2.1, σ.2.2.1.2.2.2.2.2.2.2.2.2.2.1, σ.2.2.1.2.2.2.2.2.2.2.2.2.2.2), σ.2.2.2.1, σ.2.2.2.2.1, σ.2.2.2.2.2.1, σ.2.2.2.2.2.2.1, σ.2.2.2.2.2.2.2)
def hx_ex_plusSeen (σ : hx_S) : Int32 := σ.2.2.1.2.2.2.2.1
def hx_ex_plusSeen_s (σ : hx_S) (x : Int32) : hx_S := (σ.1, σ.2.1, (σ.2.2.1.1, σ.2.2.1.2.1, σ.2.2.1.2.2.1, σ.2.2.1.2.2.2.1, x, σ.2.2.1.2.2.2.2.2.1, σ.2.2.1.2.2.2.2.2.2.1, σ.2.2.1.2.2.2.2.2.2.2.1, σ.2.2.1.2.2.2.2.2.2.2.2.1, σ.2.2.1.2.2.2.2.2.2.2.2.2.1, σ.2.2.1.2.2.2.2.2.2.2.2.2.2.1, σ.2.2.1.2.2.2.2.2.2.2.2.2.2.2), σ.2.2.2.1, σ.2.2.2.2.1, σ.2.2.2.2.2.1, σ.2.2.2.2.2.2.1, σ.2.2.2.2.2.2.2)
def hx_ex_minusSeen (σ : hx_S) : Int32 := σ.2.2.1.2.2.2.2.2.1
def hx_ex_minusSeen_s (σ : hx_S) (x : Int32) : hx_S := (σ.1, σ.2.1, (σ.2.2.1.1, σ.2.2.1.2.1, σ.2.2.1.2.2.1, σ.2.2.1.2.2.2.1, σ.2.2.1.2.2.2.2.1, x, σ.2.2.1.2.2.2.2.2.2.1, σ.2.2.1.2.2.2.2.2.2.2.1, σ.2.2.1.2.2.2.2.2.2.2.2.1, σ.2.2.1.2.2.2.2.2.2.2.2.2.1, σ.2.2.1.2.2.2.2.2.2.2.2.2.2.1, σ.2.2.1.2.2.2.2.2.2.2.2.2.2.2), σ.2.2.2.1, σ.2.2.2.2.1, σ.2.2.2.2.2.1, σ.2.2.2.2.2.2.1, σ.2.2.2.2.2.2.2)
def hx_ex_nonzero (σ : hx_S) : Int32 := σ.2.2.1.2.2.2.2.2.2.1
def hx_ex_nonzero_s (σ : hx_S) (x : Int32) : hx_S := (σ.1, σ.2.1, (σ.2.2.1.1, σ.2.2.1.2.1, σ.2.2.1.2.2.1, σ.2.2.1.2.2.2.1, σ.2.2.1.2.2.2.2.1, σ.2.2.1.2.2.2.2.2.1, x, σ.2.2.1.2.2.2.2.2.2.2.1, σ.2.2.1.2.2.2.2.2.2.2.2.1, σ.2.2.1.2.2.2.2.2.2.2.2.2.1, σ.2.2.1.2.2.2.2.2.2.2.2.2.2.1, σ.2.2.1.2.2.2.2.2.2.2.2.2.2.2), σ.2.2.2.1, σ.2.2.2.2.1, σ.2.2.2.2.2.1, σ.2.2.2.2.2.2.1, σ.2.2.2.2.2.2.2)
def hx_ex_negative (σ : hx_S) : Int32 := σ.2.2.1.2.2.2.2.2.2.2.1
def hx_ex_negative_s (σ : hx_S) (x : Int32) : hx_S := (σ.1, σ.2.1, (σ.2.2.1.1, σ.2.2.1.2.1, σ.2.2.1.2.2.1, σ.2.2.1.2.2.2.1, σ.2.2.1.2.2.2.2.1, σ.2.2.1.2.2.2.2.2.1, σ.2.2.1.2.2.2.2.2.2.1, x, σ.2.2.1.2.2.2.2.2.2.2.2.1, σ.2.2.1.2.2.2.2.2.2.2.2.2.1, σ.2.2.1.2.2.2.2.2.2.2.2.2.2.1, σ.2.2.1.2.2.2.2.2.2.2.2.2.2.2), σ.2.2.2.1, σ.2.2.2.2.1, σ.2.2.2.2.2.1, σ.2.2.2.2.2.2.1, σ.2.2.2.2.2.2.2)
def hx_ex_whole (σ : hx_S) : Int64 := σ.2.2.1.2.2.2.2.2.2.2.2.1
def hx_ex_whole_s (σ : hx_S) (x : Int64) : hx_S := (σ.1, σ.2.1, (σ.2.2.1.1, σ.2.2.1.2.1, σ.2.2.1.2.2.1, σ.2.2.1.2.2.2.1, σ.2.2.1.2.2.2.2.1, σ.2.2.1.2.2.2.2.2.1, σ.2.2.1.2.2.2.2.2.2.1, σ.2.2.1.2.2.2.2.2.2.2.1, x, σ.2.2.1.2.2.2.2.2.2.2.2.2.1, σ.2.2.1.2.2.2.2.2.2.2.2.2.2.1, σ.2.2.1.2.2.2.2.2.2.2.2.2.2.2), σ.2.2.2.1, σ.2.2.2.2.1, σ.2.2.2.2.2.1, σ.2.2.2.2.2.2.1, σ.2.2.2.2.2.2.2)
def hx_ex_power (σ : hx_S) : Int32 := σ.2.2.1.2.2.2.2.2.2.2.2.2.1
def hx_ex_power_s (σ : hx_S) (x : Int32) : hx_S := (σ.1, σ.2.1, (σ.2.2.1.1, σ.2.2.1.2.1, σ.2.2.1.2.2.1, σ.2.2.1.2.2.2.1, σ.2.2.1.2.2.2.2.1, σ.2.2.1.2.2.2.2.2.1, σ.2.2.1.2.2.2.2.2.2.1, σ.2.2.1.2.2.2.2.2.2.2.1, σ.2.2.1.2.2.2.2.2.2.2.2.1, x, σ.2.2.1.2.2.2.2.2.2.2.2.2.2.1, σ.2.2.1.2.2.2.2.2.2.2.2.2.2.2), σ.2.2.2.1, σ.2.2.2.2.1, σ.2.2.2.2.2.1, σ.2.2.2.2.2.2.1, σ.2.2.2.2.2.2.2)
def hx_ex_more (σ : hx_S) : Int32 := σ.2.2.1.2.2.2.2.2.2.2.2.2.2.1
def hx_ex_more_s (σ : hx_S) (x : Int32) : hx_S := (σ.1, σ.2.1, (σ.2.2.1.1, σ.2.2.1.2.1, σ.2.2.1.2.2.1, σ.2.2.1.2.2.2.1, σ.2.2.1.2.2.2.2.1, σ.2.2.1.2.2.2.2.2.1, σ.2.2.1.2.2.2.2.2.2.1, σ.2.2.1.2.2.2.2.2.2.2.1, σ.2.2.1.2.2.2.2.2.2.2.2.1, σ.2.2.1.2.2.2.2.2.2.2.2.2.1, x, σ.2.2.1.2.2.2.2.2.2.2.2.2.2.2), σ.2.2.2.1, σ.2.2.2.2.1, σ.2.2.2.2.2.1, σ.2.2.2.2.2.2.1, σ.2.2.2.2.2.2.2)
def hx_ex_limbs (σ : hx_S) : Nat → Int64 := σ.2.2.1.2.2.2.2.2.2.2.2.2.2.2
def hx_ex_limbs_s (σ : hx_S) (i : Nat) (x : Int64) : hx_S := (σ.1, σ.2.1, (σ.2.2.1.1, σ.2.2.1.2.1, σ.2.2.1.2.2.1, σ.2.2.1.2.2.2.1, σ.2.2.1.2.2.2.2.1, σ.2.2.1.2.2.2.2.2.1, σ.2.2.1.2.2.2.2.2.2.1, σ.2.2.1.2.2.2.2.2.2.2.1, σ.2.2.1.2.2.2.2.2.2.2.2.1, σ.2.2.1.2.2.2.2.2.2.2.2.2.1, σ.2.2.1.2.2.2.2.2.2.2.2.2.2.1, (vp_updL σ.2.2.1.2.2.2.2.2.2.2.2.2.2.2 i x)), σ.2.2.2.1, σ.2.2.2.2.1, σ.2.2.2.2.2.1, σ.2.2.2.2.2.2.1, σ.2.2.2.2.2.2.2)
def hx_ex_limbs_all (σ : hx_S) (f : Nat → Int64) : hx_S := (σ.1, σ.2.1, (σ.2.2.1.1, σ.2.2.1.2.1, σ.2.2.1.2.2.1, σ.2.2.1.2.2.2.1, σ.2.2.1.2.2.2.2.1, σ.2.2.1.2.2.2.2.2.1, σ.2.2.1.2.2.2.2.2.2.1, σ.2.2.1.2.2.2.2.2.2.2.1, σ.2.2.1.2.2.2.2.2.2.2.2.1, σ.2.2.1.2.2.2.2.2.2.2.2.2.1, σ.2.2.1.2.2.2.2.2.2.2.2.2.2.1, f), σ.2.2.2.1, σ.2.2.2.2.1, σ.2.2.2.2.2.1, σ.2.2.2.2.2.2.1, σ.2.2.2.2.2.2.2)
def hx_rd_raised (σ : hx_S) : Int32 := σ.2.2.2.1.1
def hx_rd_state (σ : hx_S) : Int64 := σ.2.2.2.1.2
def hx_rd_raised_s (σ : hx_S) (x : Int32) : hx_S := (σ.1, σ.2.1, σ.2.2.1, (x, σ.2.2.2.1.2), σ.2.2.2.2.1, σ.2.2.2.2.2.1, σ.2.2.2.2.2.2.1, σ.2.2.2.2.2.2.2)
def hx_rd_state_s (σ : hx_S) (x : Int64) : hx_S := (σ.1, σ.2.1, σ.2.2.1, (σ.2.2.2.1.1, x), σ.2.2.2.2.1, σ.2.2.2.2.2.1, σ.2.2.2.2.2.2.1, σ.2.2.2.2.2.2.2)
def hx_pat (σ : hx_S) (k : Nat) : Nat → Int32 := (σ.2.1 k).1
def hx_pat_s (σ : hx_S) (k i : Nat) (x : Int32) : hx_S := hx_rw_s σ k (upd (σ.2.1 k).1 i x, (σ.2.1 k).2)
def hx_size (σ : hx_S) (k : Nat) : Int32 := hx_rw_size (σ.2.1 k)
def hx_format (σ : hx_S) (k : Nat) : Int32 := hx_rw_format (σ.2.1 k)
def hx_size_s (σ : hx_S) (k : Nat) (x : Int32) : hx_S := hx_rw_s σ k ((σ.2.1 k).1, x, (σ.2.1 k).2.2)
def hx_format_s (σ : hx_S) (k : Nat) (x : Int32) : hx_S := hx_rw_s σ k ((σ.2.1 k).1, (σ.2.1 k).2.1, x)
def hx_W (T3 : hx_T3) (ad : Nat → Nat) (σ : hx_S) : va_W := [(ad 0, .inr (0, [.ref (ad 1), .ref (ad 6), .ref (ad 8), .ref (ad 10), .ref (ad 12), .ref (ad 13), .int (hx_shift σ), .int (hx_streak σ), .int (hx_goal σ)])), (ad 1, .inl (T3.1, 4, .inr (.inr (.inr (.inr (fun j => some (ad (2 + j)))))))), (ad 2, .inr (1, hx_fmL (σ.1 0))), (ad 3, .inr (1, hx_fmL (σ.1 1))), (ad 4, .inr (1, hx_fmL (σ.1 2))), (ad 5, .inr (1, hx_fmL (σ.1 3))), (ad 6, .inr (2, hx_rwL (ad 7) (σ.2.1 0))), (ad 7, .inl (T3.2.1, 32, .inl (σ.2.1 0).1)), (ad 8, .inr (2, hx_rwL (ad 9) (σ.2.1 1))), (ad 9, .inl (T3.2.1, 32, .inl (σ.2.1 1).1)), (ad 10, .inr (3, [.int (hx_ex_hasNan σ), .int (hx_ex_zeroTimesInfinite σ), .int (hx_ex_plusInfinite σ), .int (hx_ex_minusInfinite σ), .int (hx_ex_plusSeen σ), .int (hx_ex_minusSeen σ), .int (hx_ex_nonzero σ), .int (hx_ex_negative σ), .long (hx_ex_whole σ), .int (hx_ex_power σ), .int (hx_ex_more σ), .ref (ad 11)])), (ad 11, .inl (T3.2.2, 20, .inr (.inl (hx_ex_limbs σ)))), (ad 12, .inr (4, [.int (hx_rd_raised σ), .long (hx_rd_state σ)])), (ad 13, .inl (T3.2.1, 32, .inl (hx_tr σ)))]
abbrev hx_ty (T3 : hx_T3) : List (ClassId × FieldType) := [(T3.1, .object "HalfFloats$Format"), (T3.2.1, .int), (T3.2.2, .long)]
theorem hx_at_X {T3 : hx_T3} {ad : Nat → Nat} {σ : hx_S} : (hx_W T3 ad σ)[0]? = some (ad 0, .inr (0, [.ref (ad 1), .ref (ad 6), .ref (ad 8), .ref (ad 10), .ref (ad 12), .ref (ad 13), .int (hx_shift σ), .int (hx_streak σ), .int (hx_goal σ)])) := rfl
theorem hx_at_FA {T3 : hx_T3} {ad : Nat → Nat} {σ : hx_S} : (hx_W T3 ad σ)[1]? = some (ad 1, .inl (T3.1, 4, .inr (.inr (.inr (.inr (fun j => some (ad (2 + j)))))))) := rfl
theorem hx_at_E {T3 : hx_T3} {ad : Nat → Nat} {σ : hx_S} : (hx_W T3 ad σ)[10]? = some (ad 10, .inr (3, [.int (hx_ex_hasNan σ), .int (hx_ex_zeroTimesInfinite σ), .int (hx_ex_plusInfinite σ), .int (hx_ex_minusInfinite σ), .int (hx_ex_plusSeen σ), .int (hx_ex_minusSeen σ), .int (hx_ex_nonzero σ), .int (hx_ex_negative σ), .long (hx_ex_whole σ), .int (hx_ex_power σ), .int (hx_ex_more σ), .ref (ad 11)])) := rfl
theorem hx_at_EL {T3 : hx_T3} {ad : Nat → Nat} {σ : hx_S} : (hx_W T3 ad σ)[11]? = some (ad 11, .inl (T3.2.2, 20, .inr (.inl (hx_ex_limbs σ)))) := rfl
theorem hx_at_D {T3 : hx_T3} {ad : Nat → Nat} {σ : hx_S} : (hx_W T3 ad σ)[12]? = some (ad 12, .inr (4, [.int (hx_rd_raised σ), .long (hx_rd_state σ)])) := rfl
theorem hx_at_T {T3 : hx_T3} {ad : Nat → Nat} {σ : hx_S} : (hx_W T3 ad σ)[13]? = some (ad 13, .inl (T3.2.1, 32, .inl (hx_tr σ))) := rfl
theorem hx_at_F {T3 : hx_T3} {ad : Nat → Nat} {σ : hx_S} {k : Nat} (hk : k < 4) : (hx_W T3 ad σ)[2 + k]? = some (ad (2 + k), .inr (1, hx_fmL (σ.1 k))) := by
  rcases (show k = 0 ∨ k = 1 ∨ k = 2 ∨ k = 3 by omega) with rfl | rfl | rfl | rfl <;> rfl
theorem hx_at_R {T3 : hx_T3} {ad : Nat → Nat} {σ : hx_S} {k : Nat} (hk : k < 2) : (hx_W T3 ad σ)[6 + 2 * k]? = some (ad (6 + 2 * k), .inr (2, hx_rwL (ad (7 + 2 * k)) (σ.2.1 k))) := by
  rcases (show k = 0 ∨ k = 1 by omega) with rfl | rfl <;> rfl
theorem hx_at_RP {T3 : hx_T3} {ad : Nat → Nat} {σ : hx_S} {k : Nat} (hk : k < 2) : (hx_W T3 ad σ)[7 + 2 * k]? = some (ad (7 + 2 * k), .inl (T3.2.1, 32, .inl (σ.2.1 k).1)) := by
  rcases (show k = 0 ∨ k = 1 by omega) with rfl | rfl <;> rfl
theorem hx_w_size {T3 : hx_T3} {ad : Nat → Nat} {σ : hx_S} {k : Nat} (hk : k < 2) {x : Int32} : hx_W T3 ad (hx_size_s σ k x) = (hx_W T3 ad σ).set (6 + 2 * k) (ad (6 + 2 * k), .inr (2, (hx_rwL (ad (7 + 2 * k)) (σ.2.1 k)).set 1 (.int x))) := by
  rcases (show k = 0 ∨ k = 1 by omega) with rfl | rfl <;> rfl
theorem hx_w_format {T3 : hx_T3} {ad : Nat → Nat} {σ : hx_S} {k : Nat} (hk : k < 2) {x : Int32} : hx_W T3 ad (hx_format_s σ k x) = (hx_W T3 ad σ).set (6 + 2 * k) (ad (6 + 2 * k), .inr (2, (hx_rwL (ad (7 + 2 * k)) (σ.2.1 k)).set 2 (.int x))) := by
  rcases (show k = 0 ∨ k = 1 by omega) with rfl | rfl <;> rfl
theorem hx_w_pat {T3 : hx_T3} {ad : Nat → Nat} {σ : hx_S} {k : Nat} (hk : k < 2) {i : Nat} {x : Int32} : hx_W T3 ad (hx_pat_s σ k i x) = (hx_W T3 ad σ).set (7 + 2 * k) (ad (7 + 2 * k), .inl (T3.2.1, 32, .inl (upd (σ.2.1 k).1 i x))) := by
  rcases (show k = 0 ∨ k = 1 by omega) with rfl | rfl <;> rfl
theorem hx_w_fm {T3 : hx_T3} {ad : Nat → Nat} {σ : hx_S} {k : Nat} (hk : k < 4) {x : hx_Fm} : hx_W T3 ad (hx_fm_s σ k x) = (hx_W T3 ad σ).set (2 + k) (ad (2 + k), .inr (1, hx_fmL x)) := by
  rcases (show k = 0 ∨ k = 1 ∨ k = 2 ∨ k = 3 by omega) with rfl | rfl | rfl | rfl <;> rfl
