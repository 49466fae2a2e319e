def hr_R (σ : hx_S) (τ : hm_S) : Prop := σ = σ ∧ τ = τ
theorem sim_init : ∃ τ0, f_M_init hm_zero = some τ0 ∧ hr_R hx_init τ0 := sorry
theorem sim_format {σ : hx_S} {τ : hm_S} (hR : hr_R σ τ) (x1 x2 x3 x4 : Int32) : ∃ r σ1 τ1, f_X_format σ x1 x2 x3 x4 = some (r, σ1) ∧ f_M_format τ x1 x2 x3 x4 = some (r, τ1) ∧ hr_R σ1 τ1 := sorry
theorem sim_form {σ : hx_S} {τ : hm_S} (hR : hr_R σ τ) (x1 x2 : Int32) : ∃ r, f_X_form σ x1 x2 = some r ∧ f_M_form τ x1 x2 = some r := sorry
theorem sim_part {σ : hx_S} {τ : hm_S} (hR : hr_R σ τ) (x1 x2 x3 : Int32) : ∃ r, f_X_part σ x1 x2 x3 = some r ∧ f_M_part τ x1 x2 x3 = some r := sorry
theorem sim_turn {σ : hx_S} {τ : hm_S} (hR : hr_R σ τ) (x1 x2 x3 x4 : Int32) : ∃ r σ1 τ1, f_X_turn σ x1 x2 x3 x4 = some (r, σ1) ∧ f_M_turn τ x1 x2 x3 x4 = some (r, τ1) ∧ hr_R σ1 τ1 := sorry
theorem sim_reckon {σ : hx_S} {τ : hm_S} (hR : hr_R σ τ) (x1 x2 x3 x4 x5 x6 x7 : Int32) : ∃ r σ1 τ1, f_X_reckon σ x1 x2 x3 x4 x5 x6 x7 = some (r, σ1) ∧ f_M_reckon τ x1 x2 x3 x4 x5 x6 x7 = some (r, τ1) ∧ hr_R σ1 τ1 := sorry
theorem sim_fused {σ : hx_S} {τ : hm_S} (hR : hr_R σ τ) (x1 x2 x3 x4 x5 x6 : Int32) : ∃ r σ1 τ1, f_X_fused σ x1 x2 x3 x4 x5 x6 = some (r, σ1) ∧ f_M_fused τ x1 x2 x3 x4 x5 x6 = some (r, τ1) ∧ hr_R σ1 τ1 := sorry
theorem sim_compare {σ : hx_S} {τ : hm_S} (hR : hr_R σ τ) (x1 x2 x3 x4 : Int32) : ∃ r σ1 τ1, f_X_compare σ x1 x2 x3 x4 = some (r, σ1) ∧ f_M_compare τ x1 x2 x3 x4 = some (r, τ1) ∧ hr_R σ1 τ1 := sorry
theorem sim_flags {σ : hx_S} {τ : hm_S} (hR : hr_R σ τ) : ∃ r σ1 τ1, f_X_flags σ  = some (r, σ1) ∧ f_M_flags τ  = some (r, τ1) ∧ hr_R σ1 τ1 := sorry
theorem sim_seed {σ : hx_S} {τ : hm_S} (hR : hr_R σ τ) (x1 : Int32) : ∃ r σ1 τ1, f_X_seed σ x1 = some (r, σ1) ∧ f_M_seed τ x1 = some (r, τ1) ∧ hr_R σ1 τ1 := sorry
theorem sim_clear {σ : hx_S} {τ : hm_S} (hR : hr_R σ τ) (x1 x2 : Int32) : ∃ r σ1 τ1, f_X_clear σ x1 x2 = some (r, σ1) ∧ f_M_clear τ x1 x2 = some (r, τ1) ∧ hr_R σ1 τ1 := sorry
theorem sim_push {σ : hx_S} {τ : hm_S} (hR : hr_R σ τ) (x1 x2 : Int32) : ∃ r σ1 τ1, f_X_push σ x1 x2 = some (r, σ1) ∧ f_M_push τ x1 x2 = some (r, τ1) ∧ hr_R σ1 τ1 := sorry
theorem sim_at {σ : hx_S} {τ : hm_S} (hR : hr_R σ τ) (x1 x2 : Int32) : ∃ r, f_X_at σ x1 x2 = some r ∧ f_M_at τ x1 x2 = some r := sorry
theorem sim_count {σ : hx_S} {τ : hm_S} (hR : hr_R σ τ) (x1 : Int32) : ∃ r, f_X_count σ x1 = some r ∧ f_M_count τ x1 = some r := sorry
theorem sim_sum {σ : hx_S} {τ : hm_S} (hR : hr_R σ τ) (x1 x2 x3 x4 : Int32) : ∃ r σ1 τ1, f_X_sum σ x1 x2 x3 x4 = some (r, σ1) ∧ f_M_sum τ x1 x2 x3 x4 = some (r, τ1) ∧ hr_R σ1 τ1 := sorry
theorem sim_dot {σ : hx_S} {τ : hm_S} (hR : hr_R σ τ) (x1 x2 x3 x4 : Int32) : ∃ r σ1 τ1, f_X_dot σ x1 x2 x3 x4 = some (r, σ1) ∧ f_M_dot τ x1 x2 x3 x4 = some (r, τ1) ∧ hr_R σ1 τ1 := sorry
theorem sim_scale {σ : hx_S} {τ : hm_S} (hR : hr_R σ τ) (x1 : Int32) : ∃ r, f_X_scale σ x1 = some r ∧ f_M_scale τ x1 = some r := sorry
theorem sim_element {σ : hx_S} {τ : hm_S} (hR : hr_R σ τ) (x1 x2 : Int32) : ∃ r σ1 τ1, f_X_element σ x1 x2 = some (r, σ1) ∧ f_M_element τ x1 x2 = some (r, τ1) ∧ hr_R σ1 τ1 := sorry
theorem sim_scaler {σ : hx_S} {τ : hm_S} (hR : hr_R σ τ) (x1 x2 : Int32) : ∃ r σ1 τ1, f_X_scaler σ x1 x2 = some (r, σ1) ∧ f_M_scaler τ x1 x2 = some (r, τ1) ∧ hr_R σ1 τ1 := sorry
theorem sim_step {σ : hx_S} {τ : hm_S} (hR : hr_R σ τ) (x1 : Int32) : ∃ r σ1 τ1, f_X_step σ x1 = some (r, σ1) ∧ f_M_step τ x1 = some (r, τ1) ∧ hr_R σ1 τ1 := sorry
theorem sim_kept {σ : hx_S} {τ : hm_S} (hR : hr_R σ τ) (x1 x2 x3 : Int32) : ∃ r σ1 τ1, f_X_kept σ x1 x2 x3 = some (r, σ1) ∧ f_M_kept τ x1 x2 x3 = some (r, τ1) ∧ hr_R σ1 τ1 := sorry
