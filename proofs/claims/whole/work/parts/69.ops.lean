-- open rows: what is not proved yet
theorem op_read {b m : Nat} {σ τ : Sg} (h : JJ b σ m τ)   : ∃ (r : Int32) (σ' τ' : Sg), fn_X7_read b σ = some (r, σ') ∧ fn_X8_read m τ = some (r, τ') ∧ JJ b σ' m τ' := by
  sorry
theorem op_field {b m : Nat} {σ τ : Sg} (h : JJ b σ m τ) (x1 : Int32) (x2 : Int32) (x3 : Int32) (x4 : Int32) (hx3 : sg_ic x3) (hx4 : sg_ic x4) : ∃ (r : Int32) (σ' τ' : Sg), fn_X7_field b σ x1 x2 x3 x4 = some (r, σ') ∧ fn_X8_field m τ x1 x2 x3 x4 = some (r, τ') ∧ JJ b σ' m τ' := by
  sorry
theorem op_drop {b m : Nat} {σ τ : Sg} (h : JJ b σ m τ) (x1 : Int32) (x2 : Int32)  : ∃ (r : Int32) (σ' τ' : Sg), fn_X7_drop b σ x1 x2 = some (r, σ') ∧ fn_X8_drop m τ x1 x2 = some (r, τ') ∧ JJ b σ' m τ' := by
  sorry
theorem op_write {b m : Nat} {σ τ : Sg} (h : JJ b σ m τ) (x1 : Int32)  : ∃ (r : Int32) (σ' τ' : Sg), fn_X7_write b σ x1 = some (r, σ') ∧ fn_X8_write m τ x1 = some (r, τ') ∧ JJ b σ' m τ' := by
  sorry
theorem op_list {b m : Nat} {σ τ : Sg} (h : JJ b σ m τ) (x1 : Int32) (x2 : Int32) (hx2 : sg_ic x2) : ∃ (r : Int32) (σ' τ' : Sg), fn_X7_list b σ x1 x2 = some (r, σ') ∧ fn_X8_list m τ x1 x2 = some (r, τ') ∧ JJ b σ' m τ' := by
  sorry
theorem op_find {b m : Nat} {σ τ : Sg} (h : JJ b σ m τ) (x1 : Int32) (x2 : Int32) (x3 : Int32) (hx2 : sg_ic x2) : ∃ (r : Int32) (σ' τ' : Sg), fn_X7_find b σ x1 x2 x3 = some (r, σ') ∧ fn_X8_find m τ x1 x2 x3 = some (r, τ') ∧ JJ b σ' m τ' := by
  sorry
