theorem op_feed {b m : Nat} {σ τ : Sg} (h : JJ b σ m τ) (x1 : Int64) (x3 : Int32)  : ∃ (r : Int32) (σ' τ' : Sg), fn_X7_feed b σ x1 x3 = some (r, σ') ∧ fn_X8_feed m τ x1 x3 = some (r, τ') ∧ JJ b σ' m τ' := by
  sorry
theorem op_cut {b m : Nat} {σ τ : Sg} (h : JJ b σ m τ) (x1 : Int32)  : ∃ (r : Int32) (σ' τ' : Sg), fn_X7_cut b σ x1 = some (r, σ') ∧ fn_X8_cut m τ x1 = some (r, τ') ∧ JJ b σ' m τ' := by
  sorry
theorem op_letter {b m : Nat} {σ τ : Sg} (h : JJ b σ m τ) (x1 : Int32)  : ∃ r : Int32, fn_X7_letter b σ x1 = some r ∧ fn_X8_letter m τ x1 = some r := by
  sorry
theorem op_read {b m : Nat} {σ τ : Sg} (h : JJ b σ m τ)   : ∃ (r : Int32) (σ' τ' : Sg), fn_X7_read b σ = some (r, σ') ∧ fn_X8_read m τ = some (r, τ') ∧ JJ b σ' m τ' := by
  sorry
theorem op_place {b m : Nat} {σ τ : Sg} (h : JJ b σ m τ)   : ∃ r : Int32, fn_X7_place b σ = some r ∧ fn_X8_place m τ = some r := by
  sorry
theorem op_fresh {b m : Nat} {σ τ : Sg} (h : JJ b σ m τ)   : ∃ (r : Int32) (σ' τ' : Sg), fn_X7_fresh b σ = some (r, σ') ∧ fn_X8_fresh m τ = some (r, τ') ∧ JJ b σ' m τ' := by
  sorry
theorem op_field {b m : Nat} {σ τ : Sg} (h : JJ b σ m τ) (x1 : Int32) (x2 : Int32) (x3 : Int32) (x4 : Int32) (hx3 : sg_ic x3) (hx4 : sg_ic x4) : ∃ (r : Int32) (σ' τ' : Sg), fn_X7_field b σ x1 x2 x3 x4 = some (r, σ') ∧ fn_X8_field m τ x1 x2 x3 x4 = some (r, τ') ∧ JJ b σ' m τ' := by
  sorry
theorem op_subfield {b m : Nat} {σ τ : Sg} (h : JJ b σ m τ) (x1 : Int32) (x2 : Int32) (x3 : Int32) (hx3 : sg_ic x3) : ∃ (r : Int32) (σ' τ' : Sg), fn_X7_subfield b σ x1 x2 x3 = some (r, σ') ∧ fn_X8_subfield m τ x1 x2 x3 = some (r, τ') ∧ JJ b σ' m τ' := by
  sorry
theorem op_append {b m : Nat} {σ τ : Sg} (h : JJ b σ m τ) (x1 : Int32) (x2 : Int32) (x3 : Int32) (x4 : Int32) (hx4 : sg_ic x4) : ∃ (r : Int32) (σ' τ' : Sg), fn_X7_append b σ x1 x2 x3 x4 = some (r, σ') ∧ fn_X8_append m τ x1 x2 x3 x4 = some (r, τ') ∧ JJ b σ' m τ' := by
  sorry
theorem op_drop {b m : Nat} {σ τ : Sg} (h : JJ b σ m τ) (x1 : Int32) (x2 : Int32)  : ∃ (r : Int32) (σ' τ' : Sg), fn_X7_drop b σ x1 x2 = some (r, σ') ∧ fn_X8_drop m τ x1 x2 = some (r, τ') ∧ JJ b σ' m τ' := by
  sorry
theorem op_write {b m : Nat} {σ τ : Sg} (h : JJ b σ m τ) (x1 : Int32)  : ∃ (r : Int32) (σ' τ' : Sg), fn_X7_write b σ x1 = some (r, σ') ∧ fn_X8_write m τ x1 = some (r, τ') ∧ JJ b σ' m τ' := by
  sorry
theorem op_many {b m : Nat} {σ τ : Sg} (h : JJ b σ m τ) (x1 : Int32) (x2 : Int32)  : ∃ r : Int32, fn_X7_many b σ x1 x2 = some r ∧ fn_X8_many m τ x1 x2 = some r := by
  sorry
theorem op_mark {b m : Nat} {σ τ : Sg} (h : JJ b σ m τ) (x1 : Int32) (x2 : Int32) (x3 : Int32)  : ∃ r : Int32, fn_X7_mark b σ x1 x2 x3 = some r ∧ fn_X8_mark m τ x1 x2 x3 = some r := by
  sorry
theorem op_shown {b m : Nat} {σ τ : Sg} (h : JJ b σ m τ) (x1 : Int32) (x2 : Int32) (x3 : Int32) (x4 : Int32)  : ∃ r : Int32, fn_X7_shown b σ x1 x2 x3 x4 = some r ∧ fn_X8_shown m τ x1 x2 x3 x4 = some r := by
  sorry
theorem op_list {b m : Nat} {σ τ : Sg} (h : JJ b σ m τ) (x1 : Int32) (x2 : Int32) (hx2 : sg_ic x2) : ∃ (r : Int32) (σ' τ' : Sg), fn_X7_list b σ x1 x2 = some (r, σ') ∧ fn_X8_list m τ x1 x2 = some (r, τ') ∧ JJ b σ' m τ' := by
  sorry
theorem op_heading {b m : Nat} {σ τ : Sg} (h : JJ b σ m τ) (x1 : Int32) (x2 : Int32)  : ∃ r : Int32, fn_X7_heading b σ x1 x2 = some r ∧ fn_X8_heading m τ x1 x2 = some r := by
  sorry
theorem op_find {b m : Nat} {σ τ : Sg} (h : JJ b σ m τ) (x1 : Int32) (x2 : Int32) (x3 : Int32) (hx2 : sg_ic x2) : ∃ (r : Int32) (σ' τ' : Sg), fn_X7_find b σ x1 x2 x3 = some (r, σ') ∧ fn_X8_find m τ x1 x2 x3 = some (r, τ') ∧ JJ b σ' m τ' := by
  sorry
