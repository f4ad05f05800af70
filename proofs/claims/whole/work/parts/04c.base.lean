def lyM (κ : Nat → ClassId) (b k : Nat) (f : Nat → Int32) (g : Nat → Nat) : va_E := if k = 0 then .inr (8, [.ref (b + 1), .int (f 1), .int (f 2), .ref (b + 2), .ref (b + 3), .ref (b + 4), .ref (b + 5), .ref (b + 6), .ref (b + 7), .ref (b + 8), .ref (b + 9), .ref (b + 10), .int (f 12), .int (f 13), .ref (b + 11), .int (f 15), .ref (b + 12), .ref (b + 13), .ref (b + 14), .ref (b + 15), .int (f 20)]) else if k = 1 then .inl (κ 0, 600, .inl f) else if k = 2 then .inl (κ 0, 48, .inl f) else if k = 3 then .inl (κ 0, 6, .inl f) else if k = 4 then .inl (κ 0, 48, .inl f) else if k = 5 then .inl (κ 0, 48, .inl f) else if k = 6 then .inl (κ 0, 48, .inl f) else if k = 7 then .inl (κ 0, 48, .inl f) else if k = 8 then .inl (κ 0, 192, .inl f) else if k = 9 then .inl (κ 0, 192, .inl f) else if k = 10 then .inl (κ 0, 3840, .inl f) else if k = 11 then .inl (κ 0, 8, .inl f) else if k = 12 then .inl (κ 0, 192, .inl f) else if k = 13 then .inl (κ 0, 3840, .inl f) else if k = 14 then .inl (κ 0, 192, .inl f) else .inl (κ 0, 600, .inl f)
section LyM
variable {κ : Nat → ClassId} {b : Nat} {σ : Sg} {a : Nat}
theorem sg_aModel : sg_A b 16 b := ⟨by omega, by omega⟩
theorem sg_yModel (f : Nat → Int32) (g : Nat → Nat) : lyM κ b (b - b) f g = .inr (8, [.ref (b + 1), .int (f 1), .int (f 2), .ref (b + 2), .ref (b + 3), .ref (b + 4), .ref (b + 5), .ref (b + 6), .ref (b + 7), .ref (b + 8), .ref (b + 9), .ref (b + 10), .int (f 12), .int (f 13), .ref (b + 11), .int (f 15), .ref (b + 12), .ref (b + 13), .ref (b + 14), .ref (b + 15), .int (f 20)]) := by
  rw [Nat.sub_self]; rfl
theorem sg_gModel : (sg_L 16 (lyM κ b) b σ)[b - b]? = some (b, .inr (8, [.ref (b + 1), .int ((σ.1 b) 1), .int ((σ.1 b) 2), .ref (b + 2), .ref (b + 3), .ref (b + 4), .ref (b + 5), .ref (b + 6), .ref (b + 7), .ref (b + 8), .ref (b + 9), .ref (b + 10), .int ((σ.1 b) 12), .int ((σ.1 b) 13), .ref (b + 11), .int ((σ.1 b) 15), .ref (b + 12), .ref (b + 13), .ref (b + 14), .ref (b + 15), .int ((σ.1 b) 20)])) := by
  rw [sg_get sg_aModel, sg_yModel]
theorem sg_aa_text : sg_A b 16 (b + 1) := ⟨by omega, by omega⟩
theorem sg_ya_text (f : Nat → Int32) (g : Nat → Nat) : lyM κ b ((b + 1) - b) f g = .inl (κ 0, 600, .inl f) := by
  rw [(show b + 1 - b = 1 by omega)]; rfl
theorem sg_ga_text : (sg_L 16 (lyM κ b) b σ)[(b + 1) - b]? = some ((b + 1), .inl (κ 0, 600, .inl (σ.1 (b + 1)))) := by
  rw [sg_get sg_aa_text, sg_ya_text]
theorem sg_aa_letters : sg_A b 16 (b + 2) := ⟨by omega, by omega⟩
theorem sg_ya_letters (f : Nat → Int32) (g : Nat → Nat) : lyM κ b ((b + 2) - b) f g = .inl (κ 0, 48, .inl f) := by
  rw [(show b + 2 - b = 2 by omega)]; rfl
theorem sg_ga_letters : (sg_L 16 (lyM κ b) b σ)[(b + 2) - b]? = some ((b + 2), .inl (κ 0, 48, .inl (σ.1 (b + 2)))) := by
  rw [sg_get sg_aa_letters, sg_ya_letters]
theorem sg_aa_fieldsOf : sg_A b 16 (b + 3) := ⟨by omega, by omega⟩
theorem sg_ya_fieldsOf (f : Nat → Int32) (g : Nat → Nat) : lyM κ b ((b + 3) - b) f g = .inl (κ 0, 6, .inl f) := by
  rw [(show b + 3 - b = 3 by omega)]; rfl
theorem sg_ga_fieldsOf : (sg_L 16 (lyM κ b) b σ)[(b + 3) - b]? = some ((b + 3), .inl (κ 0, 6, .inl (σ.1 (b + 3)))) := by
  rw [sg_get sg_aa_fieldsOf, sg_ya_fieldsOf]
theorem sg_aa_tags : sg_A b 16 (b + 4) := ⟨by omega, by omega⟩
theorem sg_ya_tags (f : Nat → Int32) (g : Nat → Nat) : lyM κ b ((b + 4) - b) f g = .inl (κ 0, 48, .inl f) := by
  rw [(show b + 4 - b = 4 by omega)]; rfl
theorem sg_ga_tags : (sg_L 16 (lyM κ b) b σ)[(b + 4) - b]? = some ((b + 4), .inl (κ 0, 48, .inl (σ.1 (b + 4)))) := by
  rw [sg_get sg_aa_tags, sg_ya_tags]
theorem sg_aa_firsts : sg_A b 16 (b + 5) := ⟨by omega, by omega⟩
theorem sg_ya_firsts (f : Nat → Int32) (g : Nat → Nat) : lyM κ b ((b + 5) - b) f g = .inl (κ 0, 48, .inl f) := by
  rw [(show b + 5 - b = 5 by omega)]; rfl
theorem sg_ga_firsts : (sg_L 16 (lyM κ b) b σ)[(b + 5) - b]? = some ((b + 5), .inl (κ 0, 48, .inl (σ.1 (b + 5)))) := by
  rw [sg_get sg_aa_firsts, sg_ya_firsts]
theorem sg_aa_seconds : sg_A b 16 (b + 6) := ⟨by omega, by omega⟩
theorem sg_ya_seconds (f : Nat → Int32) (g : Nat → Nat) : lyM κ b ((b + 6) - b) f g = .inl (κ 0, 48, .inl f) := by
  rw [(show b + 6 - b = 6 by omega)]; rfl
theorem sg_ga_seconds : (sg_L 16 (lyM κ b) b σ)[(b + 6) - b]? = some ((b + 6), .inl (κ 0, 48, .inl (σ.1 (b + 6)))) := by
  rw [sg_get sg_aa_seconds, sg_ya_seconds]
theorem sg_aa_subfields : sg_A b 16 (b + 7) := ⟨by omega, by omega⟩
theorem sg_ya_subfields (f : Nat → Int32) (g : Nat → Nat) : lyM κ b ((b + 7) - b) f g = .inl (κ 0, 48, .inl f) := by
  rw [(show b + 7 - b = 7 by omega)]; rfl
theorem sg_ga_subfields : (sg_L 16 (lyM κ b) b σ)[(b + 7) - b]? = some ((b + 7), .inl (κ 0, 48, .inl (σ.1 (b + 7)))) := by
  rw [sg_get sg_aa_subfields, sg_ya_subfields]
theorem sg_aa_codes : sg_A b 16 (b + 8) := ⟨by omega, by omega⟩
theorem sg_ya_codes (f : Nat → Int32) (g : Nat → Nat) : lyM κ b ((b + 8) - b) f g = .inl (κ 0, 192, .inl f) := by
  rw [(show b + 8 - b = 8 by omega)]; rfl
theorem sg_ga_codes : (sg_L 16 (lyM κ b) b σ)[(b + 8) - b]? = some ((b + 8), .inl (κ 0, 192, .inl (σ.1 (b + 8)))) := by
  rw [sg_get sg_aa_codes, sg_ya_codes]
theorem sg_aa_sizes : sg_A b 16 (b + 9) := ⟨by omega, by omega⟩
theorem sg_ya_sizes (f : Nat → Int32) (g : Nat → Nat) : lyM κ b ((b + 9) - b) f g = .inl (κ 0, 192, .inl f) := by
  rw [(show b + 9 - b = 9 by omega)]; rfl
theorem sg_ga_sizes : (sg_L 16 (lyM κ b) b σ)[(b + 9) - b]? = some ((b + 9), .inl (κ 0, 192, .inl (σ.1 (b + 9)))) := by
  rw [sg_get sg_aa_sizes, sg_ya_sizes]
theorem sg_aa_characters : sg_A b 16 (b + 10) := ⟨by omega, by omega⟩
theorem sg_ya_characters (f : Nat → Int32) (g : Nat → Nat) : lyM κ b ((b + 10) - b) f g = .inl (κ 0, 3840, .inl f) := by
  rw [(show b + 10 - b = 10 by omega)]; rfl
theorem sg_ga_characters : (sg_L 16 (lyM κ b) b σ)[(b + 10) - b]? = some ((b + 10), .inl (κ 0, 3840, .inl (σ.1 (b + 10)))) := by
  rw [sg_get sg_aa_characters, sg_ya_characters]
theorem sg_aa_lengths : sg_A b 16 (b + 11) := ⟨by omega, by omega⟩
theorem sg_ya_lengths (f : Nat → Int32) (g : Nat → Nat) : lyM κ b ((b + 11) - b) f g = .inl (κ 0, 8, .inl f) := by
  rw [(show b + 11 - b = 11 by omega)]; rfl
theorem sg_ga_lengths : (sg_L 16 (lyM κ b) b σ)[(b + 11) - b]? = some ((b + 11), .inl (κ 0, 8, .inl (σ.1 (b + 11)))) := by
  rw [sg_get sg_aa_lengths, sg_ya_lengths]
theorem sg_aa_headings : sg_A b 16 (b + 12) := ⟨by omega, by omega⟩
theorem sg_ya_headings (f : Nat → Int32) (g : Nat → Nat) : lyM κ b ((b + 12) - b) f g = .inl (κ 0, 192, .inl f) := by
  rw [(show b + 12 - b = 12 by omega)]; rfl
theorem sg_ga_headings : (sg_L 16 (lyM κ b) b σ)[(b + 12) - b]? = some ((b + 12), .inl (κ 0, 192, .inl (σ.1 (b + 12)))) := by
  rw [sg_get sg_aa_headings, sg_ya_headings]
theorem sg_aa_keys : sg_A b 16 (b + 13) := ⟨by omega, by omega⟩
theorem sg_ya_keys (f : Nat → Int32) (g : Nat → Nat) : lyM κ b ((b + 13) - b) f g = .inl (κ 0, 3840, .inl f) := by
  rw [(show b + 13 - b = 13 by omega)]; rfl
theorem sg_ga_keys : (sg_L 16 (lyM κ b) b σ)[(b + 13) - b]? = some ((b + 13), .inl (κ 0, 3840, .inl (σ.1 (b + 13)))) := by
  rw [sg_get sg_aa_keys, sg_ya_keys]
theorem sg_aa_keySizes : sg_A b 16 (b + 14) := ⟨by omega, by omega⟩
theorem sg_ya_keySizes (f : Nat → Int32) (g : Nat → Nat) : lyM κ b ((b + 14) - b) f g = .inl (κ 0, 192, .inl f) := by
  rw [(show b + 14 - b = 14 by omega)]; rfl
theorem sg_ga_keySizes : (sg_L 16 (lyM κ b) b σ)[(b + 14) - b]? = some ((b + 14), .inl (κ 0, 192, .inl (σ.1 (b + 14)))) := by
  rw [sg_get sg_aa_keySizes, sg_ya_keySizes]
theorem sg_aa_wanted : sg_A b 16 (b + 15) := ⟨by omega, by omega⟩
theorem sg_ya_wanted (f : Nat → Int32) (g : Nat → Nat) : lyM κ b ((b + 15) - b) f g = .inl (κ 0, 600, .inl f) := by
  rw [(show b + 15 - b = 15 by omega)]; rfl
theorem sg_ga_wanted : (sg_L 16 (lyM κ b) b σ)[(b + 15) - b]? = some ((b + 15), .inl (κ 0, 600, .inl (σ.1 (b + 15)))) := by
  rw [sg_get sg_aa_wanted, sg_ya_wanted]
end LyM
