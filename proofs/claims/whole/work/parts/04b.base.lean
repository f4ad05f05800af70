def is_Card (b a : Nat) : Prop := ∃ r, r < 6 ∧ a = b + 10 + 147 * r
def is_Fld (b a : Nat) : Prop := ∃ r j, r < 6 ∧ j < 8 ∧ a = b + 10 + 147 * r + 3 + 18 * j
def is_Sub (b a : Nat) : Prop := ∃ r j k, r < 6 ∧ j < 8 ∧ k < 4 ∧ a = b + 10 + 147 * r + 3 + 18 * j + 2 + 4 * k
def is_Key (b a : Nat) : Prop := a = b + 8 ∨ ∃ q, is_Sub b q ∧ a = q + 2
def sg_kR (b a : Nat) : Nat := if a = b + 8 then 600 else 20
theorem sg_kS (b : Nat) : is_Key b (b + 8) := Or.inl rfl
theorem sg_kO {b a : Nat} (h : is_Sub b a) : is_Key b (a + 2) := Or.inr ⟨a, h, rfl⟩
theorem sg_vCard {b : Nat} {i : Int32} (h : sg_ib i 6) : is_Card b (b + 10 + 147 * sg_x i) := ⟨_, h.2, rfl⟩
theorem sg_vSub {b a : Nat} {i : Int32} (h : is_Fld b a) (hi : sg_ib i 4) : is_Sub b (a + 2 + 4 * sg_x i) := by
  obtain ⟨r, j, hr, hj, rfl⟩ := h
  exact ⟨r, j, _, hr, hj, hi.2, rfl⟩
def lyC3 (κ : Nat → ClassId) (a t : Nat) (f : Nat → Int32) : va_E := if t = 0 then .inr (5, [.ref (a + 1), .ref (a + 2), .int (f 2), .int (f 3)]) else if t = 1 then .inl (κ 1, 20, .inl f) else if t = 2 then .inr (3, [.ref (a + 1), .int (f 1), .int (f 2)]) else .inl (κ 1, 20, .inl f)
def lyC2 (κ : Nat → ClassId) (a q : Nat) (f : Nat → Int32) : va_E := if q = 0 then .inr (1, [.ref (a + 1), .int (f 1), .int (f 2), .int (f 3), .int (f 4)]) else if q = 1 then .inl (κ 4, 4, .inr (.inr (.inr (.inr (fun i => some (a + 1 + 4 * i)))))) else lyC3 κ a ((q - 2) % 4) f
def lyC1 (κ : Nat → ClassId) (a o : Nat) (f : Nat → Int32) (g : Nat → Nat) : va_E := if o = 0 then .inr (0, [.ref (a + 1), .ref (a + 2), .int (f 2)]) else if o = 1 then .inl (κ 1, 8, .inl f) else if o = 2 then .inl (κ 3, 8, .inr (.inr (.inr (.inr (fun i => some (g i)))))) else lyC2 κ a ((o - 3) % 18) f
def lyC (κ : Nat → ClassId) (b k : Nat) (f : Nat → Int32) (g : Nat → Nat) : va_E := if k = 0 then .inr (7, [.ref (b + 1), .ref (b + 2), .ref (b + 5), .ref (b + 6), .ref (b + 8), .int (f 5)]) else if k = 1 then .inr (4, [.ref (b + 2), .ref (b + 4), .int (f 2), .int (f 3), .int (f 4), .int (f 5), .int (f 6), .int (f 7)]) else if k = 2 then .inr (6, [.ref (b + 3), .int (f 1)]) else if k = 3 then .inl (κ 1, 600, .inl f) else if k = 4 then .inl (κ 0, 8, .inl f) else if k = 5 then .inl (κ 2, 6, .inr (.inr (.inr (.inr (fun i => some (b + 10 + 147 * i)))))) else if k = 6 then .inr (2, [.ref (b + 7), .int (f 1)]) else if k = 7 then .inl (κ 0, 192, .inl f) else if k = 8 then .inr (3, [.ref (b + 8 + 1), .int (f 1), .int (f 2)]) else if k = 9 then .inl (κ 1, 600, .inl f) else lyC1 κ (b + k) ((k - 10) % 147) f g
section LyC
variable {κ : Nat → ClassId} {b : Nat} {σ : Sg} {a : Nat}
theorem sg_aShelf : sg_A b 892 b := ⟨by omega, by omega⟩
theorem sg_yShelf (f : Nat → Int32) (g : Nat → Nat) : lyC κ b (b - b) f g = .inr (7, [.ref (b + 1), .ref (b + 2), .ref (b + 5), .ref (b + 6), .ref (b + 8), .int (f 5)]) := by
  rw [Nat.sub_self]; rfl
theorem sg_gShelf : (sg_L 892 (lyC κ b) b σ)[b - b]? = some (b, .inr (7, [.ref (b + 1), .ref (b + 2), .ref (b + 5), .ref (b + 6), .ref (b + 8), .int ((σ.1 b) 5)])) := by
  rw [sg_get sg_aShelf, sg_yShelf]
theorem sg_aReader : sg_A b 892 (b + 1) := ⟨by omega, by omega⟩
theorem sg_yReader (f : Nat → Int32) (g : Nat → Nat) : lyC κ b ((b + 1) - b) f g = .inr (4, [.ref (b + 2), .ref (b + 4), .int (f 2), .int (f 3), .int (f 4), .int (f 5), .int (f 6), .int (f 7)]) := by
  rw [(show b + 1 - b = 1 by omega)]; rfl
theorem sg_gReader : (sg_L 892 (lyC κ b) b σ)[(b + 1) - b]? = some ((b + 1), .inr (4, [.ref (b + 2), .ref (b + 4), .int ((σ.1 (b + 1)) 2), .int ((σ.1 (b + 1)) 3), .int ((σ.1 (b + 1)) 4), .int ((σ.1 (b + 1)) 5), .int ((σ.1 (b + 1)) 6), .int ((σ.1 (b + 1)) 7)])) := by
  rw [sg_get sg_aReader, sg_yReader]
theorem sg_aText : sg_A b 892 (b + 2) := ⟨by omega, by omega⟩
theorem sg_yText (f : Nat → Int32) (g : Nat → Nat) : lyC κ b ((b + 2) - b) f g = .inr (6, [.ref (b + 3), .int (f 1)]) := by
  rw [(show b + 2 - b = 2 by omega)]; rfl
theorem sg_gText : (sg_L 892 (lyC κ b) b σ)[(b + 2) - b]? = some ((b + 2), .inr (6, [.ref (b + 3), .int ((σ.1 (b + 2)) 1)])) := by
  rw [sg_get sg_aText, sg_yText]
theorem sg_atsigns : sg_A b 892 (b + 3) := ⟨by omega, by omega⟩
theorem sg_ytsigns (f : Nat → Int32) (g : Nat → Nat) : lyC κ b ((b + 3) - b) f g = .inl (κ 1, 600, .inl f) := by
  rw [(show b + 3 - b = 3 by omega)]; rfl
theorem sg_gtsigns : (sg_L 892 (lyC κ b) b σ)[(b + 3) - b]? = some ((b + 3), .inl (κ 1, 600, .inl (σ.1 (b + 3)))) := by
  rw [sg_get sg_atsigns, sg_ytsigns]
theorem sg_asizes : sg_A b 892 (b + 4) := ⟨by omega, by omega⟩
theorem sg_ysizes (f : Nat → Int32) (g : Nat → Nat) : lyC κ b ((b + 4) - b) f g = .inl (κ 0, 8, .inl f) := by
  rw [(show b + 4 - b = 4 by omega)]; rfl
theorem sg_gsizes : (sg_L 892 (lyC κ b) b σ)[(b + 4) - b]? = some ((b + 4), .inl (κ 0, 8, .inl (σ.1 (b + 4)))) := by
  rw [sg_get sg_asizes, sg_ysizes]
theorem sg_acards : sg_A b 892 (b + 5) := ⟨by omega, by omega⟩
theorem sg_ycards (f : Nat → Int32) (g : Nat → Nat) : lyC κ b ((b + 5) - b) f g = .inl (κ 2, 6, .inr (.inr (.inr (.inr (fun i => some (b + 10 + 147 * i)))))) := by
  rw [(show b + 5 - b = 5 by omega)]; rfl
theorem sg_gcards : (sg_L 892 (lyC κ b) b σ)[(b + 5) - b]? = some ((b + 5), .inl (κ 2, 6, .inr (.inr (.inr (.inr (fun i => some (b + 10 + 147 * i))))))) := by
  rw [sg_get sg_acards, sg_ycards]
theorem sg_aHeadings : sg_A b 892 (b + 6) := ⟨by omega, by omega⟩
theorem sg_yHeadings (f : Nat → Int32) (g : Nat → Nat) : lyC κ b ((b + 6) - b) f g = .inr (2, [.ref (b + 7), .int (f 1)]) := by
  rw [(show b + 6 - b = 6 by omega)]; rfl
theorem sg_gHeadings : (sg_L 892 (lyC κ b) b σ)[(b + 6) - b]? = some ((b + 6), .inr (2, [.ref (b + 7), .int ((σ.1 (b + 6)) 1)])) := by
  rw [sg_get sg_aHeadings, sg_yHeadings]
theorem sg_aplaces : sg_A b 892 (b + 7) := ⟨by omega, by omega⟩
theorem sg_yplaces (f : Nat → Int32) (g : Nat → Nat) : lyC κ b ((b + 7) - b) f g = .inl (κ 0, 192, .inl f) := by
  rw [(show b + 7 - b = 7 by omega)]; rfl
theorem sg_gplaces : (sg_L 892 (lyC κ b) b σ)[(b + 7) - b]? = some ((b + 7), .inl (κ 0, 192, .inl (σ.1 (b + 7)))) := by
  rw [sg_get sg_aplaces, sg_yplaces]
theorem sg_asKey : sg_A b 892 (b + 8) := ⟨by omega, by omega⟩
theorem sg_ysKey (f : Nat → Int32) (g : Nat → Nat) : lyC κ b ((b + 8) - b) f g = .inr (3, [.ref (b + 8 + 1), .int (f 1), .int (f 2)]) := by
  rw [(show b + 8 - b = 8 by omega)]; rfl
theorem sg_gsKey : (sg_L 892 (lyC κ b) b σ)[(b + 8) - b]? = some ((b + 8), .inr (3, [.ref (b + 8 + 1), .int ((σ.1 (b + 8)) 1), .int ((σ.1 (b + 8)) 2)])) := by
  rw [sg_get sg_asKey, sg_ysKey]
theorem sg_assigns : sg_A b 892 (b + 9) := ⟨by omega, by omega⟩
theorem sg_yssigns (f : Nat → Int32) (g : Nat → Nat) : lyC κ b ((b + 9) - b) f g = .inl (κ 1, 600, .inl f) := by
  rw [(show b + 9 - b = 9 by omega)]; rfl
theorem sg_gssigns : (sg_L 892 (lyC κ b) b σ)[(b + 9) - b]? = some ((b + 9), .inl (κ 1, 600, .inl (σ.1 (b + 9)))) := by
  rw [sg_get sg_assigns, sg_yssigns]
theorem lyC_hi {k : Nat} (h : 10 ≤ k) (f : Nat → Int32) (g : Nat → Nat) : lyC κ b k f g = lyC1 κ (b + k) ((k - 10) % 147) f g := by
  unfold lyC
  rw [if_neg (show ¬ k = 0 by omega), if_neg (show ¬ k = 1 by omega), if_neg (show ¬ k = 2 by omega), if_neg (show ¬ k = 3 by omega), if_neg (show ¬ k = 4 by omega), if_neg (show ¬ k = 5 by omega), if_neg (show ¬ k = 6 by omega), if_neg (show ¬ k = 7 by omega), if_neg (show ¬ k = 8 by omega), if_neg (show ¬ k = 9 by omega)]
theorem sg_aCard (h : is_Card b a) : sg_A b 892 a := by
  obtain ⟨r, hr, rfl⟩ := h
  exact ⟨by omega, by omega⟩
theorem sg_yCard (h : is_Card b a) (f : Nat → Int32) (g : Nat → Nat) : lyC κ b (a - b) f g = .inr (0, [.ref (a + 1), .ref (a + 2), .int (f 2)]) := by
  obtain ⟨r, hr, rfl⟩ := h
  rw [lyC_hi (by omega), show b + ((b + 10 + 147 * r) - b) = (b + 10 + 147 * r) by omega, show ((b + 10 + 147 * r) - b - 10) % 147 = 0 by omega]
  rfl
theorem sg_gCard (h : is_Card b a) : (sg_L 892 (lyC κ b) b σ)[a - b]? = some (a, .inr (0, [.ref (a + 1), .ref (a + 2), .int ((σ.1 a) 2)])) := by
  rw [sg_get (sg_aCard h), sg_yCard h]
theorem sg_acletters (h : is_Card b a) : sg_A b 892 (a + 1) := by
  obtain ⟨r, hr, rfl⟩ := h
  exact ⟨by omega, by omega⟩
theorem sg_ycletters (h : is_Card b a) (f : Nat → Int32) (g : Nat → Nat) : lyC κ b ((a + 1) - b) f g = .inl (κ 1, 8, .inl f) := by
  obtain ⟨r, hr, rfl⟩ := h
  rw [lyC_hi (by omega), show b + ((b + 10 + 147 * r + 1) - b) = (b + 10 + 147 * r + 1) by omega, show ((b + 10 + 147 * r + 1) - b - 10) % 147 = 1 by omega]
  rfl
theorem sg_gcletters (h : is_Card b a) : (sg_L 892 (lyC κ b) b σ)[(a + 1) - b]? = some ((a + 1), .inl (κ 1, 8, .inl (σ.1 (a + 1)))) := by
  rw [sg_get (sg_acletters h), sg_ycletters h]
theorem sg_afields (h : is_Card b a) : sg_A b 892 (a + 2) := by
  obtain ⟨r, hr, rfl⟩ := h
  exact ⟨by omega, by omega⟩
theorem sg_yfields (h : is_Card b a) (f : Nat → Int32) (g : Nat → Nat) : lyC κ b ((a + 2) - b) f g = .inl (κ 3, 8, .inr (.inr (.inr (.inr (fun i => some (g i)))))) := by
  obtain ⟨r, hr, rfl⟩ := h
  rw [lyC_hi (by omega), show b + ((b + 10 + 147 * r + 2) - b) = (b + 10 + 147 * r + 2) by omega, show ((b + 10 + 147 * r + 2) - b - 10) % 147 = 2 by omega]
  rfl
theorem sg_gfields (h : is_Card b a) : (sg_L 892 (lyC κ b) b σ)[(a + 2) - b]? = some ((a + 2), .inl (κ 3, 8, .inr (.inr (.inr (.inr (fun i => some ((σ.2 (a + 2)) i))))))) := by
  rw [sg_get (sg_afields h), sg_yfields h]
theorem sg_aField (h : is_Fld b a) : sg_A b 892 a := by
  obtain ⟨r, j, hr, hj, rfl⟩ := h
  exact ⟨by omega, by omega⟩
theorem sg_yField (h : is_Fld b a) (f : Nat → Int32) (g : Nat → Nat) : lyC κ b (a - b) f g = .inr (1, [.ref (a + 1), .int (f 1), .int (f 2), .int (f 3), .int (f 4)]) := by
  obtain ⟨r, j, hr, hj, rfl⟩ := h
  rw [lyC_hi (by omega), show b + ((b + 10 + 147 * r + 3 + 18 * j) - b) = (b + 10 + 147 * r + 3 + 18 * j) by omega, show ((b + 10 + 147 * r + 3 + 18 * j) - b - 10) % 147 = (3 + 18 * j) by omega]
  unfold lyC1
  rw [if_neg (by omega), if_neg (by omega), if_neg (by omega), show ((3 + 18 * j) - 3) % 18 = 0 by omega]
  rfl
theorem sg_gField (h : is_Fld b a) : (sg_L 892 (lyC κ b) b σ)[a - b]? = some (a, .inr (1, [.ref (a + 1), .int ((σ.1 a) 1), .int ((σ.1 a) 2), .int ((σ.1 a) 3), .int ((σ.1 a) 4)])) := by
  rw [sg_get (sg_aField h), sg_yField h]
theorem sg_asubs (h : is_Fld b a) : sg_A b 892 (a + 1) := by
  obtain ⟨r, j, hr, hj, rfl⟩ := h
  exact ⟨by omega, by omega⟩
theorem sg_ysubs (h : is_Fld b a) (f : Nat → Int32) (g : Nat → Nat) : lyC κ b ((a + 1) - b) f g = .inl (κ 4, 4, .inr (.inr (.inr (.inr (fun i => some (a + 2 + 4 * i)))))) := by
  obtain ⟨r, j, hr, hj, rfl⟩ := h
  rw [lyC_hi (by omega), show b + ((b + 10 + 147 * r + 3 + 18 * j + 1) - b) = (b + 10 + 147 * r + 3 + 18 * j + 1) by omega, show ((b + 10 + 147 * r + 3 + 18 * j + 1) - b - 10) % 147 = (3 + 18 * j + 1) by omega]
  unfold lyC1
  rw [if_neg (by omega), if_neg (by omega), if_neg (by omega), show ((3 + 18 * j + 1) - 3) % 18 = 1 by omega]
  rfl
theorem sg_gsubs (h : is_Fld b a) : (sg_L 892 (lyC κ b) b σ)[(a + 1) - b]? = some ((a + 1), .inl (κ 4, 4, .inr (.inr (.inr (.inr (fun i => some (a + 2 + 4 * i))))))) := by
  rw [sg_get (sg_asubs h), sg_ysubs h]
theorem sg_aSub (h : is_Sub b a) : sg_A b 892 a := by
  obtain ⟨r, j, k, hr, hj, hk, rfl⟩ := h
  exact ⟨by omega, by omega⟩
theorem sg_ySub (h : is_Sub b a) (f : Nat → Int32) (g : Nat → Nat) : lyC κ b (a - b) f g = .inr (5, [.ref (a + 1), .ref (a + 2), .int (f 2), .int (f 3)]) := by
  obtain ⟨r, j, k, hr, hj, hk, rfl⟩ := h
  rw [lyC_hi (by omega), show b + ((b + 10 + 147 * r + 3 + 18 * j + 2 + 4 * k) - b) = (b + 10 + 147 * r + 3 + 18 * j + 2 + 4 * k) by omega, show ((b + 10 + 147 * r + 3 + 18 * j + 2 + 4 * k) - b - 10) % 147 = (3 + 18 * j + 2 + 4 * k) by omega]
  unfold lyC1
  rw [if_neg (by omega), if_neg (by omega), if_neg (by omega), show ((3 + 18 * j + 2 + 4 * k) - 3) % 18 = (2 + 4 * k) by omega]
  unfold lyC2
  rw [if_neg (by omega), if_neg (by omega), show ((2 + 4 * k) - 2) % 4 = 0 by omega]
  rfl
theorem sg_gSub (h : is_Sub b a) : (sg_L 892 (lyC κ b) b σ)[a - b]? = some (a, .inr (5, [.ref (a + 1), .ref (a + 2), .int ((σ.1 a) 2), .int ((σ.1 a) 3)])) := by
  rw [sg_get (sg_aSub h), sg_ySub h]
theorem sg_asletters (h : is_Sub b a) : sg_A b 892 (a + 1) := by
  obtain ⟨r, j, k, hr, hj, hk, rfl⟩ := h
  exact ⟨by omega, by omega⟩
theorem sg_ysletters (h : is_Sub b a) (f : Nat → Int32) (g : Nat → Nat) : lyC κ b ((a + 1) - b) f g = .inl (κ 1, 20, .inl f) := by
  obtain ⟨r, j, k, hr, hj, hk, rfl⟩ := h
  rw [lyC_hi (by omega), show b + ((b + 10 + 147 * r + 3 + 18 * j + 2 + 4 * k + 1) - b) = (b + 10 + 147 * r + 3 + 18 * j + 2 + 4 * k + 1) by omega, show ((b + 10 + 147 * r + 3 + 18 * j + 2 + 4 * k + 1) - b - 10) % 147 = (3 + 18 * j + 2 + 4 * k + 1) by omega]
  unfold lyC1
  rw [if_neg (by omega), if_neg (by omega), if_neg (by omega), show ((3 + 18 * j + 2 + 4 * k + 1) - 3) % 18 = (2 + 4 * k + 1) by omega]
  unfold lyC2
  rw [if_neg (by omega), if_neg (by omega), show ((2 + 4 * k + 1) - 2) % 4 = 1 by omega]
  rfl
theorem sg_gsletters (h : is_Sub b a) : (sg_L 892 (lyC κ b) b σ)[(a + 1) - b]? = some ((a + 1), .inl (κ 1, 20, .inl (σ.1 (a + 1)))) := by
  rw [sg_get (sg_asletters h), sg_ysletters h]
theorem sg_aKey (h : is_Key b a) : sg_A b 892 a := by
  rcases h with rfl | ⟨q, ⟨r, j, k, hr, hj, hk, rfl⟩, rfl⟩
  · exact ⟨by omega, by omega⟩
  · exact ⟨by omega, by omega⟩
theorem sg_yKey (h : is_Key b a) (f : Nat → Int32) (g : Nat → Nat) : lyC κ b (a - b) f g = .inr (3, [.ref (a + 1), .int (f 1), .int (f 2)]) := by
  rcases h with rfl | ⟨q, ⟨r, j, k, hr, hj, hk, rfl⟩, rfl⟩
  · exact sg_ysKey f g
  · rw [lyC_hi (by omega), show b + ((b + 10 + 147 * r + 3 + 18 * j + 2 + 4 * k + 2) - b) = (b + 10 + 147 * r + 3 + 18 * j + 2 + 4 * k + 2) by omega, show ((b + 10 + 147 * r + 3 + 18 * j + 2 + 4 * k + 2) - b - 10) % 147 = (3 + 18 * j + 2 + 4 * k + 2) by omega]
    unfold lyC1
    rw [if_neg (by omega), if_neg (by omega), if_neg (by omega), show ((3 + 18 * j + 2 + 4 * k + 2) - 3) % 18 = (2 + 4 * k + 2) by omega]
    unfold lyC2
    rw [if_neg (by omega), if_neg (by omega), show ((2 + 4 * k + 2) - 2) % 4 = 2 by omega]
    rfl
theorem sg_gKey (h : is_Key b a) : (sg_L 892 (lyC κ b) b σ)[a - b]? = some (a, .inr (3, [.ref (a + 1), .int ((σ.1 a) 1), .int ((σ.1 a) 2)])) := by
  rw [sg_get (sg_aKey h), sg_yKey h]
theorem sg_aksigns (h : is_Key b a) : sg_A b 892 (a + 1) := by
  rcases h with rfl | ⟨q, ⟨r, j, k, hr, hj, hk, rfl⟩, rfl⟩
  · exact ⟨by omega, by omega⟩
  · exact ⟨by omega, by omega⟩
theorem sg_yksigns (h : is_Key b a) (f : Nat → Int32) (g : Nat → Nat) : lyC κ b (a + 1 - b) f g = .inl (κ 1, sg_kR b a, .inl f) := by
  rcases h with rfl | ⟨q, ⟨r, j, k, hr, hj, hk, rfl⟩, rfl⟩
  · rw [show sg_kR b (b + 8) = 600 from if_pos rfl]; exact sg_yssigns f g
  · rw [show sg_kR b (b + 10 + 147 * r + 3 + 18 * j + 2 + 4 * k + 2) = 20 from if_neg (by omega)]
    rw [lyC_hi (by omega), show b + ((b + 10 + 147 * r + 3 + 18 * j + 2 + 4 * k + 2 + 1) - b) = (b + 10 + 147 * r + 3 + 18 * j + 2 + 4 * k + 2 + 1) by omega, show ((b + 10 + 147 * r + 3 + 18 * j + 2 + 4 * k + 2 + 1) - b - 10) % 147 = (3 + 18 * j + 2 + 4 * k + 2 + 1) by omega]
    unfold lyC1
    rw [if_neg (by omega), if_neg (by omega), if_neg (by omega), show ((3 + 18 * j + 2 + 4 * k + 2 + 1) - 3) % 18 = (2 + 4 * k + 2 + 1) by omega]
    unfold lyC2
    rw [if_neg (by omega), if_neg (by omega), show ((2 + 4 * k + 2 + 1) - 2) % 4 = 3 by omega]
    rfl
theorem sg_gksigns (h : is_Key b a) : (sg_L 892 (lyC κ b) b σ)[a + 1 - b]? = some (a + 1, .inl (κ 1, sg_kR b a, .inl (σ.1 (a + 1)))) := by
  rw [sg_get (sg_aksigns h), sg_yksigns h]
end LyC
