theorem sg_out3 {x : Int32} (h0 : ¬ x = 0) (h1 : ¬ x = 1) (h2 : ¬ x = 2) : x < 0 ∨ ¬ x ≤ 2 := by
  rcases sg_sw3t h0 h1 h2 with h | h
  · exact Or.inl (Int32.lt_iff_toInt_lt.mpr (by simpa using h))
  · exact Or.inr (fun q => by have := Int32.le_iff_toInt_le.mp q; have h2 : (2 : Int32).toInt = 2 := by decide
                              omega)
-- ===== reads of the shelf =====
theorem tx_c {b : Nat} {σ : Sg} {S : Sh} (h : rc_txt b σ S) (hn : S 0 0 ≤ 600) (x : Int32) : fn_X6_codeAt b σ x = some (if x < 0 then -1 else if nI (S 0 0) ≤ x then -1 else nI (S 1 (sg_x x))) := by
  rcases sg_ix3 x (n := S 0 0) (by omega) with h0 | h0 | ⟨j, hj, rfl⟩
  · simp [fn_X6_codeAt, h0]
  · by_cases h1 : x < 0
    · simp [fn_X6_codeAt, h1]
    · simp [fn_X6_codeAt, h1, h.1, h0]
  · have a1 : ¬ nI j < 0 := nI_pos (by omega)
    have a2 : ¬ nI (S 0 0) ≤ nI j := nI_ge hj (by omega)
    have a3 : sg_ib (nI j) 600 := sg_ibN (by omega) (by omega)
    unfold fn_X6_codeAt
    rw [if_neg a1, if_neg a1, h.1, if_neg a2, if_neg a2, if_pos a3, sg_xN (by omega), h.2 j hj]
theorem op_letter {b m : Nat} {σ τ : Sg} (h : JJ b σ m τ) (x1 : Int32)  : ∃ r : Int32, fn_X7_letter b σ x1 = some r ∧ fn_X8_letter m τ x1 = some r := by
  obtain ⟨S, pl, hok, hc, hm⟩ := h
  have hn := hok.1
  refine ⟨_, by unfold fn_X7_letter; rw [tx_c hc.1 hn]; rfl, ?_⟩
  rcases sg_ix3 x1 (n := S 0 0) (by omega) with h0 | h0 | ⟨j, hj, rfl⟩
  · simp [fn_X8_letter, h0]
  · by_cases h1 : x1 < 0
    · simp [fn_X8_letter, h1]
    · simp [fn_X8_letter, h1, hm.1.1, h0]
  · have a1 : ¬ nI j < 0 := nI_pos (by omega)
    have a2 : ¬ nI (S 0 0) ≤ nI j := nI_ge hj (by omega)
    have a3 : sg_ib (nI j) 600 := sg_ibN (by omega) (by omega)
    unfold fn_X8_letter
    rw [if_neg a1, if_neg a1, hm.1.1, if_neg a2, if_neg a2, if_pos a3, sg_xN (by omega), hm.1.2 j hj]
theorem op_place {b m : Nat} {σ τ : Sg} (h : JJ b σ m τ)   : ∃ r : Int32, fn_X7_place b σ = some r ∧ fn_X8_place m τ = some r := by
  obtain ⟨S, pl, hok, hc, hm⟩ := h
  refine ⟨pl, ?_, ?_⟩
  · unfold fn_X7_place; rw [hc.2.2.2.2.1]
  · unfold fn_X8_place; rw [hm.2.2.2.2]
theorem op_heading {b m : Nat} {σ τ : Sg} (h : JJ b σ m τ) (x1 : Int32) (x2 : Int32)  : ∃ r : Int32, fn_X7_heading b σ x1 x2 = some r ∧ fn_X8_heading m τ x1 x2 = some r := by
  obtain ⟨S, pl, hok, hc, hm⟩ := h
  have hn : S 12 0 ≤ 192 := hok.2.2.2.2.1
  have c1 := hc.2.2.2.1.1
  have m1 := hm.2.2.2.1.1
  rcases sg_ix3 x1 (n := S 12 0) (by omega) with h0 | h0 | ⟨j, hj, rfl⟩
  · exact ⟨-1, by simp [fn_X7_heading, fn_X2_part, h0], by simp [fn_X8_heading, h0]⟩
  · have h1 : ¬ x1 < nI (S 12 0) := Int32.not_lt.mpr h0
    refine ⟨-1, ?_, ?_⟩
    · simp [fn_X7_heading, fn_X2_part, c1, h1]
    · simp [fn_X8_heading, m1, h0]
  · have a1 : ¬ nI j < 0 := nI_pos (by omega)
    have a2 : ¬ nI (S 12 0) ≤ nI j := nI_ge hj (by omega)
    have a4 : nI j < nI (S 12 0) := nI_lt hj (by omega)
    have a3 : sg_ib (nI j) 192 := sg_ibN (by omega) (by omega)
    have e1 := hc.2.2.2.1.2 j hj
    have e2 := hm.2.2.2.1.2 j hj
    by_cases h20 : x2 = 0
    · subst h20
      refine ⟨nI (S 13 j) / 32, ?_, ?_⟩
      · unfold fn_X7_heading fn_X2_part fn_X2_recordOf
        rw [if_neg a1, c1, if_pos a4, if_pos rfl, if_pos a3, sg_xN (by omega), e1]; rfl
      · unfold fn_X8_heading
        rw [if_neg a1, m1, if_neg a2, if_neg (by decide), if_pos (by decide), if_pos a3, sg_xN (by omega), e2]
        rfl
    by_cases h21 : x2 = 1
    · subst h21
      refine ⟨(nI (S 13 j) / 4) - (nI (S 13 j) / 4) / 8 * 8, ?_, ?_⟩
      · unfold fn_X7_heading fn_X2_part fn_X2_fieldOf
        rw [if_neg a1, c1, if_pos a4, if_neg (by decide), if_pos rfl, if_pos a3, sg_xN (by omega), e1]; rfl
      · unfold fn_X8_heading
        rw [if_neg a1, m1, if_neg a2, if_neg (by decide), if_pos (by decide), if_pos a3, sg_xN (by omega), e2]
        rfl
    by_cases h22 : x2 = 2
    · subst h22
      refine ⟨nI (S 13 j) - nI (S 13 j) / 4 * 4, ?_, ?_⟩
      · unfold fn_X7_heading fn_X2_part fn_X2_subfieldOf
        rw [if_neg a1, c1, if_pos a4, if_neg (by decide), if_neg (by decide), if_pos rfl, if_pos a3, sg_xN (by omega), e1]; rfl
      · unfold fn_X8_heading
        rw [if_neg a1, m1, if_neg a2, if_neg (by decide), if_pos (by decide), if_pos a3, sg_xN (by omega), e2]
        rfl
    refine ⟨-1, ?_, ?_⟩
    · unfold fn_X7_heading fn_X2_part
      rw [if_neg a1, c1, if_pos a4, if_neg h20, if_neg h21, if_neg h22]; rfl
    · unfold fn_X8_heading
      rw [if_neg a1, m1, if_neg a2]
      rcases sg_out3 h20 h21 h22 with hz | hz
      · rw [if_pos hz]
      · by_cases hq : x2 < 0
        · rw [if_pos hq]
        · rw [if_neg hq, if_neg hz]
-- ===== which record, field, subfield =====
def bad (x : Int32) (n : Nat) : Prop := x < 0 ∨ nI n ≤ x
theorem bad_or (x : Int32) {n : Nat} (hn : n < 2 ^ 31) : bad x n ∨ ∃ j, j < n ∧ x = nI j := by
  rcases sg_ix3 x hn with h | h | h
  · exact Or.inl (Or.inl h)
  · exact Or.inl (Or.inr h)
  · exact Or.inr h
theorem hcC_bad {b : Nat} {σ : Sg} {n : Nat} {x : Int32} (hc : σ.1 b 5 = nI n) (h : bad x n) : fn_X7_hasCard b σ x = some 0 := by
  unfold fn_X7_hasCard
  by_cases h0 : x < 0
  · rw [if_pos h0]
  · rw [if_neg h0, hc, if_pos (h.resolve_left h0)]
theorem hcC_ok {b : Nat} {σ : Sg} {n r : Nat} (hc : σ.1 b 5 = nI n) (hn : n < 2 ^ 31) (h : r < n) : fn_X7_hasCard b σ (nI r) = some 1 := by
  unfold fn_X7_hasCard
  rw [if_neg (nI_pos (by omega)), hc, if_neg (nI_ge h hn)]
theorem hcM_bad {m : Nat} {τ : Sg} {n : Nat} {x : Int32} (hc : τ.1 m 2 = nI n) (h : bad x n) : fn_X8_isRecord m τ x = some 0 := by
  unfold fn_X8_isRecord
  by_cases h0 : x < 0
  · rw [if_pos h0]
  · rw [if_neg h0, hc, if_pos (h.resolve_left h0)]
theorem hcM_ok {m : Nat} {τ : Sg} {n r : Nat} (hc : τ.1 m 2 = nI n) (hn : n < 2 ^ 31) (h : r < n) : fn_X8_isRecord m τ (nI r) = some 1 := by
  unfold fn_X8_isRecord
  rw [if_neg (nI_pos (by omega)), hc, if_neg (nI_ge h hn)]
theorem hfC_r {b : Nat} {σ : Sg} {n : Nat} {x y : Int32} (hc : σ.1 b 5 = nI n) (h : bad x n) : fn_X7_hasField b σ x y = some 0 := by
  unfold fn_X7_hasField
  rw [hcC_bad hc h]; rfl
theorem hfM_r {m : Nat} {τ : Sg} {n : Nat} {x y : Int32} (hc : τ.1 m 2 = nI n) (h : bad x n) : fn_X8_isField m τ x y = some 0 := by
  unfold fn_X8_isField
  rw [hcM_bad hc h]; rfl
theorem hfC_bad {b : Nat} {σ : Sg} {n r k : Nat} {y : Int32} (hc : σ.1 b 5 = nI n) (hn : n ≤ 6) (h : r < n) (hk : σ.1 (ad_C b r) 2 = nI k) (hy : bad y k) : fn_X7_hasField b σ (nI r) y = some 0 := by
  unfold fn_X7_hasField
  rw [hcC_ok hc (by omega) h]
  simp only [Option.bind_some]
  rw [if_neg (by decide)]
  by_cases h0 : y < 0
  · rw [if_pos h0]
  · rw [if_neg h0, if_pos (sg_ibN (by omega) (by omega)), sg_xN (by omega), hk, if_pos (hy.resolve_left h0)]
theorem hfC_ok {b : Nat} {σ : Sg} {n r k f : Nat} (hc : σ.1 b 5 = nI n) (hn : n ≤ 6) (h : r < n) (hk : σ.1 (ad_C b r) 2 = nI k) (hk8 : k ≤ 8) (hf : f < k) : fn_X7_hasField b σ (nI r) (nI f) = some 1 := by
  unfold fn_X7_hasField
  rw [hcC_ok hc (by omega) h]
  simp only [Option.bind_some]
  rw [if_neg (by decide), if_neg (nI_pos (by omega)), if_pos (sg_ibN (by omega) (by omega)), sg_xN (by omega), hk, if_neg (nI_ge hf (by omega))]
theorem hfM_bad {m : Nat} {τ : Sg} {n r k : Nat} {y : Int32} (hc : τ.1 m 2 = nI n) (hn : n ≤ 6) (h : r < n) (hk : τ.1 (m + 3) r = nI k) (hy : bad y k) : fn_X8_isField m τ (nI r) y = some 0 := by
  unfold fn_X8_isField
  rw [hcM_ok hc (by omega) h]
  simp only [Option.bind_some]
  rw [if_neg (by decide)]
  by_cases h0 : y < 0
  · rw [if_pos h0]
  · rw [if_neg h0, if_pos (sg_ibN (by omega) (by omega)), sg_xN (by omega), hk, if_pos (hy.resolve_left h0)]
theorem hfM_ok {m : Nat} {τ : Sg} {n r k f : Nat} (hc : τ.1 m 2 = nI n) (hn : n ≤ 6) (h : r < n) (hk : τ.1 (m + 3) r = nI k) (hk8 : k ≤ 8) (hf : f < k) : fn_X8_isField m τ (nI r) (nI f) = some 1 := by
  unfold fn_X8_isField
  rw [hcM_ok hc (by omega) h]
  simp only [Option.bind_some]
  rw [if_neg (by decide), if_neg (nI_pos (by omega)), if_pos (sg_ibN (by omega) (by omega)), sg_xN (by omega), hk, if_neg (nI_ge hf (by omega))]
theorem nI_8r (r f : Nat) : (8 * nI r) + nI f = nI (8 * r + f) := by
  rw [show (8 : Int32) = nI 8 from rfl, pk_mul, nI_add]
theorem op_many {b m : Nat} {σ τ : Sg} (h : JJ b σ m τ) (x1 : Int32) (x2 : Int32)  : ∃ r : Int32, fn_X7_many b σ x1 x2 = some r ∧ fn_X8_many m τ x1 x2 = some r := by
  obtain ⟨S, pl, hok, hc, hm⟩ := h
  have hn : S 2 0 ≤ 6 := hok.2.2.1
  rcases bad_or x1 (n := S 2 0) (by omega) with hb | ⟨r, hr, rfl⟩
  · refine ⟨-1, ?_, ?_⟩
    · unfold fn_X7_many
      rw [hfC_r hc.2.1 hb, hcC_bad hc.2.1 hb]
      simp
    · unfold fn_X8_many
      rw [hfM_r hm.2.1 hb, hcM_bad hm.2.1 hb]
      simp
  have hR := hok.2.2.2.1 r hr
  have hC := hc.2.2.1 r hr
  have hM := hm.2.2.1 r hr
  by_cases h0 : (0 : Int32) ≤ x2
  · rcases bad_or x2 (n := S 4 r) (by have := hR.1; omega) with hb | ⟨f, hf, rfl⟩
    · refine ⟨-1, ?_, ?_⟩
      · unfold fn_X7_many
        rw [if_pos h0, hfC_bad hc.2.1 hn hr hC.1 hb]; rfl
      · unfold fn_X8_many
        rw [if_pos h0, hfM_bad hm.2.1 hn hr hM.1 hb]; rfl
    · have hf8 := hR.1
      refine ⟨nI (S 8 (8 * r + f)), ?_, ?_⟩
      · unfold fn_X7_many
        rw [if_pos h0, hfC_ok hc.2.1 hn hr hC.1 hR.1 hf]
        simp only [Option.bind_some]
        rw [if_neg (by decide), if_pos (sg_ibN (by omega) (by omega)), if_pos (sg_ibN (by omega) (by omega)), sg_xN (by omega), sg_xN (by omega), (hC.2.2 f hf).2.2.2.1]
      · unfold fn_X8_many
        rw [if_pos h0, hfM_ok hm.2.1 hn hr hM.1 hR.1 hf]
        simp only [Option.bind_some]
        rw [if_neg (by decide), nI_8r, if_pos (sg_ibN (by omega) (by omega)), sg_xN (by omega), (hM.2.2 f hf).2.2.2.1]
  · refine ⟨nI (S 4 r), ?_, ?_⟩
    · unfold fn_X7_many
      rw [if_neg h0, hcC_ok hc.2.1 (by omega) hr]
      simp only [Option.bind_some]
      rw [if_neg (by decide), if_pos (sg_ibN (by omega) (by omega)), sg_xN (by omega), hC.1]
    · unfold fn_X8_many
      rw [if_neg h0, hcM_ok hm.2.1 (by omega) hr]
      simp only [Option.bind_some]
      rw [if_neg (by decide), if_pos (sg_ibN (by omega) (by omega)), sg_xN (by omega), hM.1]
