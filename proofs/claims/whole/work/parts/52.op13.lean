-- ===== field: the rest =====
theorem fl_go {b m : Nat} {σ τ : Sg} (hJ : JJ b σ m τ) {S : Sh} {pl : Int32} (hok : ps_ok S) (hc : rc_all b σ S pl) (hm : rm_all m τ S pl) {r tag i1 i2 : Nat} {x3 x4 y : Int32} (hr : r < S 2 0) (ht1 : 1 ≤ tag) (ht9 : tag ≤ 999) (hi1 : i1 < 128) (hi2 : i2 < 128) (hy : (y = 1 ∧ i1 = 0 ∧ i2 = 0) ∨ (y = 0 ∧ x3 = nI i1 ∧ x4 = nI i2)) : ∃ (v : Int32) (σ' τ' : Sg), fn_X7_field_B57 b σ (nI r) (nI tag) x3 x4 y = some (v, σ') ∧ fn_X8_field_B55 m τ (nI r) (nI tag) x3 x4 y = some (v, τ') ∧ JJ b σ' m τ' := by
  have hn : S 2 0 ≤ 6 := hok.2.2.1
  have hR := hok.2.2.2.1 r hr
  have hC := hc.2.2.1 r hr
  have hM := hm.2.2.1 r hr
  have h8 := hR.1
  obtain ⟨f, hf⟩ : ∃ z, z = S 4 r := ⟨_, rfl⟩
  have hCf : σ.1 (ad_C b r) 2 = nI f := by rw [hf]; exact hC.1
  have hMf : τ.1 (m + 3) r = nI f := by rw [hf]; exact hM.1
  unfold fn_X7_field_B57 fn_X8_field_B55 fn_X0_isFull
  rw [if_pos (sg_ibN (show r < 6 by omega) (by decide)), if_pos (sg_ibN (show r < 6 by omega) (by decide)), sg_xN (show r < 2 ^ 31 by omega), hMf]
  unfold sg_lt
  simp only []
  rw [show σ.1 (b + 10 + 147 * r) 2 = nI f from hCf]
  by_cases hfull : f = 8
  · rw [hfull]; exact ⟨-2, σ, τ, rfl, rfl, hJ⟩
  have hf8 : f < 8 := by omega
  rw [if_pos (show nI f < (8 : Int32) from nI_lt (b := 8) hf8 (by decide)), if_neg (show ¬ nI f = (8 : Int32) from fun q => hfull ((nI_eq (b := 8) (by omega) (by decide)).mp q)), Option.bind_some, if_pos (show (0 : Int32) = 0 from rfl), if_pos (sg_ibN (show r < 6 by omega) (by decide)), nI_8r, if_pos (sg_ibN (show 8 * r + f < 48 by omega) (by decide)), sg_xN (show 8 * r + f < 2 ^ 31 by omega)]
  obtain ⟨a, ha⟩ : ∃ z, σ.2 (ad_C b r + 2) f = z := ⟨_, rfl⟩
  obtain ⟨p, hp8, ep⟩ := (hc.2.2.2.2.2 r (by omega)).1 f hf8
  have hca : ad_C b r ≠ a := by rw [← ha, ep]; show b + 10 + 147 * r ≠ b + 10 + 147 * r + 3 + 18 * p; omega
  obtain ⟨ρ, e1, hp⟩ := ad_F0 (b := b) (tag := tag) hCf hf8 ha hca
  rw [show b + 10 + 147 * r = ad_C b r from rfl, e1, Option.bind_some]
  rcases hy with ⟨rfl, rfl, rfl⟩ | ⟨rfl, rfl, rfl⟩
  · obtain ⟨σ', τ', g1, g2, g3⟩ := fl_end (j := 0) hok hc hm hr hf hf8 ha hp ht1 ht9 (by decide) (by decide) (by decide)
    refine ⟨nI f, σ', τ', ?_, ?_, g3⟩
    · rw [if_neg (show ¬ (1 : Int32) = 0 by decide)]
      unfold fn_X7_field_B102
      rw [if_neg (show ¬ (1 : Int32) = 0 by decide)]
      exact g1
    · rw [if_neg (show ¬ (1 : Int32) = 0 by decide)]
      unfold fn_X8_field_B106 fn_X8_field_B124 sg_lt
      rw [if_pos (sg_ibN (show 8 * r + f < 48 by omega) (by decide)), sg_xN (show 8 * r + f < 2 ^ 31 by omega)]
      simp only []
      rw [if_neg (show ¬ (1 : Int32) = 0 by decide), if_pos (sg_ibN (show 8 * r + f < 48 by omega) (by decide)), if_pos (sg_ibN (show 8 * r + f < 48 by omega) (by decide)), if_neg (show ¬ (1 : Int32) = 0 by decide)]
      exact g2
  · have hp2 := pC_in (i1 := i1) (i2 := i2) hp hca
    obtain ⟨σ', τ', g1, g2, g3⟩ := fl_end (j := 97) hok hc hm hr hf hf8 ha hp2 ht1 ht9 hi1 hi2 (by decide)
    refine ⟨nI f, σ', τ', ?_, ?_, g3⟩
    · rw [if_pos (show (0 : Int32) = 0 from rfl), if_pos (sg_icN (show i1 < 65536 by omega)), if_pos (sg_icN (show i2 < 65536 by omega))]
      unfold fn_X7_field_B102
      rw [if_pos (show (0 : Int32) = 0 from rfl)]
      exact g1
    · rw [if_pos (show (0 : Int32) = 0 from rfl)]
      unfold fn_X8_field_B106 fn_X8_field_B124 sg_lt
      rw [if_pos (sg_ibN (show 8 * r + f < 48 by omega) (by decide)), sg_xN (show 8 * r + f < 2 ^ 31 by omega)]
      simp only []
      rw [if_pos trivial, if_pos (sg_ibN (show 8 * r + f < 48 by omega) (by decide)), if_pos (sg_ibN (show 8 * r + f < 48 by omega) (by decide)), if_pos trivial]
      exact g2
theorem op_field {b m : Nat} {σ τ : Sg} (h : JJ b σ m τ) (x1 : Int32) (x2 : Int32) (x3 : Int32) (x4 : Int32) (hx3 : sg_ic x3) (hx4 : sg_ic x4) : ∃ (r : Int32) (σ' τ' : Sg), fn_X7_field b σ x1 x2 x3 x4 = some (r, σ') ∧ fn_X8_field m τ x1 x2 x3 x4 = some (r, τ') ∧ JJ b σ' m τ' := by
  have hJ := h
  obtain ⟨S, pl, hok, hc, hm⟩ := h
  have hn : S 2 0 ≤ 6 := hok.2.2.1
  unfold fn_X7_field fn_X8_field
  rcases bad_or x1 (n := S 2 0) (by omega) with hb | ⟨r, hr, rfl⟩
  · unfold fn_X8_field_B11
    rw [hcC_bad hc.2.1 hb, hcM_bad hm.2.1 hb]
    refine ⟨-1, σ, τ, rfl, ?_, hJ⟩
    split <;> rfl
  unfold fn_X8_field_B11
  rw [hcC_ok hc.2.1 (by omega) hr, hcM_ok hm.2.1 (by omega) hr]
  rw [Option.bind_some, Option.bind_some, Option.bind_some, if_neg (show ¬ (1 : Int32) = 0 by decide), if_neg (show ¬ (1 : Int32) = 0 by decide), if_neg (show ¬ (1 : Int32) = 0 by decide)]
  by_cases h1 : x2 < 1
  · rw [if_pos h1, if_pos h1, if_pos h1]
    refine ⟨-1, σ, τ, rfl, ?_, hJ⟩
    split <;> rfl
  rw [if_neg h1, if_neg h1, if_neg h1]
  by_cases h9 : x2 ≤ 999
  · have hb9 : ¬ (999 : Int32) < x2 := Int32.not_lt.mpr h9
    rw [if_pos h9, if_neg hb9, if_neg hb9]
    obtain ⟨tag, ht, rfl⟩ := nI_of2 (x := x2) (M := 999) (n := 999) (by decide) (fun q => h1 (by
          have a := Int32.lt_iff_toInt_lt.mp q
          have e0 : (0 : Int32).toInt = 0 := by decide
          have e1 : (1 : Int32).toInt = 1 := by decide
          exact Int32.lt_iff_toInt_lt.mpr (by omega))) h9
    have ht1 : 1 ≤ tag := by
      rcases Nat.eq_zero_or_pos tag with e | e
      · subst e; exact absurd (by decide) h1
      · exact e
    unfold fn_X7_field_B33
    by_cases hs : tag < 10
    · rw [if_neg (show ¬ (10 : Int32) ≤ nI tag from nI_ge (b := 10) hs (by decide)), if_neg (show ¬ (10 : Int32) ≤ nI tag from nI_ge (b := 10) hs (by decide)), if_neg (show ¬ (1 : Int32) = 0 by decide), if_neg (show ¬ (1 : Int32) = 0 by decide)]
      exact fl_go hJ hok hc hm hr ht1 (by omega) (show 0 < 128 by decide) (show 0 < 128 by decide) (Or.inl ⟨rfl, rfl, rfl⟩)
    · rw [if_pos (show (10 : Int32) ≤ nI tag from nI_le (a := 10) (by omega) (by omega)), if_pos (show (10 : Int32) ≤ nI tag from nI_le (a := 10) (by omega) (by omega)), if_pos (show (0 : Int32) = 0 from rfl), if_pos (show (0 : Int32) = 0 from rfl), ← iv_eq, ← iv_eq]
      rcases iv_val x3 with e3 | ⟨e3, i1, hi1, rfl⟩
      · rw [e3]; exact ⟨-1, σ, τ, rfl, rfl, hJ⟩
      rw [e3, Option.bind_some, Option.bind_some, if_neg (show ¬ (1 : Int32) = 0 by decide), if_neg (show ¬ (1 : Int32) = 0 by decide)]
      rcases iv_val x4 with e4 | ⟨e4, i2, hi2, rfl⟩
      · rw [e4]; exact ⟨-1, σ, τ, rfl, rfl, hJ⟩
      rw [e4, Option.bind_some, Option.bind_some, if_neg (show ¬ (1 : Int32) = 0 by decide), if_neg (show ¬ (1 : Int32) = 0 by decide)]
      exact fl_go hJ hok hc hm hr ht1 (by omega) hi1 hi2 (Or.inr ⟨rfl, rfl, rfl⟩)
  · have hb9 : (999 : Int32) < x2 := Int32.not_le.mp h9
    rw [if_neg h9, if_pos hb9, if_pos hb9]
    refine ⟨-1, σ, τ, rfl, ?_, hJ⟩
    split <;> rfl
