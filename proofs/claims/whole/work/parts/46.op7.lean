-- ===== one field changes =====
def in_S (q k i : Nat) : Prop := (5 ≤ k ∧ k ≤ 8 ∧ i = q) ∨ ((k = 9 ∨ k = 10) ∧ 4 * q ≤ i ∧ i < 4 * q + 4) ∨ (k = 11 ∧ 80 * q ≤ i ∧ i < 80 * q + 80)
def in_M (m q z i : Nat) : Prop := (m + 4 ≤ z ∧ z ≤ m + 7 ∧ i = q) ∨ ((z = m + 8 ∨ z = m + 9) ∧ 4 * q ≤ i ∧ i < 4 * q + 4) ∨ (z = m + 10 ∧ 80 * q ≤ i ∧ i < 80 * q + 80)
theorem eqf_o {S S' : Sh} {q p : Nat} (hS : ∀ k i, ¬ in_S q k i → S' k i = S k i) (h : p ≠ q) : eq_fld S S' p := by
  unfold in_S at hS
  exact ⟨hS _ _ (by omega), hS _ _ (by omega), hS _ _ (by omega), hS _ _ (by omega), fun s hs => ⟨hS _ _ (by omega), hS _ _ (by omega), fun i hi => hS _ _ (by omega)⟩⟩
theorem eqr_o {S S' : Sh} {q r : Nat} (hS : ∀ k i, ¬ in_S q k i → S' k i = S k i) (h : ∀ f, f < 8 → 8 * r + f ≠ q) : eq_rec S S' r := by
  have hS2 := hS
  unfold in_S at hS2
  exact ⟨hS2 _ _ (by omega), fun i hi => hS2 _ _ (by omega), fun f hf => eqf_o hS (h f hf)⟩
theorem JJ_fld {b m : Nat} {σ σ' τ τ' : Sg} {S S' : Sh} {pl : Int32} (hok : ps_ok S) (hc : rc_all b σ S pl) (hm : rm_all m τ S pl) {r f a : Nat} (hr : r < S 2 0) (hf : f < S 4 r) (ha : σ.2 (ad_C b r + 2) f = a) (hS : ∀ k i, ¬ in_S (8 * r + f) k i → S' k i = S k i) (hp : ps_fld S' (8 * r + f)) (h1 : ∀ z k, ¬ (a ≤ z ∧ z < a + 18) → σ'.1 z k = σ.1 z k) (h2 : σ'.2 = σ.2) (hC : rc_fld σ' S' (8 * r + f) a) (h3 : ∀ z i, ¬ in_M m (8 * r + f) z i → τ'.1 z i = τ.1 z i) (hM : rm_fld m τ' S' (8 * r + f)) : JJ b σ' m τ' := by
  have hn := hok.2.2.1
  have hR := hok.2.2.2.1 r hr
  have h8 := hR.1
  have hrow := hc.2.2.2.2.2
  obtain ⟨p, hp8, ep⟩ := (hrow r (by omega)).1 f (by omega)
  have hap : a = ad_C b r + 3 + 18 * p := by rw [← ha, ep]
  have hAC : ∀ r, ad_C b r = b + 10 + 147 * r := fun r => rfl
  have e20 : S' 2 0 = S 2 0 := hS _ _ (by unfold in_S; omega)
  have e00 : S' 0 0 = S 0 0 := hS _ _ (by unfold in_S; omega)
  have e120 : S' 12 0 = S 12 0 := hS _ _ (by unfold in_S; omega)
  have e1 : ∀ i, S' 1 i = S 1 i := fun i => hS _ _ (by unfold in_S; omega)
  have e13 : ∀ i, S' 13 i = S 13 i := fun i => hS _ _ (by unfold in_S; omega)
  have e4 : ∀ i, S' 4 i = S 4 i := fun i => hS _ _ (by unfold in_S; omega)
  have e3 : ∀ i, S' 3 i = S 3 i := fun i => hS _ _ (by unfold in_S; omega)
  have hz : ∀ z k, z < b + 10 → σ'.1 z k = σ.1 z k := fun z k hz => h1 z k (by have := hAC r; omega)
  have hy : ∀ z i, z ≤ m + 3 ∨ m + 11 ≤ z → τ'.1 z i = τ.1 z i := fun z i hz => h3 z i (by unfold in_M; omega)
  refine ⟨S', pl, ⟨by rw [e00]; exact hok.1, fun i hi => by rw [e00] at hi; rw [e1]; exact hok.2.1 i hi, by rw [e20]; exact hn, fun r' hr' => ?_, by rw [e120]; exact hok.2.2.2.2.1, fun i hi => by rw [e120] at hi; rw [e13]; exact hok.2.2.2.2.2 i hi⟩, ⟨⟨by rw [hz _ _ (by omega), e00]; exact hc.1.1, fun i hi => by rw [e00] at hi; rw [hz _ _ (by omega), e1]; exact hc.1.2 i hi⟩, by rw [hz _ _ (by omega), e20]; exact hc.2.1, fun r' hr' => ?_, ⟨by rw [hz _ _ (by omega), e120]; exact hc.2.2.2.1.1, fun i hi => by rw [e120] at hi; rw [hz _ _ (by omega), e13]; exact hc.2.2.2.1.2 i hi⟩, by rw [hz _ _ (by omega)]; exact hc.2.2.2.2.1, by unfold rc_row; rw [h2]; exact hrow⟩, ⟨⟨by rw [hy _ _ (by omega), e00]; exact hm.1.1, fun i hi => by rw [e00] at hi; rw [hy _ _ (by omega), e1]; exact hm.1.2 i hi⟩, by rw [hy _ _ (by omega), e20]; exact hm.2.1, fun r' hr' => ?_, ⟨by rw [hy _ _ (by omega), e120]; exact hm.2.2.2.1.1, fun i hi => by rw [e120] at hi; rw [hy _ _ (by omega), e13]; exact hm.2.2.2.1.2 i hi⟩, by rw [hy _ _ (by omega)]; exact hm.2.2.2.2⟩⟩
  · rw [e20] at hr'
    by_cases hrr : r' = r
    · subst hrr
      unfold ps_rec
      rw [e4]
      refine ⟨h8, fun i hi => by rw [e3]; exact hR.2.1 i hi, fun f' hf' => ?_⟩
      by_cases hff : f' = f
      · subst hff; exact hp
      · exact ps_fld_g (eqf_o hS (by omega)) (hR.2.2 f' hf')
    · exact ps_rec_g (eqr_o hS (fun f' hf' => by omega)) (hok.2.2.2.1 r' hr')
  · rw [e20] at hr'
    by_cases hrr : r' = r
    · subst hrr
      have hCr := hc.2.2.1 r' hr
      unfold rc_rec at hCr ⊢
      rw [e4, h2]
      refine ⟨by rw [h1 _ _ (by have := hAC r'; omega)]; exact hCr.1, fun i hi => by rw [h1 _ _ (by have := hAC r'; omega), e3]; exact hCr.2.1 i hi, fun f' hf' => ?_⟩
      by_cases hff : f' = f
      · subst hff; rw [ha]; exact hC
      · obtain ⟨p', hp8', ep'⟩ := (hrow r' (by omega)).1 f' (by omega)
        have hpp : p' ≠ p := fun q => hff ((hrow r' (by omega)).2 f' f (by omega) (by omega) (by rw [ep', ep, q]))
        refine rc_fld_g (eqf_o hS (by omega)) (hR.2.2 f' hf') (fun z k h4 h5 => h1 z k ?_) (hCr.2.2 f' hf')
        have : ad_F b r' p' = ad_C b r' + 3 + 18 * p' := rfl
        rw [ep'] at h4 h5
        omega
    · refine rc_rec_g (σ := σ) (S := S) (by omega) hrow (eqr_o hS (fun f' hf' => by omega)) (hok.2.2.2.1 r' hr') (fun z k h4 h5 => h1 z k ?_) (fun f' hf' => by rw [h2]) (hc.2.2.1 r' hr')
      have := hAC r
      have := hAC r'
      omega
  · rw [e20] at hr'
    by_cases hrr : r' = r
    · subst hrr
      have hMr := hm.2.2.1 r' hr
      unfold rm_rec at hMr ⊢
      rw [e4, hy _ _ (by omega)]
      refine ⟨hMr.1, fun i hi => by rw [hy _ _ (by omega), e3]; exact hMr.2.1 i hi, fun f' hf' => ?_⟩
      by_cases hff : f' = f
      · subst hff; exact hM
      · exact rm_fld_g (eqf_o hS (by omega)) (hR.2.2 f' hf') (fun z g1 g2 => h3 _ _ (by unfold in_M; omega)) (fun z s hz hs => h3 _ _ (by unfold in_M; omega)) (fun i hi => h3 _ _ (by unfold in_M; omega)) (hMr.2.2 f' hf')
    · exact rm_rec_g (τ := τ) (S := S) (eqr_o hS (fun f' hf' => by omega)) (hok.2.2.2.1 r' hr') (hy _ _ (by omega)) (fun i hi => hy _ _ (by omega)) (fun z f' g1 g2 g3 => h3 _ _ (by unfold in_M; omega)) (fun z s hz hs => h3 _ _ (by unfold in_M; omega)) (fun i hi => h3 _ _ (by unfold in_M; omega)) (hm.2.2.1 r' hr')
-- ===== subfield =====
theorem cd_eq (x : Int32) : fn_X7_isCode x = fn_X8_isCode x := by
  unfold fn_X7_isCode fn_X8_isCode fn_X7_isCode_B12 fn_X8_isCode_B12 fn_X7_isCode_B24 fn_X8_isCode_B19 fn_X8_isDigit
  by_cases h1 : x < 48
  · simp [h1]
  · by_cases h2 : (57 : Int32) < x
    · simp [h1, h2]
    · simp [h1, h2]
theorem cd_val (x : Int32) : fn_X7_isCode x = some 0 ∨ (fn_X7_isCode x = some 1 ∧ ∃ j : Nat, j < 128 ∧ x = nI j) := by
  unfold fn_X7_isCode fn_X7_isCode_B12 fn_X7_isCode_B24
  have key : ∀ lo hi : Int32, ∀ n : Nat, hi.toInt = n → n < 128 → (0 : Int32) ≤ lo → ¬ x < lo → ¬ hi < x → ∃ j : Nat, j < 128 ∧ x = nI j := by
    intro lo hi n hn h128 hl h1 h2
    obtain ⟨j, hj, e⟩ := nI_of2 (x := x) (M := hi) (n := n) hn (fun q => h1 (by
      have a := Int32.lt_iff_toInt_lt.mp q
      have b := Int32.le_iff_toInt_le.mp hl
      exact Int32.lt_iff_toInt_lt.mpr (by omega))) (Int32.not_lt.mp h2)
    exact ⟨j, by omega, e⟩
  by_cases h1 : x < 97
  · rw [if_pos h1]
    by_cases h2 : x < 48
    · rw [if_pos h2]; exact Or.inl rfl
    · rw [if_neg h2]
      by_cases h3 : (57 : Int32) < x
      · rw [if_pos h3]; exact Or.inl rfl
      · rw [if_neg h3]; exact Or.inr ⟨rfl, key 48 57 57 (by decide) (by decide) (by decide) h2 h3⟩
  · rw [if_neg h1]
    by_cases h2 : x ≤ 122
    · rw [if_pos h2]; exact Or.inr ⟨rfl, key 97 122 122 (by decide) (by decide) (by decide) h1 (Int32.not_lt.mpr h2)⟩
    · rw [if_neg h2]
      by_cases h4 : x < 48
      · rw [if_pos h4]; exact Or.inl rfl
      · rw [if_neg h4]
        by_cases h3 : (57 : Int32) < x
        · rw [if_pos h3]; exact Or.inl rfl
        · rw [if_neg h3]; exact Or.inr ⟨rfl, key 48 57 57 (by decide) (by decide) (by decide) h4 h3⟩
