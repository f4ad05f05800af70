-- ===== one more field =====
theorem eqf_p {S S' : Sh} {q p : Nat} (hS : ∀ k i, 5 ≤ k → ¬ in_S q k i → S' k i = S k i) (h : p ≠ q) : eq_fld S S' p := by
  unfold in_S at hS
  exact ⟨hS _ _ (by omega) (by omega), hS _ _ (by omega) (by omega), hS _ _ (by omega) (by omega), hS _ _ (by omega) (by omega), fun s hs => ⟨hS _ _ (by omega) (by omega), hS _ _ (by omega) (by omega), fun i hi => hS _ _ (by omega) (by omega)⟩⟩
theorem eqr_p {S S' : Sh} {q r : Nat} (hS : ∀ k i, 5 ≤ k → ¬ in_S q k i → S' k i = S k i) (h3 : ∀ i, S' 3 i = S 3 i) (h4 : S' 4 r = S 4 r) (h : ∀ f, f < 8 → 8 * r + f ≠ q) : eq_rec S S' r :=
  ⟨h4, fun i hi => h3 _, fun f hf => eqf_p hS (h f hf)⟩
theorem JJ_add {b m : Nat} {σ σ' τ τ' : Sg} {S S' : Sh} {pl : Int32} (hok : ps_ok S) (hc : rc_all b σ S pl) (hm : rm_all m τ S pl) {r f a : Nat} (hr : r < S 2 0) (hf4 : f = S 4 r) (hf7 : f < 8) (ha : σ.2 (ad_C b r + 2) f = a) (hS0 : ∀ k i, ¬ in_S (8 * r + f) k i → ¬ (k = 4 ∧ i = r) → S' k i = S k i) (h44 : S' 4 r = f + 1) (hp : ps_fld S' (8 * r + f)) (h1 : ∀ z k, ¬ (a ≤ z ∧ z < a + 18) → ¬ (z = ad_C b r ∧ k = 2) → σ'.1 z k = σ.1 z k) (h1c : σ'.1 (ad_C b r) 2 = nI (f + 1)) (h2 : σ'.2 = σ.2) (hC : rc_fld σ' S' (8 * r + f) a) (h3 : ∀ z i, ¬ in_M m (8 * r + f) z i → ¬ (z = m + 3 ∧ i = r) → τ'.1 z i = τ.1 z i) (h3c : τ'.1 (m + 3) r = nI (f + 1)) (hM : rm_fld m τ' S' (8 * r + f)) : JJ b σ' m τ' := by
  have hn := hok.2.2.1
  have hR := hok.2.2.2.1 r hr
  have h8 := hR.1
  have hrow := hc.2.2.2.2.2
  obtain ⟨p, hp8, ep⟩ := (hrow r (by omega)).1 f (by omega)
  have hap : a = ad_C b r + 3 + 18 * p := by rw [← ha, ep]
  have hAC : ∀ r, ad_C b r = b + 10 + 147 * r := fun r => rfl
  have e20 : S' 2 0 = S 2 0 := hS0 _ _ (by unfold in_S; omega) (by omega)
  have e00 : S' 0 0 = S 0 0 := hS0 _ _ (by unfold in_S; omega) (by omega)
  have e120 : S' 12 0 = S 12 0 := hS0 _ _ (by unfold in_S; omega) (by omega)
  have e1 : ∀ i, S' 1 i = S 1 i := fun i => hS0 _ _ (by unfold in_S; omega) (by omega)
  have e13 : ∀ i, S' 13 i = S 13 i := fun i => hS0 _ _ (by unfold in_S; omega) (by omega)
  have e4 : ∀ i, i ≠ r → S' 4 i = S 4 i := fun i hi => hS0 _ _ (by unfold in_S; omega) (by omega)
  have hS : ∀ k i, 5 ≤ k → ¬ in_S (8 * r + f) k i → S' k i = S k i := fun k i hk h => hS0 k i h (by omega)
  have e3 : ∀ i, S' 3 i = S 3 i := fun i => hS0 _ _ (by unfold in_S; omega) (by omega)
  have hz : ∀ z k, z < b + 10 → σ'.1 z k = σ.1 z k := fun z k hz => h1 z k (by have := hAC r; omega) (by have := hAC r; omega)
  have hy : ∀ z i, z ≤ m + 3 ∨ m + 11 ≤ z → ¬ (z = m + 3 ∧ i = r) → τ'.1 z i = τ.1 z i := fun z i hz => h3 z i (by unfold in_M; omega)
  refine ⟨S', pl, ⟨by rw [e00]; exact hok.1, fun i hi => by rw [e00] at hi; rw [e1]; exact hok.2.1 i hi, by rw [e20]; exact hn, fun r' hr' => ?_, by rw [e120]; exact hok.2.2.2.2.1, fun i hi => by rw [e120] at hi; rw [e13]; exact hok.2.2.2.2.2 i hi⟩, ⟨⟨by rw [hz _ _ (by omega), e00]; exact hc.1.1, fun i hi => by rw [e00] at hi; rw [hz _ _ (by omega), e1]; exact hc.1.2 i hi⟩, by rw [hz _ _ (by omega), e20]; exact hc.2.1, fun r' hr' => ?_, ⟨by rw [hz _ _ (by omega), e120]; exact hc.2.2.2.1.1, fun i hi => by rw [e120] at hi; rw [hz _ _ (by omega), e13]; exact hc.2.2.2.1.2 i hi⟩, by rw [hz _ _ (by omega)]; exact hc.2.2.2.2.1, by unfold rc_row; rw [h2]; exact hrow⟩, ⟨⟨by rw [hy _ _ (by omega) (by omega), e00]; exact hm.1.1, fun i hi => by rw [e00] at hi; rw [hy _ _ (by omega) (by omega), e1]; exact hm.1.2 i hi⟩, by rw [hy _ _ (by omega) (by omega), e20]; exact hm.2.1, fun r' hr' => ?_, ⟨by rw [hy _ _ (by omega) (by omega), e120]; exact hm.2.2.2.1.1, fun i hi => by rw [e120] at hi; rw [hy _ _ (by omega) (by omega), e13]; exact hm.2.2.2.1.2 i hi⟩, by rw [hy _ _ (by omega) (by omega)]; exact hm.2.2.2.2⟩⟩
  · rw [e20] at hr'
    by_cases hrr : r' = r
    · subst hrr
      unfold ps_rec
      rw [h44]
      refine ⟨by omega, fun i hi => by rw [e3]; exact hR.2.1 i hi, fun f' hf' => ?_⟩
      by_cases hff : f' = f
      · subst hff; exact hp
      · exact ps_fld_g (eqf_p hS (by omega)) (hR.2.2 f' (by omega))
    · exact ps_rec_g (eqr_p hS e3 (e4 r' hrr) (fun f' hf' => by omega)) (hok.2.2.2.1 r' hr')
  · rw [e20] at hr'
    by_cases hrr : r' = r
    · subst hrr
      have hCr := hc.2.2.1 r' hr
      unfold rc_rec at hCr ⊢
      rw [h44, h2]
      refine ⟨h1c, fun i hi => by rw [h1 _ _ (by have := hAC r'; omega) (by omega), e3]; exact hCr.2.1 i hi, fun f' hf' => ?_⟩
      by_cases hff : f' = f
      · subst hff; rw [ha]; exact hC
      · obtain ⟨p', hp8', ep'⟩ := (hrow r' (by omega)).1 f' (by omega)
        have hpp : p' ≠ p := fun q => hff ((hrow r' (by omega)).2 f' f (by omega) (by omega) (by rw [ep', ep, q]))
        refine rc_fld_g (eqf_p hS (by omega)) (hR.2.2 f' (by omega)) (fun z k h4 h5 => h1 z k ?_ ?_) (hCr.2.2 f' (by omega))
        · have : ad_F b r' p' = ad_C b r' + 3 + 18 * p' := rfl
          rw [ep'] at h4 h5
          omega
        · have : ad_F b r' p' = ad_C b r' + 3 + 18 * p' := rfl
          rw [ep'] at h4 h5
          omega
    · refine rc_rec_g (σ := σ) (S := S) (by omega) hrow (eqr_p hS e3 (e4 r' hrr) (fun f' hf' => by omega)) (hok.2.2.2.1 r' hr') (fun z k h4 h5 => h1 z k ?_ ?_) (fun f' hf' => by rw [h2]) (hc.2.2.1 r' hr')
      · have := hAC r
        have := hAC r'
        omega
      · have := hAC r
        have := hAC r'
        omega
  · rw [e20] at hr'
    by_cases hrr : r' = r
    · subst hrr
      have hMr := hm.2.2.1 r' hr
      unfold rm_rec at hMr ⊢
      rw [h44]
      refine ⟨h3c, fun i hi => by rw [hy _ _ (by omega) (by omega), e3]; exact hMr.2.1 i hi, fun f' hf' => ?_⟩
      by_cases hff : f' = f
      · subst hff; exact hM
      · exact rm_fld_g (eqf_p hS (by omega)) (hR.2.2 f' (by omega)) (fun z g1 g2 => h3 _ _ (by unfold in_M; omega) (by omega)) (fun z s hz hs => h3 _ _ (by unfold in_M; omega) (by omega)) (fun i hi => h3 _ _ (by unfold in_M; omega) (by omega)) (hMr.2.2 f' (by omega))
    · exact rm_rec_g (τ := τ) (S := S) (eqr_p hS e3 (e4 r' hrr) (fun f' hf' => by omega)) (hok.2.2.2.1 r' hr') (hy _ _ (by omega) (by omega)) (fun i hi => hy _ _ (by omega) (by omega)) (fun z f' g1 g2 g3 => h3 _ _ (by unfold in_M; omega) (by omega)) (fun z s hz hs => h3 _ _ (by unfold in_M; omega) (by omega)) (fun i hi => h3 _ _ (by unfold in_M; omega) (by omega)) (hm.2.2.1 r' hr')
