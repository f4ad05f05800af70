-- ===== field =====
theorem iv_eq (x : Int32) : fn_X7_isIndicator x = fn_X8_isIndicator x := rfl
theorem iv_val (x : Int32) : fn_X7_isIndicator x = some 0 ∨ (fn_X7_isIndicator x = some 1 ∧ ∃ j : Nat, j < 128 ∧ x = nI j) := by
  unfold fn_X7_isIndicator fn_X7_isIndicator_B13 fn_X7_isDigit
  by_cases h0 : x = 32
  · rw [if_pos h0]; exact Or.inr ⟨rfl, 32, by decide, h0⟩
  · rw [if_neg h0]
    by_cases h1 : x < 48
    · rw [if_pos h1]; exact Or.inl rfl
    · rw [if_neg h1]
      by_cases h2 : (57 : Int32) < x
      · rw [if_pos h2]; exact Or.inl rfl
      · rw [if_neg h2]
        obtain ⟨j, hj, e⟩ := nI_of2 (x := x) (M := 57) (n := 57) (by decide) (fun q => h1 (by
          have a := Int32.lt_iff_toInt_lt.mp q
          have e0 : (0 : Int32).toInt = 0 := by decide
          have e1 : (48 : Int32).toInt = 48 := by decide
          exact Int32.lt_iff_toInt_lt.mpr (by omega))) (Int32.not_lt.mp h2)
        exact Or.inr ⟨rfl, j, by omega, e⟩
def pC (σ ρ : Sg) (a c f tag i1 i2 : Nat) : Prop := ρ.1 a 1 = nI 0 ∧ ρ.1 a 2 = nI tag ∧ ρ.1 a 3 = nI i1 ∧ ρ.1 a 4 = nI i2 ∧ ρ.1 c 2 = nI (f + 1) ∧ (∀ z k, z ≠ a → ¬ (z = c ∧ k = 2) → ρ.1 z k = σ.1 z k) ∧ ρ.2 = σ.2
theorem ad_F0 {b c a f tag : Nat} {σ : Sg} (h : σ.1 c 2 = nI f) (hf : f < 8) (ha : σ.2 (c + 2) f = a) (hca : c ≠ a) : ∃ ρ, fn_X0_addField b σ c (nI tag) = some (a, ρ) ∧ pC σ ρ a c f tag 0 0 := by
  refine ⟨sg_w (sg_w (sg_w (sg_w (sg_w σ a 2 (nI tag)) a 3 0) a 4 0) a 1 0) c 2 (nI (f + 1)), ?_, ?_, ?_, ?_, ?_, sg_wgs, fun z k h1 h2 => ?_, rfl⟩
  · unfold fn_X0_addField fn_X1_begin
    rw [h, if_pos (sg_ibN hf (by decide)), sg_xN (by omega), ha]
    unfold sg_lt
    simp only [Option.bind_some]
    rw [show (sg_w (sg_w (sg_w (sg_w σ a 2 (nI tag)) a 3 0) a 4 0) a 1 0).1 c 2 = nI f by rw [sg_wga hca, sg_wga hca, sg_wga hca, sg_wga hca]; exact h, nI_1]
  · rw [sg_wga (Ne.symm hca), sg_wgs]; rfl
  · rw [sg_wga (Ne.symm hca), sg_wgk (by decide), sg_wgk (by decide), sg_wgk (by decide), sg_wgs]
  · rw [sg_wga (Ne.symm hca), sg_wgk (by decide), sg_wgk (by decide), sg_wgs]; rfl
  · rw [sg_wga (Ne.symm hca), sg_wgk (by decide), sg_wgs]; rfl
  · rw [sg_wg, if_neg h2, sg_wga h1, sg_wga h1, sg_wga h1, sg_wga h1]
theorem pC_in {σ ρ : Sg} {a c f tag i1 i2 : Nat} (h : pC σ ρ a c f tag 0 0) (hca : c ≠ a) : pC σ (sg_w (sg_w ρ a 3 (nI i1)) a 4 (nI i2)) a c f tag i1 i2 := by
  refine ⟨?_, ?_, ?_, sg_wgs, ?_, fun z k h1 h2 => ?_, h.2.2.2.2.2.2⟩
  · rw [sg_wgk (by decide), sg_wgk (by decide)]; exact h.1
  · rw [sg_wgk (by decide), sg_wgk (by decide)]; exact h.2.1
  · rw [sg_wgk (by decide), sg_wgs]
  · rw [sg_wga hca, sg_wga hca]; exact h.2.2.2.2.1
  · rw [sg_wga h1, sg_wga h1]; exact h.2.2.2.2.2.1 z k h1 h2
/-- from the two states before the first subfield is opened to the end -/
theorem fl_end {b m : Nat} {σ τ ρ : Sg} {S : Sh} {pl : Int32} (hok : ps_ok S) (hc : rc_all b σ S pl) (hm : rm_all m τ S pl) {r f a tag i1 i2 j : Nat} (hr : r < S 2 0) (hf4 : f = S 4 r) (hf8 : f < 8) (ha : σ.2 (ad_C b r + 2) f = a) (hp : pC σ ρ a (ad_C b r) f tag i1 i2) (ht1 : 1 ≤ tag) (ht9 : tag ≤ 999) (hi1 : i1 < 128) (hi2 : i2 < 128) (hj : j < 128) : ∃ σ' τ', fn_X7_field_B115 b ρ (ad_C b r) (nI j) a = some (nI f, σ') ∧ fn_X8_field_B147 m (sg_w (sg_w (sg_w (sg_w τ (m + 4) (8 * r + f) (nI tag)) (m + 5) (8 * r + f) (nI i1)) (m + 6) (8 * r + f) (nI i2)) (m + 7) (8 * r + f) 0) (nI r) (nI j) (nI (8 * r + f)) = some (nI f, τ') ∧ JJ b σ' m τ' := by
  have hn := hok.2.2.1
  obtain ⟨p, hp8, ep⟩ := (hc.2.2.2.2.2 r (by omega)).1 f hf8
  have hap : a = ad_C b r + 3 + 18 * p := by rw [← ha, ep]
  have hMr := hm.2.2.1 r hr
  obtain ⟨q, hq⟩ : ∃ z, z = 8 * r + f := ⟨_, rfl⟩
  rw [← hq]
  have hq48 : q < 48 := by omega
  obtain ⟨τ0, hτ0⟩ : ∃ z, z = sg_w (sg_w (sg_w (sg_w τ (m + 4) q (nI tag)) (m + 5) q (nI i1)) (m + 6) q (nI i2)) (m + 7) q 0 := ⟨_, rfl⟩
  rw [← hτ0]
  have t7 : τ0.1 (m + 7) q = nI 0 := by rw [hτ0, sg_wgs]; rfl
  have t6 : τ0.1 (m + 6) q = nI i2 := by rw [hτ0, sg_wga (by omega), sg_wgs]
  have t5 : τ0.1 (m + 5) q = nI i1 := by rw [hτ0, sg_wga (by omega), sg_wga (by omega), sg_wgs]
  have t4 : τ0.1 (m + 4) q = nI tag := by rw [hτ0, sg_wga (by omega), sg_wga (by omega), sg_wga (by omega), sg_wgs]
  have to : ∀ z i, ¬ (m + 4 ≤ z ∧ z ≤ m + 7 ∧ i = q) → τ0.1 z i = τ.1 z i := fun z i h => by
    rw [hτ0, sg_wg, if_neg (by omega), sg_wg, if_neg (by omega), sg_wg, if_neg (by omega), sg_wg, if_neg (by omega)]
  obtain ⟨σ1, a1, a2, a3, a4, a5, a6, a7, a8⟩ := as_C (b := b) (c := 0) (j := j) hp.1 (by decide) (by omega)
  obtain ⟨τ1, b1, b2, b3, b4, b5⟩ := op_M (v := nI j) (c := 0) t7 hq48 (by decide)
  have hcnt : σ1.1 (ad_C b r) 2 = nI (f + 1) := by rw [a7 _ _ (by omega) (by omega) (by omega)]; exact hp.2.2.2.2.1
  have hcm : τ1.1 (m + 3) r = nI f := by rw [b5 _ _ (by omega) (by omega) (by omega), to _ _ (by omega), hMr.1, hf4]
  obtain ⟨S1, hS1⟩ : ∃ z, z = s_up (s_up (s_up (s_up (s_up S 5 q tag) 6 q i1) 7 q i2) 8 q 0) 4 r (f + 1) := ⟨_, rfl⟩
  have s5 : S1 5 q = tag := by rw [hS1, s_uk (by decide), s_uk (by decide), s_uk (by decide), s_uk (by decide), s_us]
  have s6 : S1 6 q = i1 := by rw [hS1, s_uk (by decide), s_uk (by decide), s_uk (by decide), s_us]
  have s7 : S1 7 q = i2 := by rw [hS1, s_uk (by decide), s_uk (by decide), s_us]
  have s8 : S1 8 q = 0 := by rw [hS1, s_uk (by decide), s_us]
  have s4 : S1 4 r = f + 1 := by rw [hS1, s_us]
  have so : ∀ k i, ¬ (5 ≤ k ∧ k ≤ 8 ∧ i = q) → ¬ (k = 4 ∧ i = r) → S1 k i = S k i := fun k i h1 h2 => by
    rw [hS1]
    unfold s_up
    rw [if_neg h2, if_neg (by omega), if_neg (by omega), if_neg (by omega), if_neg (by omega)]
  refine ⟨σ1, sg_w τ1 (m + 3) r (nI (f + 1)), ?_, ?_, JJ_add (S' := s_op S1 q 0 j) hok hc hm hr hf4 hf8 ha (fun k i h1 h2 => ?_) ?_ ?_ (fun z k h1 h2 => ?_) hcnt (a8.trans hp.2.2.2.2.2.2) ?_ (fun z i h1 h2 => ?_) sg_wgs ?_⟩
  · unfold fn_X7_field_B115
    rw [a1, Option.bind_some, hcnt, nI_pred]
  · unfold fn_X8_field_B147
    rw [b1, Option.bind_some, if_pos (sg_ibN (show r < 6 by omega) (by decide)), if_pos (sg_ibN (show r < 6 by omega) (by decide)), sg_xN (show r < 2 ^ 31 by omega), hcm, nI_1]
    unfold sg_lt
    simp only []
    rw [if_pos (sg_ibN (show r < 6 by omega) (by decide)), sg_wgs, nI_pred]
  · rw [← hq] at h1
    unfold in_S at h1
    rw [s_op_o (by omega) (by omega) (by omega), so _ _ (by omega) h2]
  · rw [s_op_o (by omega) (by omega) (by omega), s4]
  · rw [← hq]
    unfold ps_fld
    rw [s_op_8, s_op_o (k := 5) (by omega) (by omega) (by omega), s_op_o (k := 6) (by omega) (by omega) (by omega), s_op_o (k := 7) (by omega) (by omega) (by omega), s5, s6, s7]
    refine ⟨ht1, ht9, hi1, hi2, by omega, by omega, fun _ => rfl, fun s hs => ?_⟩
    have : s = 0 := by omega
    subst this
    unfold ps_sub
    rw [s_op_9, s_op_10]
    exact ⟨hj, Nat.zero_le _, fun i hi => absurd hi (Nat.not_lt_zero _)⟩
  · rw [a7 z k (by omega) (by omega) (by omega)]
    exact hp.2.2.2.2.2.1 z k (by omega) h2
  · rw [← hq]
    refine fl_op_C (S := S1) (σ := ρ) s8.symm (by decide) (fun s hs => absurd hs (Nat.not_lt_zero _)) ?_ a2 a3 a4 a5 a6 a7
    unfold rc_fld
    rw [s5, s6, s7, s8]
    exact ⟨hp.2.1, hp.2.2.1, hp.2.2.2.1, hp.1, fun s hs => absurd hs (Nat.not_lt_zero _)⟩
  · rw [← hq] at h1
    unfold in_M at h1
    rw [sg_wg, if_neg h2, b5 _ _ (by omega) (by omega) (by omega), to _ _ (by omega)]
  · rw [← hq]
    refine fl_op_M (S := S1) (τ := sg_w τ0 (m + 3) r (nI (f + 1))) s8.symm (by decide) (fun s hs => absurd hs (Nat.not_lt_zero _)) ?_ (by rw [sg_wga (by omega)]; exact b2) (by rw [sg_wga (by omega)]; exact b3) (by rw [sg_wga (by omega)]; exact b4) (fun z i h1 h2 h3 => ?_)
    · unfold rm_fld
      rw [s5, s6, s7, s8, sg_wga (by omega), sg_wga (by omega), sg_wga (by omega), sg_wga (by omega)]
      exact ⟨t4, t5, t6, t7, fun s hs => absurd hs (Nat.not_lt_zero _)⟩
    · rw [sg_wg, sg_wg]
      split
      · rfl
      · exact b5 z i h1 h2 h3
