-- ===== another text beside the same records =====
theorem rc_rec_f {b : Nat} {σ σ' : Sg} {S S' : Sh} {r : Nat} (hr : r < 6) (hrow : rc_row b σ) (h1 : ∀ a k, b + 10 ≤ a → σ'.1 a k = σ.1 a k) (h2 : σ'.2 = σ.2) (hS : ∀ k, 3 ≤ k → k ≤ 11 → S' k = S k) (h48 : S 4 r ≤ 8) (h : rc_rec b σ S r) : rc_rec b σ' S' r := by
  have e3 := hS 3 (by omega) (by omega)
  have e4 := hS 4 (by omega) (by omega)
  have e5 := hS 5 (by omega) (by omega)
  have e6 := hS 6 (by omega) (by omega)
  have e7 := hS 7 (by omega) (by omega)
  have e8 := hS 8 (by omega) (by omega)
  have e9 := hS 9 (by omega) (by omega)
  have e10 := hS 10 (by omega) (by omega)
  have e11 := hS 11 (by omega) (by omega)
  unfold rc_rec at h ⊢
  rw [e3, e4, h2]
  refine ⟨by rw [h1 _ _ (by show b + 10 ≤ b + 10 + 147 * r; omega)]; exact h.1, fun i hi => by rw [h1 _ _ (by show b + 10 ≤ b + 10 + 147 * r + 1; omega)]; exact h.2.1 i hi, fun f hf => ?_⟩
  have hF := h.2.2 f hf
  obtain ⟨p, hp, ep⟩ := (hrow r hr).1 f (by omega)
  have hge : b + 10 ≤ σ.2 (ad_C b r + 2) f := by rw [ep]; show b + 10 ≤ b + 10 + 147 * r + 3 + 18 * p; omega
  generalize σ.2 (ad_C b r + 2) f = a at hF hge
  unfold rc_fld at hF ⊢
  rw [e5, e6, e7, e8, h1 a 1 hge, h1 a 2 hge, h1 a 3 hge, h1 a 4 hge]
  refine ⟨hF.1, hF.2.1, hF.2.2.1, hF.2.2.2.1, fun s hs => ?_⟩
  have hs2 := hF.2.2.2.2 s hs
  unfold rc_sub rc_key ps_chars at hs2 ⊢
  rw [e9, e10, e11, h1 (a + 2 + 4 * s) 3 (by omega), h1 (a + 2 + 4 * s) 2 (by omega), h1 (a + 2 + 4 * s + 2) 1 (by omega), h1 (a + 2 + 4 * s + 2) 2 (by omega)]
  refine ⟨hs2.1, hs2.2.1, fun i hi => by rw [h1 _ _ (by omega)]; exact hs2.2.2.1 i hi, hs2.2.2.2.1, fun i hi => by rw [h1 _ _ (by omega)]; exact hs2.2.2.2.2.1 i hi, hs2.2.2.2.2.2⟩
theorem rm_rec_f {m : Nat} {τ τ' : Sg} {S S' : Sh} {r : Nat} (h1 : ∀ a k, m + 2 ≤ a → a ≤ m + 10 → τ'.1 a k = τ.1 a k) (hS : ∀ k, 3 ≤ k → k ≤ 11 → S' k = S k) (h : rm_rec m τ S r) : rm_rec m τ' S' r := by
  have e3 := hS 3 (by omega) (by omega)
  have e4 := hS 4 (by omega) (by omega)
  have e5 := hS 5 (by omega) (by omega)
  have e6 := hS 6 (by omega) (by omega)
  have e7 := hS 7 (by omega) (by omega)
  have e8 := hS 8 (by omega) (by omega)
  have e9 := hS 9 (by omega) (by omega)
  have e10 := hS 10 (by omega) (by omega)
  have e11 := hS 11 (by omega) (by omega)
  unfold rm_rec at h ⊢
  rw [e3, e4, h1 _ _ (by omega) (by omega)]
  refine ⟨h.1, fun i hi => by rw [h1 _ _ (by omega) (by omega)]; exact h.2.1 i hi, fun f hf => ?_⟩
  have hF := h.2.2 f hf
  unfold rm_fld at hF ⊢
  rw [e5, e6, e7, e8, h1 _ _ (by omega) (by omega), h1 _ _ (by omega) (by omega), h1 _ _ (by omega) (by omega), h1 _ _ (by omega) (by omega)]
  refine ⟨hF.1, hF.2.1, hF.2.2.1, hF.2.2.2.1, fun s hs => ?_⟩
  have hs2 := hF.2.2.2.2 s hs
  unfold rm_sub at hs2 ⊢
  rw [e9, e10, e11, h1 _ _ (by omega) (by omega), h1 _ _ (by omega) (by omega)]
  exact ⟨hs2.1, hs2.2.1, fun i hi => by rw [h1 _ _ (by omega) (by omega)]; exact hs2.2.2 i hi⟩
theorem ps_rec_f {S S' : Sh} {r : Nat} (hS : ∀ k, 3 ≤ k → k ≤ 11 → S' k = S k) (h : ps_rec S r) : ps_rec S' r := by
  have e3 := hS 3 (by omega) (by omega)
  have e4 := hS 4 (by omega) (by omega)
  have e5 := hS 5 (by omega) (by omega)
  have e6 := hS 6 (by omega) (by omega)
  have e7 := hS 7 (by omega) (by omega)
  have e8 := hS 8 (by omega) (by omega)
  have e9 := hS 9 (by omega) (by omega)
  have e10 := hS 10 (by omega) (by omega)
  have e11 := hS 11 (by omega) (by omega)
  unfold ps_rec ps_fld ps_sub at h ⊢
  rw [e3, e4, e5, e6, e7, e8, e9, e10, e11]
  exact h
/-- the text alone is another one -/
theorem JJ_txt {b m : Nat} {σ σ' τ τ' : Sg} {S : Sh} {pl : Int32} (hok : ps_ok S) (hc : rc_all b σ S pl) (hm : rm_all m τ S pl) {L : List Nat} (hL : L.length ≤ 600) (h128 : ∀ i, i < L.length → L.getD i 0 < 128) (h1 : tC b σ' L) (h2 : fC b σ σ') (h3 : tM m τ' L) (h4 : fM m τ τ') : JJ b σ' m τ' := by
  have hS : ∀ k, 3 ≤ k → k ≤ 11 → (fun k => if k = 0 then (fun _ => L.length) else if k = 1 then (fun i => L.getD i 0) else S k : Sh) k = S k := fun k ha hb => by
    show (if k = 0 then _ else if k = 1 then _ else S k) = S k
    rw [if_neg (by omega), if_neg (by omega)]
  have hn := hok.2.2.1
  refine ⟨fun k => if k = 0 then (fun _ => L.length) else if k = 1 then (fun i => L.getD i 0) else S k, pl, ⟨hL, h128, hn, fun r hr => ps_rec_f hS (hok.2.2.2.1 r hr), hok.2.2.2.2⟩, ⟨h1, ?_, fun r hr => ?_, ⟨?_, fun k hk => ?_⟩, ?_, ?_⟩, ⟨h3, ?_, fun r hr => ?_, ⟨?_, fun k hk => ?_⟩, ?_⟩⟩
  · rw [h2.1 _ _ (by omega) (by omega)]; exact hc.2.1
  · have hr2 : r < S 2 0 := hr
    exact rc_rec_f (σ := σ) (S := S) (by omega) hc.2.2.2.2.2 (fun a k ha => h2.1 a k (by omega) (by omega)) h2.2 hS (hok.2.2.2.1 r hr).1 (hc.2.2.1 r hr)
  · rw [h2.1 _ _ (by omega) (by omega)]; exact hc.2.2.2.1.1
  · rw [h2.1 _ _ (by omega) (by omega)]; exact hc.2.2.2.1.2 k hk
  · rw [h2.1 _ _ (by omega) (by omega)]; exact hc.2.2.2.2.1
  · unfold rc_row; rw [h2.2]; exact hc.2.2.2.2.2
  · rw [h4 _ _ (by omega) (by omega)]; exact hm.2.1
  · exact rm_rec_f (τ := τ) (S := S) (fun a k ha hb => h4 a k (by omega) (by omega)) hS (hm.2.2.1 r hr)
  · rw [h4 _ _ (by omega) (by omega)]; exact hm.2.2.2.1.1
  · rw [h4 _ _ (by omega) (by omega)]; exact hm.2.2.2.1.2 k hk
  · rw [h4 _ _ (by omega) (by omega)]; exact hm.2.2.2.2
theorem ps_text_len (S : Sh) : (ps_text S).length = S 0 0 := by simp [ps_text]
theorem ps_text_get {S : Sh} {i : Nat} (h : i < S 0 0) : (ps_text S).getD i 0 = S 1 i := by
  unfold ps_text
  rw [List.getD_eq_getElem?_getD, List.getElem?_map, List.getElem?_range h]
  rfl
theorem tC_of {b : Nat} {σ : Sg} {S : Sh} (h : rc_txt b σ S) : tC b σ (ps_text S) := ⟨by rw [ps_text_len]; exact h.1, fun i hi => by rw [ps_text_len] at hi; rw [ps_text_get hi]; exact h.2 i hi⟩
theorem tM_of {m : Nat} {τ : Sg} {S : Sh} (h : rm_txt m τ S) : tM m τ (ps_text S) := ⟨by rw [ps_text_len]; exact h.1, fun i hi => by rw [ps_text_len] at hi; rw [ps_text_get hi]; exact h.2 i hi⟩
theorem op_cut {b m : Nat} {σ τ : Sg} (h : JJ b σ m τ) (x1 : Int32)  : ∃ (r : Int32) (σ' τ' : Sg), fn_X7_cut b σ x1 = some (r, σ') ∧ fn_X8_cut m τ x1 = some (r, τ') ∧ JJ b σ' m τ' := by
  obtain ⟨S, pl, hok, hc, hm⟩ := h
  have hn := hok.1
  have key : ∃ k : Nat, k ≤ S 0 0 ∧ (if 0 < (if (nI (S 0 0)) < x1 then (nI (S 0 0)) else x1) then (if (nI (S 0 0)) < x1 then (nI (S 0 0)) else x1) else 0) = nI k ∧ (if (0 : Int32) ≤ x1 then (if (nI (S 0 0)) ≤ x1 then nI (S 0 0) else x1) else 0) = nI k := by
    rcases sg_ix3 x1 (n := S 0 0) (by omega) with h0 | h0 | ⟨j, hj, rfl⟩
    · have h1 : ¬ nI (S 0 0) < x1 := fun q => by
        have := Int32.lt_iff_toInt_lt.mp q
        have h3 := Int32.lt_iff_toInt_lt.mp h0
        rw [nI_toInt (by omega)] at this
        have h5 : (0 : Int32).toInt = 0 := by decide
        omega
      have h2 : ¬ (0 : Int32) < x1 := fun q => by
        have := Int32.lt_iff_toInt_lt.mp q
        have h3 := Int32.lt_iff_toInt_lt.mp h0
        omega
      have h3 : ¬ (0 : Int32) ≤ x1 := Int32.not_le.mpr h0
      exact ⟨0, Nat.zero_le _, by rw [if_neg h1, if_neg h2]; rfl, by rw [if_neg h3]; rfl⟩
    · have h5 : (0 : Int32).toInt = 0 := by decide
      have h1 := Int32.le_iff_toInt_le.mp h0
      rw [nI_toInt (by omega)] at h1
      have h3 : (0 : Int32) ≤ x1 := Int32.le_iff_toInt_le.mpr (by omega)
      refine ⟨S 0 0, Nat.le_refl _, ?_, by rw [if_pos h3, if_pos h0]⟩
      have hin : (if nI (S 0 0) < x1 then nI (S 0 0) else x1) = nI (S 0 0) := by
        by_cases hq : nI (S 0 0) < x1
        · rw [if_pos hq]
        · rw [if_neg hq]; exact (Int32.le_antisymm h0 (Int32.not_lt.mp hq)).symm
      rw [hin]
      by_cases hz : S 0 0 = 0
      · rw [hz]; rfl
      · rw [if_pos (show (0 : Int32) < nI (S 0 0) from nI_lt (a := 0) (by omega) (by omega))]
    · have a2 : ¬ nI (S 0 0) ≤ nI j := nI_ge hj (by omega)
      have a3 : ¬ nI (S 0 0) < nI j := nI_nlt (by omega) (by omega)
      refine ⟨j, by omega, ?_, by rw [if_pos (nI_pos' (by omega)), if_neg a2]⟩
      rw [if_neg a3]
      by_cases hz : j = 0
      · subst hz; rfl
      · rw [if_pos (show (0 : Int32) < nI j from nI_lt (a := 0) (by omega) (by omega))]
  obtain ⟨k, hk, e1, e2⟩ := key
  refine ⟨nI k, sg_w σ (b + 2) 1 (nI k), sg_w τ m 1 (nI k), ?_, ?_, ?_⟩
  · unfold fn_X7_cut fn_X6_keep
    rw [hc.1.1, e1]
    unfold sg_lt
    simp only [Option.bind_some]
    rw [sg_wgs]
  · have : fn_X8_cut m τ x1 = fn_X8_cut_B25 m τ (if (0 : Int32) ≤ x1 then (if nI (S 0 0) ≤ x1 then nI (S 0 0) else x1) else 0) := by
      unfold fn_X8_cut
      rw [hm.1.1]
      by_cases h0 : (0 : Int32) ≤ x1
      · rw [if_pos h0, if_pos h0]
        by_cases h1 : nI (S 0 0) ≤ x1
        · rw [if_pos h1, if_pos h1]
        · rw [if_neg h1, if_neg h1]
      · rw [if_neg h0, if_neg h0]
    rw [this, e2]
    unfold fn_X8_cut_B25 sg_lt
    simp only []
    rw [sg_wgs]
  · have hl : ((ps_text S).take k).length = k := by rw [List.length_take, ps_text_len]; omega
    have hg : ∀ i, i < k → ((ps_text S).take k).getD i 0 = S 1 i := fun i hi => by
      rw [List.getD_eq_getElem?_getD, List.getElem?_take_of_lt hi, ← List.getD_eq_getElem?_getD]
      exact ps_text_get (by omega)
    refine JJ_txt hok hc hm (L := (ps_text S).take k) (by omega) (fun i hi => ?_) ⟨by rw [sg_wgs, hl], fun i hi => ?_⟩ ⟨fun a k h1 h2 => sg_wga h1, rfl⟩ ⟨by rw [sg_wgs, hl], fun i hi => ?_⟩ (fun a k h1 h2 => by rw [sg_wg, if_neg h1])
    · rw [hl] at hi
      rw [hg i hi]; exact hok.2.1 i (by omega)
    · rw [hl] at hi
      rw [sg_wga (by omega), hg i hi]; exact hc.1.2 i (by omega)
    · rw [hl] at hi
      rw [sg_wga (by omega), hg i hi]; exact hm.1.2 i (by omega)
