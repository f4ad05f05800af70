def nm_n (j : Nat) : Nat := sg_x (sg_nam j)
theorem nm_nI : ∀ j, j < 8 → sg_nam j = nI (nm_n j) ∧ nm_n j < 128 := by decide
/-- a shelf with one more record, without fields -/
def s_fr (S : Sh) : Sh := fun k i => if k = 2 then (if i = 0 then S 2 0 + 1 else S 2 i) else if k = 3 ∧ 8 * S 2 0 ≤ i then nm_n (i - 8 * S 2 0) else if k = 4 ∧ i = S 2 0 then 0 else S k i
theorem s_fr_2 {S : Sh} : s_fr S 2 0 = S 2 0 + 1 := by unfold s_fr; rw [if_pos rfl, if_pos rfl]
theorem s_fr_o {S : Sh} {k i : Nat} (h : k ≠ 2) (h3 : ¬ (k = 3 ∧ 8 * S 2 0 ≤ i)) (h4 : ¬ (k = 4 ∧ i = S 2 0)) : s_fr S k i = S k i := by unfold s_fr; rw [if_neg h, if_neg h3, if_neg h4]
theorem s_fr_3 {S : Sh} {i : Nat} : s_fr S 3 (8 * S 2 0 + i) = nm_n i := by
  unfold s_fr
  rw [if_neg (by decide), if_pos ⟨rfl, Nat.le_add_right _ _⟩, Nat.add_sub_cancel_left]
theorem s_fr_4 {S : Sh} : s_fr S 4 (S 2 0) = 0 := by
  unfold s_fr
  rw [if_neg (by decide), if_neg (fun q => absurd q.1 (by decide)), if_pos ⟨rfl, rfl⟩]
theorem s_fr_eq {S : Sh} {r : Nat} (hr : r < S 2 0) : eq_rec S (s_fr S) r := by
  refine ⟨s_fr_o (by decide) (fun q => absurd q.1 (by decide)) (fun q => by have := q.2; omega), fun i hi => s_fr_o (by decide) (fun q => by have := q.2; omega) (fun q => absurd q.1 (by decide)), fun f hf => ⟨?_, ?_, ?_, ?_, fun s hs => ⟨?_, ?_, fun i hi => ?_⟩⟩⟩
  all_goals exact s_fr_o (by decide) (fun q => absurd q.1 (by decide)) (fun q => absurd q.1 (by decide))
theorem op_fresh {b m : Nat} {σ τ : Sg} (h : JJ b σ m τ)   : ∃ (r : Int32) (σ' τ' : Sg), fn_X7_fresh b σ = some (r, σ') ∧ fn_X8_fresh m τ = some (r, τ') ∧ JJ b σ' m τ' := by
  have hJ := h
  obtain ⟨S, pl, hok, hc, hm⟩ := h
  have hn := hok.2.2.1
  unfold fn_X7_fresh fn_X8_fresh
  rw [hc.2.1, hm.2.1]
  by_cases h6 : S 2 0 = 6
  · rw [h6]; exact ⟨-2, σ, τ, rfl, rfl, hJ⟩
  have hR : S 2 0 < 6 := by omega
  rw [if_pos (show nI (S 2 0) < (6 : Int32) from nI_lt (b := 6) hR (by decide)), if_pos (sg_ibN hR (by decide)), sg_xN (by omega), if_neg (show ¬ nI (S 2 0) = (6 : Int32) from fun q => h6 ((nI_eq (b := 6) (by omega) (by decide)).mp q))]
  obtain ⟨σ1, a1, a2, a3, a4⟩ := fr_C (b := b) (c := ad_C b (S 2 0)) 8 0 sg_N (sg_w σ (ad_C b (S 2 0)) 2 0) (by omega) (by decide)
  obtain ⟨τ1, b1, b2, b3, b4, b5⟩ := fr_M (m := m) hR 8 0 sg_N τ (by omega) (by decide) hm.2.1
  have hbC : fn_X0_begin b σ (b + 10 + 147 * S 2 0) = some σ1 := by
    unfold fn_X0_begin sg_lt
    exact a1
  have hcnt : σ1.1 b 5 = nI (S 2 0) := by
    rw [a3 _ _ (by show ¬ (b = b + 10 + 147 * S 2 0 + 1 ∧ _); omega), sg_wga (by show b ≠ b + 10 + 147 * S 2 0; omega)]; exact hc.2.1
  have hfr : ∀ z k, z < ad_C b (S 2 0) → σ1.1 z k = σ.1 z k := fun z k hz => by
    rw [a3 _ _ (by omega), sg_wga (by omega)]
  refine ⟨nI (S 2 0), sg_w σ1 b 5 (nI (S 2 0 + 1)), τ1, ?_, b1, s_fr S, pl, ⟨hok.1, hok.2.1, ?_, fun r hr => ?_, hok.2.2.2.2.1, hok.2.2.2.2.2⟩, ⟨⟨?_, fun i hi => ?_⟩, ?_, fun r hr => ?_, ⟨?_, fun i hi => ?_⟩, ?_, ?_⟩, ⟨⟨?_, fun i hi => ?_⟩, ?_, fun r hr => ?_, ⟨?_, fun i hi => ?_⟩, ?_⟩⟩
  · rw [hbC]
    simp only [Option.bind_some]
    unfold sg_lt
    simp only []
    rw [hcnt, nI_1, sg_wgs, nI_pred]
  · rw [s_fr_2]; omega
  · rw [s_fr_2] at hr
    by_cases hrr : r < S 2 0
    · exact ps_rec_g (s_fr_eq hrr) (hok.2.2.2.1 r hrr)
    · have : r = S 2 0 := by omega
      subst this
      unfold ps_rec
      rw [s_fr_4]
      exact ⟨Nat.zero_le _, fun i hi => by rw [s_fr_3]; exact (nm_nI i hi).2, fun f hf => absurd hf (Nat.not_lt_zero _)⟩
  · rw [sg_wga (by omega), hfr _ _ (by show b + 2 < b + 10 + 147 * S 2 0; omega)]; exact hc.1.1
  · rw [sg_wga (by omega), hfr _ _ (by show b + 3 < b + 10 + 147 * S 2 0; omega)]; exact hc.1.2 i hi
  · rw [sg_wgs, s_fr_2]
  · rw [s_fr_2] at hr
    by_cases hrr : r < S 2 0
    · refine rc_rec_g (σ := σ) (S := S) (by omega) hc.2.2.2.2.2 (s_fr_eq hrr) (hok.2.2.2.1 r hrr) (fun z k h1 h2 => ?_) (fun f hf => ?_) (hc.2.2.1 r hrr)
      · rw [sg_wga (by have : b + 10 ≤ ad_C b r := by show b + 10 ≤ b + 10 + 147 * r; omega
                       omega)]
        exact hfr z k (by have : ad_C b r + 147 ≤ ad_C b (S 2 0) := by show b + 10 + 147 * r + 147 ≤ b + 10 + 147 * S 2 0; omega
                          omega)
      · show σ1.2 _ f = _
        rw [a4]; rfl
    · have : r = S 2 0 := by omega
      subst this
      unfold rc_rec
      rw [s_fr_4]
      refine ⟨?_, fun i hi => ?_, fun f hf => absurd hf (Nat.not_lt_zero _)⟩
      · rw [sg_wga (by show b + 10 + 147 * S 2 0 ≠ b; omega), a3 _ _ (by omega), sg_wgs]; rfl
      · rw [sg_wga (by show b + 10 + 147 * S 2 0 + 1 ≠ b; omega), a2 i (Nat.zero_le _) hi, s_fr_3]; exact (nm_nI i hi).1
  · rw [sg_wga (by omega), hfr _ _ (by show b + 6 < b + 10 + 147 * S 2 0; omega)]; exact hc.2.2.2.1.1
  · rw [sg_wga (by omega), hfr _ _ (by show b + 7 < b + 10 + 147 * S 2 0; omega)]; exact hc.2.2.2.1.2 i hi
  · rw [sg_wga (by omega), hfr _ _ (by show b + 1 < b + 10 + 147 * S 2 0; omega)]; exact hc.2.2.2.2.1
  · unfold rc_row
    rw [show (sg_w σ1 b 5 (nI (S 2 0 + 1))).2 = σ.2 from a4]
    exact hc.2.2.2.2.2
  · rw [b3 _ _ (by omega) (by omega) (by omega)]; exact hm.1.1
  · rw [b3 _ _ (by omega) (by omega) (by omega)]; exact hm.1.2 i hi
  · rw [b4, s_fr_2]
  · rw [s_fr_2] at hr
    by_cases hrr : r < S 2 0
    · exact rm_rec_g (τ := τ) (S := S) (s_fr_eq hrr) (hok.2.2.2.1 r hrr) (b3 _ _ (by omega) (by omega) (by omega)) (fun i hi => b3 _ _ (by omega) (by omega) (by omega)) (fun z f h1 h2 h3 => b3 _ _ (by omega) (by omega) (by omega)) (fun z s h1 h2 => b3 _ _ (by omega) (by omega) (by omega)) (fun i hi => b3 _ _ (by omega) (by omega) (by omega)) (hm.2.2.1 r hrr)
    · have : r = S 2 0 := by omega
      subst this
      unfold rm_rec
      rw [s_fr_4]
      exact ⟨b5, fun i hi => by rw [b2 i (Nat.zero_le _) hi, s_fr_3]; exact (nm_nI i hi).1, fun f hf => absurd hf (Nat.not_lt_zero _)⟩
  · rw [b3 _ _ (by omega) (by omega) (by omega)]; exact hm.2.2.2.1.1
  · rw [b3 _ _ (by omega) (by omega) (by omega)]; exact hm.2.2.2.1.2 i hi
  · rw [b3 _ _ (by omega) (by omega) (by omega)]; exact hm.2.2.2.2
