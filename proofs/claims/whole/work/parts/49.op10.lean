-- ===== append =====
theorem pl_eq (x : Int32) : fn_X7_isPlain x = fn_X8_isPlain x := by
  unfold fn_X7_isPlain fn_X8_isPlain
  have h : (126 : Int32) < x ↔ (127 : Int32) ≤ x := by
    rw [Int32.lt_iff_toInt_lt, Int32.le_iff_toInt_le]
    have e1 : (126 : Int32).toInt = 126 := by decide
    have e2 : (127 : Int32).toInt = 127 := by decide
    omega
  by_cases h1 : x ≤ 31
  · rw [if_pos h1, if_pos h1]
  · rw [if_neg h1, if_neg h1]
    by_cases h2 : (126 : Int32) < x
    · rw [if_pos h2, if_pos (h.mp h2)]
    · rw [if_neg h2, if_neg (fun q => h2 (h.mpr q))]
theorem pl_val (x : Int32) : fn_X7_isPlain x = some 0 ∨ (fn_X7_isPlain x = some 1 ∧ ∃ j : Nat, 31 < j ∧ j < 127 ∧ x = nI j) := by
  unfold fn_X7_isPlain
  by_cases h1 : x ≤ 31
  · rw [if_pos h1]; exact Or.inl rfl
  · rw [if_neg h1]
    by_cases h2 : (126 : Int32) < x
    · rw [if_pos h2]; exact Or.inl rfl
    · rw [if_neg h2]
      obtain ⟨j, hj, rfl⟩ := nI_of2 (x := x) (M := 126) (n := 126) (by decide) (fun q => h1 (by
        have a := Int32.lt_iff_toInt_lt.mp q
        have e0 : (0 : Int32).toInt = 0 := by decide
        have e1 : (31 : Int32).toInt = 31 := by decide
        exact Int32.le_iff_toInt_le.mpr (by omega))) (Int32.not_lt.mp h2)
      refine Or.inr ⟨rfl, j, ?_, by omega, rfl⟩
      have h3 : ¬ j ≤ 31 := fun q => h1 (nI_le (b := 31) q (by decide))
      omega
/-- a subfield with one more letter -/
def s_ap (S : Sh) (u j : Nat) : Sh := s_up (s_up S 11 (20 * u + S 10 u) j) 10 u (S 10 u + 1)
theorem s_ap_o {S : Sh} {u j k i : Nat} (h1 : ¬ (k = 11 ∧ i = 20 * u + S 10 u)) (h2 : ¬ (k = 10 ∧ i = u)) : s_ap S u j k i = S k i := by
  unfold s_ap s_up
  rw [if_neg h2, if_neg h1]
theorem s_ap_10 {S : Sh} {u j : Nat} : s_ap S u j 10 u = S 10 u + 1 := s_us
theorem s_ap_11 {S : Sh} {u j : Nat} : s_ap S u j 11 (20 * u + S 10 u) = j := by
  unfold s_ap; rw [s_uk (by decide), s_us]
theorem s_ap_c {S : Sh} {u j : Nat} : ps_chars (s_ap S u j) u = ps_chars S u ++ [j] := by
  unfold ps_chars
  rw [s_ap_10, List.range_succ, List.map_append]
  congr 1
  · apply List.map_congr_left
    intro i hi
    have := List.mem_range.mp hi
    exact s_ap_o (by omega) (by omega)
  · show [s_ap S u j 11 (20 * u + S 10 u)] = [j]
    rw [s_ap_11]
theorem ps_chars_len (S : Sh) (u : Nat) : (ps_chars S u).length = S 10 u := by unfold ps_chars; simp
theorem ad_S {b u a j : Nat} {σ : Sg} {S : Sh} (h : rc_sub σ S u a) (hl : S 10 u < 20) (hj : j < 128) (hk : sg_kR b (a + 2) = 20) : ∃ σ', fn_X5_add b σ a (nI j) = some σ' ∧ rc_sub σ' (s_ap S u j) u a ∧ (∀ z k, ¬ (a ≤ z ∧ z < a + 4) → σ'.1 z k = σ.1 z k) ∧ σ'.2 = σ.2 := by
  have hkey : rc_key (sg_w (sg_w σ (a + 1) (S 10 u) (nI j)) a 2 (nI (S 10 u + 1))) (a + 2) (ky_of (ps_chars S u)) := by
    have h4 := h.2.2.2
    unfold rc_key at h4 ⊢
    refine ⟨by rw [sg_wga (by omega), sg_wga (by omega)]; exact h4.1, fun i hi => by rw [sg_wga (by omega), sg_wga (by omega)]; exact h4.2.1 i hi, by rw [sg_wga (by omega), sg_wga (by omega)]; exact h4.2.2⟩
  obtain ⟨σ', a1, a2, a3⟩ := tk (b := b) (c := j) hkey (by rw [hk]; have := ky_len (ps_chars S u); rw [ps_chars_len] at this; omega) hj
  refine ⟨σ', ?_, ?_, fun z k hz => ?_, a3.2⟩
  · unfold fn_X5_add fn_X5_isFull
    rw [h.2.1, if_pos (show nI (S 10 u) < (20 : Int32) from nI_lt (b := 20) hl (by decide)), Option.bind_some, if_pos (show (0 : Int32) = 0 from rfl), if_pos (sg_ibN hl (by decide)), sg_xN (by omega), sg_narN (by omega)]
    unfold sg_lt
    simp only []
    rw [show (sg_w σ (a + 1) (S 10 u) (nI j)).1 a 2 = nI (S 10 u) by rw [sg_wga (by omega)]; exact h.2.1, nI_1, a1]
    rfl
  · unfold rc_sub
    rw [s_ap_10, s_ap_c, ky_snoc, s_ap_o (k := 9) (by omega) (by omega)]
    refine ⟨?_, ?_, fun i hi => ?_, a2⟩
    · rw [a3.1 _ _ (by omega) (by omega), sg_wgk (by decide), sg_wga (by omega)]; exact h.1
    · rw [a3.1 _ _ (by omega) (by omega), sg_wgs]
    · rw [a3.1 _ _ (by omega) (by omega), sg_wga (by omega)]
      by_cases hi2 : i < S 10 u
      · rw [sg_wgk (by omega), s_ap_o (by omega) (by omega)]; exact h.2.2.1 i hi2
      · have : i = S 10 u := by omega
        subst this
        rw [sg_wgs, s_ap_11]
  · rw [a3.1 _ _ (by omega) (by omega), sg_wga (by omega), sg_wga (by omega)]
theorem sy_M {m u n j : Nat} {τ : Sg} (h : τ.1 (m + 9) u = nI n) (hu : u < 192) (hn : n < 20) : ∃ τ', fn_X8_say m τ (nI u) (nI j) = some τ' ∧ τ'.1 (m + 9) u = nI (n + 1) ∧ τ'.1 (m + 10) (20 * u + n) = nI j ∧ ∀ z i, ¬ (z = m + 9 ∧ i = u) → ¬ (z = m + 10 ∧ i = 20 * u + n) → τ'.1 z i = τ.1 z i := by
  refine ⟨sg_w (sg_w τ (m + 10) (20 * u + n) (nI j)) (m + 9) u (nI (n + 1)), ?_, sg_wgs, by rw [sg_wga (by omega), sg_wgs], fun z i h1 h2 => by rw [sg_wg, if_neg h1, sg_wg, if_neg h2]⟩
  unfold fn_X8_say
  rw [if_pos (sg_ibN hu (by decide)), sg_xN (by omega), h, nI_20, if_pos (sg_ibN (show 20 * u + n < 3840 by omega) (by decide)), sg_xN (show 20 * u + n < 2 ^ 31 by omega)]
  unfold sg_lt
  simp only []
  rw [if_pos (sg_ibN hu (by decide)), if_pos (sg_ibN hu (by decide)), show (sg_w τ (m + 10) (20 * u + n) (nI j)).1 (m + 9) u = nI n by rw [sg_wga (by omega)]; exact h, nI_1]
theorem op_append {b m : Nat} {σ τ : Sg} (h : JJ b σ m τ) (x1 : Int32) (x2 : Int32) (x3 : Int32) (x4 : Int32) (hx4 : sg_ic x4) : ∃ (r : Int32) (σ' τ' : Sg), fn_X7_append b σ x1 x2 x3 x4 = some (r, σ') ∧ fn_X8_append m τ x1 x2 x3 x4 = some (r, τ') ∧ JJ b σ' m τ' := by
  have hJ := h
  obtain ⟨S, pl, hok, hc, hm⟩ := h
  have hn : S 2 0 ≤ 6 := hok.2.2.1
  unfold fn_X7_append fn_X8_append
  rcases bad_or x1 (n := S 2 0) (by omega) with hb | ⟨r, hr, rfl⟩
  · rw [hsC_r hc.2.1 hb, hsM_r hm.2.1 hb]; exact ⟨-1, σ, τ, rfl, rfl, hJ⟩
  have hR := hok.2.2.2.1 r hr
  have hC := hc.2.2.1 r hr
  have hM := hm.2.2.1 r hr
  have hf8 := hR.1
  rcases bad_or x2 (n := S 4 r) (by omega) with hb | ⟨f, hf, rfl⟩
  · rw [hsC_f hc.2.1 hn hr hC.1 hb, hsM_f hm.2.1 hn hr hM.1 hb]; exact ⟨-1, σ, τ, rfl, rfl, hJ⟩
  have hF := hR.2.2 f hf
  have hCf := hC.2.2 f hf
  have hMf := hM.2.2 f hf
  have hs4 := hF.2.2.2.2.2.1
  rw [hsC_val hc.2.1 hn hr hC.1 hR.1 hf hCf.2.2.2.1, hsM_val hm.2.1 hn hr hM.1 hR.1 hf hMf.2.2.2.1, Option.bind_some, Option.bind_some]
  rcases bad_or x3 (n := S 8 (8 * r + f)) (by omega) with hb | ⟨s, hs, rfl⟩
  · rw [val_bad hb]; exact ⟨-1, σ, τ, rfl, rfl, hJ⟩
  rw [val_ok hs (by omega), if_neg (show ¬ (1 : Int32) = 0 by decide), if_neg (show ¬ (1 : Int32) = 0 by decide), ← pl_eq]
  rcases pl_val x4 with e | ⟨e, j, hj1, hj2, rfl⟩
  · rw [e]; exact ⟨-1, σ, τ, rfl, rfl, hJ⟩
  rw [e, Option.bind_some, Option.bind_some, if_neg (show ¬ (1 : Int32) = 0 by decide), if_neg (show ¬ (1 : Int32) = 0 by decide), if_pos (sg_ibN (show r < 6 by omega) (by decide)), if_pos (sg_ibN (show f < 8 by omega) (by decide)), if_pos (sg_ibN (show s < 4 by omega) (by decide)), sg_xN (show r < 2 ^ 31 by omega), sg_xN (show f < 2 ^ 31 by omega), sg_xN (show s < 2 ^ 31 by omega), nI_8r, nI_4q]
  unfold sg_lt
  simp only []
  obtain ⟨a, ha⟩ : ∃ z, σ.2 (ad_C b r + 2) f = z := ⟨_, rfl⟩
  rw [show σ.2 (b + 10 + 147 * r + 2) f = a from ha]
  rw [ha] at hCf
  obtain ⟨p, hp8, ep⟩ := (hc.2.2.2.2.2 r (by omega)).1 f (by omega)
  have hap : a = b + 10 + 147 * r + 3 + 18 * p := by rw [← ha, ep]
  have hSs := hF.2.2.2.2.2.2.2 s hs
  have hCs := hCf.2.2.2.2 s hs
  have hMs := hMf.2.2.2.2 s hs
  have h20 := hSs.2.1
  obtain ⟨u, hu⟩ : ∃ z, z = 4 * (8 * r + f) + s := ⟨_, rfl⟩
  rw [← hu] at hSs hCs hMs h20 ⊢
  have hu192 : u < 192 := by omega
  rw [if_pos (sg_ibN hu192 (by decide)), sg_xN (show u < 2 ^ 31 by omega), hMs.2.1]
  have eF : fn_X5_isFull b σ (a + 2 + 4 * s) = some (if nI (S 10 u) < 20 then 0 else 1) := by
    unfold fn_X5_isFull
    rw [hCs.2.1]
    by_cases hq : nI (S 10 u) < (20 : Int32)
    · rw [if_pos hq, if_pos hq]
    · rw [if_neg hq, if_neg hq]
  rw [eF, Option.bind_some]
  by_cases hfull : S 10 u = 20
  · rw [hfull]; exact ⟨-2, σ, τ, rfl, rfl, hJ⟩
  have hlt : S 10 u < 20 := by omega
  rw [if_pos (show nI (S 10 u) < (20 : Int32) from nI_lt (b := 20) hlt (by decide)), if_pos (show (0 : Int32) = 0 from rfl), if_neg (show ¬ nI (S 10 u) = (20 : Int32) from fun q => hfull ((nI_eq (b := 20) (by omega) (by decide)).mp q))]
  obtain ⟨σ', a1, a2, a3, a4⟩ := ad_S (b := b) (j := j) hCs hlt (by omega) (if_neg (by omega))
  obtain ⟨τ', b1, b2, b3, b4⟩ := sy_M (j := j) hMs.2.1 hu192 hlt
  rw [a1, b1, Option.bind_some, Option.bind_some, if_pos (sg_ibN hu192 (by decide)), b2, a2.2.1, s_ap_10]
  have heq : ∀ s', s' ≠ s → s' < 4 → eq_sub S (s_ap S u j) (4 * (8 * r + f) + s') := fun s' h1 h2 => ⟨s_ap_o (by omega) (by omega), s_ap_o (by omega) (by omega), fun i hi => s_ap_o (by omega) (by omega)⟩
  have e5 : s_ap S u j 5 (8 * r + f) = S 5 (8 * r + f) := s_ap_o (by omega) (by omega)
  have e6 : s_ap S u j 6 (8 * r + f) = S 6 (8 * r + f) := s_ap_o (by omega) (by omega)
  have e7 : s_ap S u j 7 (8 * r + f) = S 7 (8 * r + f) := s_ap_o (by omega) (by omega)
  have e8 : s_ap S u j 8 (8 * r + f) = S 8 (8 * r + f) := s_ap_o (by omega) (by omega)
  refine ⟨_, σ', τ', rfl, rfl, JJ_fld (S' := s_ap S u j) hok hc hm hr hf ha (fun k i hk => s_ap_o ?_ ?_) ?_ (fun z k hz => a3 z k (by omega)) a4 ?_ (fun z i hz => b4 z i ?_ ?_) ?_⟩
  · unfold in_S at hk; omega
  · unfold in_S at hk; omega
  · unfold ps_fld
    rw [e5, e6, e7, e8]
    refine ⟨hF.1, hF.2.1, hF.2.2.1, hF.2.2.2.1, hF.2.2.2.2.1, hs4, hF.2.2.2.2.2.2.1, fun s' hs' => ?_⟩
    by_cases hss : s' = s
    · subst hss
      rw [← hu]
      unfold ps_sub
      rw [s_ap_10, s_ap_o (k := 9) (by omega) (by omega)]
      refine ⟨hSs.1, by omega, fun i hi => ?_⟩
      by_cases hi2 : i < S 10 u
      · rw [s_ap_o (by omega) (by omega)]; exact hSs.2.2 i hi2
      · have : i = S 10 u := by omega
        subst this
        rw [s_ap_11]; omega
    · exact ps_sub_g (heq s' hss (by omega)) (hF.2.2.2.2.2.2.2 s' hs')
  · unfold rc_fld
    rw [e5, e6, e7, e8, a3 _ _ (by omega), a3 _ _ (by omega), a3 _ _ (by omega), a3 _ _ (by omega)]
    refine ⟨hCf.1, hCf.2.1, hCf.2.2.1, hCf.2.2.2.1, fun s' hs' => ?_⟩
    by_cases hss : s' = s
    · subst hss; rw [← hu]; exact a2
    · exact rc_sub_g (heq s' hss (by omega)) (hF.2.2.2.2.2.2.2 s' hs').2.1 (fun z k g1 g2 => a3 z k (by omega)) (hCf.2.2.2.2 s' hs')
  · unfold in_M at hz; omega
  · unfold in_M at hz; omega
  · unfold rm_fld
    rw [e5, e6, e7, e8, b4 _ _ (by omega) (by omega), b4 _ _ (by omega) (by omega), b4 _ _ (by omega) (by omega), b4 _ _ (by omega) (by omega)]
    refine ⟨hMf.1, hMf.2.1, hMf.2.2.1, hMf.2.2.2.1, fun s' hs' => ?_⟩
    by_cases hss : s' = s
    · subst hss
      rw [← hu]
      unfold rm_sub
      rw [s_ap_10, s_ap_o (k := 9) (by omega) (by omega), b4 _ _ (by omega) (by omega)]
      refine ⟨hMs.1, b2, fun i hi => ?_⟩
      by_cases hi2 : i < S 10 u
      · rw [b4 _ _ (by omega) (by omega), s_ap_o (by omega) (by omega)]; exact hMs.2.2 i hi2
      · have : i = S 10 u := by omega
        subst this
        rw [s_ap_11]; exact b3
    · exact rm_sub_g (heq s' hss (by omega)) (hF.2.2.2.2.2.2.2 s' hs').2.1 (b4 _ _ (by omega) (by omega)) (b4 _ _ (by omega) (by omega)) (fun i hi => b4 _ _ (by omega) (by omega)) (hMf.2.2.2.2 s' hs')
