theorem as_C {b a c j : Nat} {σ : Sg} (h : σ.1 a 1 = nI c) (hc : c < 4) (hj : j < 65536) : ∃ σ', fn_X1_addSubfield b σ a (nI j) = some σ' ∧ σ'.1 a 1 = nI (c + 1) ∧ σ'.1 (a + 2 + 4 * c) 3 = nI j ∧ σ'.1 (a + 2 + 4 * c) 2 = nI 0 ∧ σ'.1 (a + 2 + 4 * c + 2) 1 = nI 0 ∧ σ'.1 (a + 2 + 4 * c + 2) 2 = 0 ∧ (∀ z k, ¬ (z = a ∧ k = 1) → z ≠ a + 2 + 4 * c → z ≠ a + 2 + 4 * c + 2 → σ'.1 z k = σ.1 z k) ∧ σ'.2 = σ.2 := by
  refine ⟨sg_w (sg_w (sg_w (sg_w (sg_w σ (a + 2 + 4 * c) 3 (nI j)) (a + 2 + 4 * c) 2 0) (a + 2 + 4 * c + 2) 1 0) (a + 2 + 4 * c + 2) 2 0) a 1 (nI (c + 1)), ?_, sg_wgs, ?_, ?_, ?_, ?_, fun z k h1 h2 h3 => ?_, rfl⟩
  · unfold fn_X1_addSubfield fn_X1_isFull
    rw [h, if_pos (show nI c < (4 : Int32) from nI_lt (b := 4) hc (by decide))]
    simp only [Option.bind_some]
    rw [if_pos trivial, if_pos (sg_ibN hc (by decide)), sg_xN (by omega)]
    unfold fn_X5_begin fn_X3_clear
    rw [if_pos (show sg_ic (nI j) from sg_icN hj)]
    unfold sg_lt
    simp only [Option.bind_some]
    rw [show (sg_w (sg_w (sg_w (sg_w σ (a + 2 + 4 * c) 3 (nI j)) (a + 2 + 4 * c) 2 0) (a + 2 + 4 * c + 2) 1 0) (a + 2 + 4 * c + 2) 2 0).1 a 1 = nI c by
      rw [sg_wga (by omega), sg_wga (by omega), sg_wga (by omega), sg_wga (by omega)]; exact h, nI_1]
  · rw [sg_wga (by omega), sg_wga (by omega), sg_wga (by omega), sg_wgk (by decide), sg_wgs]
  · rw [sg_wga (by omega), sg_wga (by omega), sg_wga (by omega), sg_wgs]; rfl
  · rw [sg_wga (by omega), sg_wgk (by decide), sg_wgs]; rfl
  · rw [sg_wga (by omega), sg_wgs]
  · rw [sg_wg, if_neg h1, sg_wga h3, sg_wga h3, sg_wga h2, sg_wga h2]
theorem op_M {m q c : Nat} {v : Int32} {τ : Sg} (h : τ.1 (m + 7) q = nI c) (hq : q < 48) (hc : c < 4) : ∃ τ', fn_X8_open m τ (nI q) v = some τ' ∧ τ'.1 (m + 7) q = nI (c + 1) ∧ τ'.1 (m + 8) (4 * q + c) = v ∧ τ'.1 (m + 9) (4 * q + c) = nI 0 ∧ (∀ z i, ¬ (z = m + 7 ∧ i = q) → ¬ (z = m + 8 ∧ i = 4 * q + c) → ¬ (z = m + 9 ∧ i = 4 * q + c) → τ'.1 z i = τ.1 z i) := by
  refine ⟨sg_w (sg_w (sg_w τ (m + 8) (4 * q + c) v) (m + 9) (4 * q + c) 0) (m + 7) q (nI (c + 1)), ?_, sg_wgs, ?_, ?_, fun z i h1 h2 h3 => ?_⟩
  · unfold fn_X8_open
    rw [if_pos (sg_ibN hq (by decide)), sg_xN (by omega), h, nI_4q]
    unfold sg_lt
    simp only []
    rw [if_pos (sg_ibN (show 4 * q + c < 192 by omega) (by decide)), sg_xN (by omega), if_pos (sg_ibN (show 4 * q + c < 192 by omega) (by decide)), if_pos (sg_ibN hq (by decide)), if_pos (sg_ibN hq (by decide)), show (sg_w (sg_w τ (m + 8) (4 * q + c) v) (m + 9) (4 * q + c) 0).1 (m + 7) q = nI c by
      rw [sg_wga (by omega), sg_wga (by omega)]; exact h, nI_1]
  · rw [sg_wga (by omega), sg_wga (by omega), sg_wgs]
  · rw [sg_wga (by omega), sg_wgs]; rfl
  · rw [sg_wg, if_neg h1, sg_wg, if_neg h3, sg_wg, if_neg h2]
/-- a field with one more subfield, empty -/
def s_op (S : Sh) (q c j : Nat) : Sh := s_up (s_up (s_up S 8 q (c + 1)) 9 (4 * q + c) j) 10 (4 * q + c) 0
theorem s_op_o {S : Sh} {q c j k i : Nat} (h1 : ¬ (k = 8 ∧ i = q)) (h2 : ¬ (k = 9 ∧ i = 4 * q + c)) (h3 : ¬ (k = 10 ∧ i = 4 * q + c)) : s_op S q c j k i = S k i := by
  unfold s_op s_up
  rw [if_neg h3, if_neg h2, if_neg h1]
theorem s_op_8 {S : Sh} {q c j : Nat} : s_op S q c j 8 q = c + 1 := by
  unfold s_op; rw [s_uk (by decide), s_uk (by decide), s_us]
theorem s_op_9 {S : Sh} {q c j : Nat} : s_op S q c j 9 (4 * q + c) = j := by
  unfold s_op; rw [s_uk (by decide), s_us]
theorem s_op_10 {S : Sh} {q c j : Nat} : s_op S q c j 10 (4 * q + c) = 0 := by
  unfold s_op; rw [s_us]
theorem s_op_eq {S : Sh} {q c j s : Nat} (h : s ≠ c) : eq_sub S (s_op S q c j) (4 * q + s) :=
  ⟨s_op_o (by omega) (by omega) (by omega), s_op_o (by omega) (by omega) (by omega), fun i hi => s_op_o (by omega) (by omega) (by omega)⟩
theorem s_op_new {S : Sh} {q c j : Nat} : ps_chars (s_op S q c j) (4 * q + c) = [] := by
  unfold ps_chars; rw [s_op_10]; rfl
/-- what opening a subfield makes of a field, on both sides -/
theorem fl_op_C {S : Sh} {σ σ' : Sg} {q c j a : Nat} (hc : c = S 8 q) (hc4 : c < 4) (h20 : ∀ s, s < c → S 10 (4 * q + s) ≤ 20) (h : rc_fld σ S q a) (b1 : σ'.1 a 1 = nI (c + 1)) (b2 : σ'.1 (a + 2 + 4 * c) 3 = nI j) (b3 : σ'.1 (a + 2 + 4 * c) 2 = nI 0) (b4 : σ'.1 (a + 2 + 4 * c + 2) 1 = nI 0) (b5 : σ'.1 (a + 2 + 4 * c + 2) 2 = 0) (b6 : ∀ z k, ¬ (z = a ∧ k = 1) → z ≠ a + 2 + 4 * c → z ≠ a + 2 + 4 * c + 2 → σ'.1 z k = σ.1 z k) : rc_fld σ' (s_op S q c j) q a := by
  unfold rc_fld at h ⊢
  rw [s_op_8, s_op_o (k := 5) (by omega) (by omega) (by omega), s_op_o (k := 6) (by omega) (by omega) (by omega), s_op_o (k := 7) (by omega) (by omega) (by omega)]
  refine ⟨by rw [b6 _ _ (by omega) (by omega) (by omega)]; exact h.1, by rw [b6 _ _ (by omega) (by omega) (by omega)]; exact h.2.1, by rw [b6 _ _ (by omega) (by omega) (by omega)]; exact h.2.2.1, b1, fun s hs => ?_⟩
  by_cases hsc : s = c
  · subst hsc
    unfold rc_sub rc_key
    rw [s_op_9, s_op_10, s_op_new]
    exact ⟨b2, b3, fun i hi => absurd hi (Nat.not_lt_zero _), b4, fun i hi => absurd hi (Nat.not_lt_zero _), b5⟩
  · exact rc_sub_g (s_op_eq hsc) (h20 s (by omega)) (fun z k g1 g2 => b6 z k (by omega) (by omega) (by omega)) (h.2.2.2.2 s (by omega))
theorem fl_op_M {S : Sh} {m : Nat} {τ τ' : Sg} {q c j : Nat} (hc : c = S 8 q) (hc4 : c < 4) (h20 : ∀ s, s < c → S 10 (4 * q + s) ≤ 20) (h : rm_fld m τ S q) (b1 : τ'.1 (m + 7) q = nI (c + 1)) (b2 : τ'.1 (m + 8) (4 * q + c) = nI j) (b3 : τ'.1 (m + 9) (4 * q + c) = nI 0) (b6 : ∀ z i, ¬ (z = m + 7 ∧ i = q) → ¬ (z = m + 8 ∧ i = 4 * q + c) → ¬ (z = m + 9 ∧ i = 4 * q + c) → τ'.1 z i = τ.1 z i) : rm_fld m τ' (s_op S q c j) q := by
  unfold rm_fld at h ⊢
  rw [s_op_8, s_op_o (k := 5) (by omega) (by omega) (by omega), s_op_o (k := 6) (by omega) (by omega) (by omega), s_op_o (k := 7) (by omega) (by omega) (by omega)]
  refine ⟨by rw [b6 _ _ (by omega) (by omega) (by omega)]; exact h.1, by rw [b6 _ _ (by omega) (by omega) (by omega)]; exact h.2.1, by rw [b6 _ _ (by omega) (by omega) (by omega)]; exact h.2.2.1, b1, fun s hs => ?_⟩
  by_cases hsc : s = c
  · subst hsc
    unfold rm_sub
    rw [s_op_9, s_op_10]
    exact ⟨b2, b3, fun i hi => absurd hi (Nat.not_lt_zero _)⟩
  · exact rm_sub_g (s_op_eq hsc) (h20 s (by omega)) (b6 _ _ (by omega) (by omega) (by omega)) (b6 _ _ (by omega) (by omega) (by omega)) (fun i hi => b6 _ _ (by omega) (by omega) (by omega)) (h.2.2.2.2 s (by omega))
theorem op_subfield {b m : Nat} {σ τ : Sg} (h : JJ b σ m τ) (x1 : Int32) (x2 : Int32) (x3 : Int32) (hx3 : sg_ic x3) : ∃ (r : Int32) (σ' τ' : Sg), fn_X7_subfield b σ x1 x2 x3 = some (r, σ') ∧ fn_X8_subfield m τ x1 x2 x3 = some (r, τ') ∧ JJ b σ' m τ' := by
  have hJ := h
  obtain ⟨S, pl, hok, hc, hm⟩ := h
  have hn : S 2 0 ≤ 6 := hok.2.2.1
  unfold fn_X7_subfield fn_X8_subfield
  rcases bad_or x1 (n := S 2 0) (by omega) with hb | ⟨r, hr, rfl⟩
  · rw [hfC_r hc.2.1 hb, hfM_r hm.2.1 hb]; exact ⟨-1, σ, τ, rfl, rfl, hJ⟩
  have hR := hok.2.2.2.1 r hr
  have hC := hc.2.2.1 r hr
  have hM := hm.2.2.1 r hr
  have hf8 := hR.1
  rcases bad_or x2 (n := S 4 r) (by omega) with hb | ⟨f, hf, rfl⟩
  · rw [hfC_bad hc.2.1 hn hr hC.1 hb, hfM_bad hm.2.1 hn hr hM.1 hb]; exact ⟨-1, σ, τ, rfl, rfl, hJ⟩
  have hF := hR.2.2 f hf
  have hCf := hC.2.2 f hf
  have hMf := hM.2.2 f hf
  have hs4 := hF.2.2.2.2.2.1
  have ht := hF.2.1
  rw [hfC_ok hc.2.1 hn hr hC.1 hR.1 hf, hfM_ok hm.2.1 hn hr hM.1 hR.1 hf]
  simp only [Option.bind_some]
  rw [if_neg (show ¬ (1 : Int32) = 0 by decide), if_neg (show ¬ (1 : Int32) = 0 by decide), nI_8r, if_pos (sg_ibN (show 8 * r + f < 48 by omega) (by decide)), sg_xN (show 8 * r + f < 2 ^ 31 by omega), hMf.1, ← cd_eq]
  rw [if_pos (sg_ibN (show r < 6 by omega) (by decide)), if_pos (sg_ibN (show f < 8 by omega) (by decide)), sg_xN (show r < 2 ^ 31 by omega), sg_xN (show f < 2 ^ 31 by omega)]
  unfold sg_lt
  simp only []
  obtain ⟨a, ha⟩ : ∃ z, σ.2 (ad_C b r + 2) f = z := ⟨_, rfl⟩
  rw [show σ.2 (b + 10 + 147 * r + 2) f = a from ha]
  rw [ha] at hCf
  unfold fn_X1_isSimple fn_X1_isFull
  rw [hCf.1, hCf.2.2.2.1, if_pos (sg_ibN (show 8 * r + f < 48 by omega) (by decide)), hMf.2.2.2.1]
  by_cases hsim : S 5 (8 * r + f) < 10
  · rw [if_pos (show nI (S 5 (8 * r + f)) < (10 : Int32) from nI_lt (b := 10) hsim (by decide)), if_neg (show ¬ (10 : Int32) ≤ nI (S 5 (8 * r + f)) from nI_ge (b := 10) hsim (by decide))]
    rcases cd_val x3 with e | ⟨e, -⟩ <;> rw [e] <;> exact ⟨-1, σ, τ, rfl, rfl, hJ⟩
  rw [if_neg (show ¬ nI (S 5 (8 * r + f)) < (10 : Int32) from nI_nlt (b := 10) (by omega) (by omega)), if_pos (show (10 : Int32) ≤ nI (S 5 (8 * r + f)) from nI_le (a := 10) (by omega) (by omega))]
  rcases cd_val x3 with e | ⟨e, j, hj, rfl⟩
  · rw [e]; exact ⟨-1, σ, τ, rfl, rfl, hJ⟩
  rw [e]
  rw [Option.bind_some, Option.bind_some, Option.bind_some, if_neg (show ¬ (1 : Int32) = 0 by decide), if_neg (show ¬ (1 : Int32) = 0 by decide), if_pos (show (0 : Int32) = 0 from rfl)]
  by_cases hfull : S 8 (8 * r + f) = 4
  · rw [hfull]; exact ⟨-2, σ, τ, rfl, rfl, hJ⟩
  have hlt : S 8 (8 * r + f) < 4 := by omega
  rw [if_pos (show nI (S 8 (8 * r + f)) < (4 : Int32) from nI_lt (b := 4) hlt (by decide)), if_neg (show ¬ nI (S 8 (8 * r + f)) = (4 : Int32) from fun q => hfull ((nI_eq (b := 4) (by omega) (by decide)).mp q))]
  rw [Option.bind_some, if_pos (show (0 : Int32) = 0 from rfl)]
  obtain ⟨σ', a1, a2, a3, a4, a5, a6, a7, a8⟩ := as_C (b := b) (j := j) hCf.2.2.2.1 hlt (by omega)
  obtain ⟨τ', b1, b2, b3, b4, b5⟩ := op_M (v := nI j) hMf.2.2.2.1 (show 8 * r + f < 48 by omega) hlt
  rw [a1, b1]
  simp only [Option.bind_some]
  rw [a2, if_pos (sg_ibN (show 8 * r + f < 48 by omega) (by decide)), b2]
  have h20 : ∀ s, s < S 8 (8 * r + f) → S 10 (4 * (8 * r + f) + s) ≤ 20 := fun s hs => (hF.2.2.2.2.2.2.2 s hs).2.1
  refine ⟨_, σ', τ', rfl, rfl, JJ_fld (S' := s_op S (8 * r + f) (S 8 (8 * r + f)) j) hok hc hm hr hf ha (fun k i hk => s_op_o ?_ ?_ ?_) ?_ (fun z k hz => a7 z k (by omega) (by omega) (by omega)) a8 (fl_op_C rfl hlt h20 hCf a2 a3 a4 a5 a6 a7) (fun z i hz => b5 z i ?_ ?_ ?_) (fl_op_M rfl hlt h20 hMf b2 b3 b4 b5)⟩
  · unfold in_S at hk; omega
  · unfold in_S at hk; omega
  · unfold in_S at hk; omega
  · unfold ps_fld
    rw [s_op_8, s_op_o (k := 5) (by omega) (by omega) (by omega), s_op_o (k := 6) (by omega) (by omega) (by omega), s_op_o (k := 7) (by omega) (by omega) (by omega)]
    refine ⟨hF.1, hF.2.1, hF.2.2.1, hF.2.2.2.1, by omega, by omega, fun q => absurd q hsim, fun s hs => ?_⟩
    by_cases hsc : s = S 8 (8 * r + f)
    · subst hsc
      unfold ps_sub
      rw [s_op_9, s_op_10]
      exact ⟨hj, Nat.zero_le _, fun i hi => absurd hi (Nat.not_lt_zero _)⟩
    · exact ps_sub_g (s_op_eq hsc) (hF.2.2.2.2.2.2.2 s (by omega))
  · unfold in_M at hz; omega
  · unfold in_M at hz; omega
  · unfold in_M at hz; omega
