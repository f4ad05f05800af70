-- ===== drop: the shelf =====
def eq_sub2 (S S' : Sh) (u u' : Nat) : Prop := S' 9 u' = S 9 u ∧ S' 10 u' = S 10 u ∧ ∀ i, i < 20 → S' 11 (20 * u' + i) = S 11 (20 * u + i)
def eq_fld2 (S S' : Sh) (q q' : Nat) : Prop := S' 5 q' = S 5 q ∧ S' 6 q' = S 6 q ∧ S' 7 q' = S 7 q ∧ S' 8 q' = S 8 q ∧ ∀ s, s < 4 → eq_sub2 S S' (4 * q + s) (4 * q' + s)
theorem ps_sub_h {S S' : Sh} {u u' : Nat} (e : eq_sub2 S S' u u') (h : ps_sub S u) : ps_sub S' u' := by
  unfold ps_sub at h ⊢
  rw [e.1, e.2.1]
  exact ⟨h.1, h.2.1, fun i hi => by rw [e.2.2 i (by omega)]; exact h.2.2 i hi⟩
theorem ps_fld_h {S S' : Sh} {q q' : Nat} (e : eq_fld2 S S' q q') (h : ps_fld S q) : ps_fld S' q' := by
  unfold ps_fld at h ⊢
  rw [e.1, e.2.1, e.2.2.1, e.2.2.2.1]
  exact ⟨h.1, h.2.1, h.2.2.1, h.2.2.2.1, h.2.2.2.2.1, h.2.2.2.2.2.1, h.2.2.2.2.2.2.1, fun s hs => ps_sub_h (e.2.2.2.2 s (by omega)) (h.2.2.2.2.2.2.2 s hs)⟩
theorem chars_h {S S' : Sh} {u u' : Nat} (e : eq_sub2 S S' u u') (h : S 10 u ≤ 20) : ps_chars S' u' = ps_chars S u := by
  unfold ps_chars
  rw [e.2.1]
  apply List.map_congr_left
  intro i hi
  exact e.2.2 i (by have := List.mem_range.mp hi; omega)
theorem rc_sub_h {σ σ' : Sg} {S S' : Sh} {u u' a : Nat} (e : eq_sub2 S S' u u') (h20 : S 10 u ≤ 20) (h1 : ∀ z k, a ≤ z → z < a + 4 → σ'.1 z k = σ.1 z k) (h : rc_sub σ S u a) : rc_sub σ' S' u' a := by
  unfold rc_sub rc_key at h ⊢
  rw [e.1, e.2.1, chars_h e h20, h1 a 3 (by omega) (by omega), h1 a 2 (by omega) (by omega), h1 (a + 2) 1 (by omega) (by omega), h1 (a + 2) 2 (by omega) (by omega)]
  exact ⟨h.1, h.2.1, fun i hi => by rw [h1 (a + 1) i (by omega) (by omega), e.2.2 i (by omega)]; exact h.2.2.1 i hi, h.2.2.2.1, fun i hi => by rw [h1 (a + 2 + 1) i (by omega) (by omega)]; exact h.2.2.2.2.1 i hi, h.2.2.2.2.2⟩
theorem rc_fld_h {σ σ' : Sg} {S S' : Sh} {q q' a : Nat} (e : eq_fld2 S S' q q') (hp : ps_fld S q) (h1 : ∀ z k, a ≤ z → z < a + 18 → σ'.1 z k = σ.1 z k) (h : rc_fld σ S q a) : rc_fld σ' S' q' a := by
  have h4 := hp.2.2.2.2.2.1
  unfold rc_fld at h ⊢
  rw [e.1, e.2.1, e.2.2.1, e.2.2.2.1, h1 a 2 (by omega) (by omega), h1 a 3 (by omega) (by omega), h1 a 4 (by omega) (by omega), h1 a 1 (by omega) (by omega)]
  exact ⟨h.1, h.2.1, h.2.2.1, h.2.2.2.1, fun s hs => rc_sub_h (e.2.2.2.2 s (by omega)) (hp.2.2.2.2.2.2.2 s hs).2.1 (fun z k g1 g2 => h1 z k (by omega) (by omega)) (h.2.2.2.2 s hs)⟩
theorem rm_fld_h {m : Nat} {τ τ' : Sg} {S S' : Sh} {q q' : Nat} (e : eq_fld2 S S' q q') (hp : ps_fld S q) (h1 : ∀ z, m + 4 ≤ z → z ≤ m + 7 → τ'.1 z q' = τ.1 z q) (h2 : ∀ z s, z = m + 8 ∨ z = m + 9 → s < 4 → τ'.1 z (4 * q' + s) = τ.1 z (4 * q + s)) (h3 : ∀ i, i < 80 → τ'.1 (m + 10) (80 * q' + i) = τ.1 (m + 10) (80 * q + i)) (h : rm_fld m τ S q) : rm_fld m τ' S' q' := by
  have h4 := hp.2.2.2.2.2.1
  unfold rm_fld at h ⊢
  rw [e.1, e.2.1, e.2.2.1, e.2.2.2.1, h1 (m + 4) (by omega) (by omega), h1 (m + 5) (by omega) (by omega), h1 (m + 6) (by omega) (by omega), h1 (m + 7) (by omega) (by omega)]
  refine ⟨h.1, h.2.1, h.2.2.1, h.2.2.2.1, fun s hs => ?_⟩
  have hs4 : s < 4 := by omega
  have e2 := e.2.2.2.2 s hs4
  have h20 := (hp.2.2.2.2.2.2.2 s hs).2.1
  have hh := h.2.2.2.2 s hs
  unfold rm_sub at hh ⊢
  rw [e2.1, e2.2.1, h2 (m + 8) s (Or.inl rfl) hs4, h2 (m + 9) s (Or.inr rfl) hs4]
  refine ⟨hh.1, hh.2.1, fun i hi => ?_⟩
  have g := h3 (20 * s + i) (by omega)
  rw [e2.2.2 i (by omega), show 20 * (4 * q' + s) + i = 80 * q' + (20 * s + i) by omega, g, show 80 * q + (20 * s + i) = 20 * (4 * q + s) + i by omega]
  exact hh.2.2 i hi
def s_dr (S : Sh) (r f n : Nat) : Sh := fun k i => if k = 4 ∧ i = r then n - 1 else if 5 ≤ k ∧ k ≤ 8 ∧ 8 * r + f ≤ i ∧ i < 8 * r + (n - 1) then S k (i + 1) else if (k = 9 ∨ k = 10) ∧ 4 * (8 * r + f) ≤ i ∧ i < 4 * (8 * r + (n - 1)) then S k (i + 4) else if k = 11 ∧ 80 * (8 * r + f) ≤ i ∧ i < 80 * (8 * r + (n - 1)) then S k (i + 80) else S k i
theorem s_dr_o {S : Sh} {r f n k i : Nat} (h1 : ¬ (k = 4 ∧ i = r)) (h2 : ¬ (5 ≤ k ∧ k ≤ 8 ∧ 8 * r + f ≤ i ∧ i < 8 * r + (n - 1))) (h3 : ¬ ((k = 9 ∨ k = 10) ∧ 4 * (8 * r + f) ≤ i ∧ i < 4 * (8 * r + (n - 1)))) (h4 : ¬ (k = 11 ∧ 80 * (8 * r + f) ≤ i ∧ i < 80 * (8 * r + (n - 1)))) : s_dr S r f n k i = S k i := by
  unfold s_dr
  rw [if_neg h1, if_neg h2, if_neg h3, if_neg h4]
theorem s_dr_5 {S : Sh} {r f n k i : Nat} (h : 5 ≤ k ∧ k ≤ 8 ∧ 8 * r + f ≤ i ∧ i < 8 * r + (n - 1)) : s_dr S r f n k i = S k (i + 1) := by
  unfold s_dr
  rw [if_neg (by omega), if_pos h]
theorem s_dr_9 {S : Sh} {r f n k i : Nat} (h : (k = 9 ∨ k = 10) ∧ 4 * (8 * r + f) ≤ i ∧ i < 4 * (8 * r + (n - 1))) : s_dr S r f n k i = S k (i + 4) := by
  unfold s_dr
  rw [if_neg (by omega), if_neg (by omega), if_pos h]
theorem s_dr_11 {S : Sh} {r f n i : Nat} (h : 80 * (8 * r + f) ≤ i ∧ i < 80 * (8 * r + (n - 1))) : s_dr S r f n 11 i = S 11 (i + 80) := by
  unfold s_dr
  rw [if_neg (by omega), if_neg (by omega), if_neg (by omega), if_pos ⟨rfl, h⟩]
theorem s_dr_eo {S : Sh} {r f n q : Nat} (h : ¬ (8 * r + f ≤ q ∧ q < 8 * r + (n - 1))) : eq_fld S (s_dr S r f n) q :=
  ⟨s_dr_o (by omega) (by omega) (by omega) (by omega), s_dr_o (by omega) (by omega) (by omega) (by omega), s_dr_o (by omega) (by omega) (by omega) (by omega), s_dr_o (by omega) (by omega) (by omega) (by omega), fun s hs => ⟨s_dr_o (by omega) (by omega) (by omega) (by omega), s_dr_o (by omega) (by omega) (by omega) (by omega), fun i hi => s_dr_o (by omega) (by omega) (by omega) (by omega)⟩⟩
theorem s_dr_e1 {S : Sh} {r f n q : Nat} (h : 8 * r + f ≤ q ∧ q < 8 * r + (n - 1)) : eq_fld2 S (s_dr S r f n) (q + 1) q :=
  ⟨s_dr_5 (by omega), s_dr_5 (by omega), s_dr_5 (by omega), s_dr_5 (by omega), fun s hs => ⟨by rw [s_dr_9 (by omega)]; congr 1; omega, by rw [s_dr_9 (by omega)]; congr 1; omega, fun i hi => by rw [s_dr_11 (by omega)]; congr 1; omega⟩⟩
theorem op_drop {b m : Nat} {σ τ : Sg} (h : JJ b σ m τ) (x1 : Int32) (x2 : Int32)  : ∃ (r : Int32) (σ' τ' : Sg), fn_X7_drop b σ x1 x2 = some (r, σ') ∧ fn_X8_drop m τ x1 x2 = some (r, τ') ∧ JJ b σ' m τ' := by
  have hJ := h
  obtain ⟨S, pl, hok, hc, hm⟩ := h
  have hn : S 2 0 ≤ 6 := hok.2.2.1
  unfold fn_X7_drop fn_X8_drop
  rcases bad_or x1 (n := S 2 0) (by omega) with hb | ⟨r, hr, rfl⟩
  · rw [hfC_r hc.2.1 hb, hfM_r hm.2.1 hb]; exact ⟨0, σ, τ, rfl, rfl, hJ⟩
  have hR := hok.2.2.2.1 r hr
  have hC := hc.2.2.1 r hr
  have hM := hm.2.2.1 r hr
  have hf8 := hR.1
  rcases bad_or x2 (n := S 4 r) (by omega) with hb | ⟨f, hf, rfl⟩
  · rw [hfC_bad hc.2.1 hn hr hC.1 hb, hfM_bad hm.2.1 hn hr hM.1 hb]; exact ⟨0, σ, τ, rfl, rfl, hJ⟩
  rw [hfC_ok hc.2.1 hn hr hC.1 hR.1 hf, hfM_ok hm.2.1 hn hr hM.1 hR.1 hf]
  rw [Option.bind_some, Option.bind_some, if_neg (show ¬ (1 : Int32) = 0 by decide), if_neg (show ¬ (1 : Int32) = 0 by decide), nI_8r, if_pos (sg_ibN (show r < 6 by omega) (by decide)), sg_xN (show r < 2 ^ 31 by omega)]
  obtain ⟨n, hN⟩ : ∃ z, z = S 4 r := ⟨_, rfl⟩
  obtain ⟨σ', e1, e2, e3, e4⟩ := to_C (b := b) (c := ad_C b r) (a := σ.2 (ad_C b r + 2) f) (n := n) (by omega) (n - 1 - f) f sg_N σ (by omega) (by show _ < 1000; omega) (by rw [hN]; exact hC.1)
  obtain ⟨τ', τ1, d1, d2, d3⟩ := dr_M (m := m) (r := r) (n := n) (by omega) (by omega) (n - 1 - f) f sg_N τ (by omega) (by show _ < 1000; omega) (by rw [hN]; exact hM.1)
  refine ⟨1, σ', τ', ?_, d1, ?_⟩
  · unfold fn_X0_takeOut
    rw [if_pos (sg_ibN (show f < 8 by omega) (by decide)), sg_xN (show f < 2 ^ 31 by omega)]
    show ((fn_X0_takeOut_B9 b sg_N σ (ad_C b r) (σ.2 (ad_C b r + 2) f) (nI f)).bind fun r3 => some (1, r3)) = _
    rw [e1, Option.bind_some]
  have hAC : ∀ r, ad_C b r = b + 10 + 147 * r := fun r => rfl
  have hrow := hc.2.2.2.2.2
  have f1 : ∀ z k, ¬ (z = ad_C b r ∧ k = 2) → σ'.1 z k = σ.1 z k := fun z k q => by rw [e2, if_neg q]
  have f2 : ∀ k, σ'.2 (ad_C b r + 2) k = σ.2 (ad_C b r + 2) (pi_d f n k) := fun k => by
    rw [e4]; unfold pi_d
    split
    · rfl
    · split <;> rfl
  have f3 : ∀ z i, ¬ (m + 3 ≤ z ∧ z ≤ m + 10) → τ'.1 z i = τ.1 z i := fun z i q => by
    rw [d3, sg_wga (by omega)]; exact d2.2.2.2 z i (by omega) (by omega) (by omega)
  have f4 : ∀ z i, z ≠ m + 3 → τ'.1 z i = τ1.1 z i := fun z i q => by rw [d3, sg_wga q]
  have g5 : ∀ z i, m + 4 ≤ z → z ≤ m + 7 → ¬ (8 * r + f ≤ i ∧ i < 8 * r + (n - 1)) → τ'.1 z i = τ.1 z i := fun z i q1 q2 q3 => by rw [f4 z i (by omega)]; exact d2.2.2.2 z i (by omega) (by omega) (by omega)
  have g9 : ∀ z i, z = m + 8 ∨ z = m + 9 → ¬ (4 * (8 * r + f) ≤ i ∧ i < 4 * (8 * r + (n - 1))) → τ'.1 z i = τ.1 z i := fun z i q1 q3 => by rw [f4 z i (by omega)]; exact d2.2.2.2 z i (by omega) (by omega) (by omega)
  have g11 : ∀ i, ¬ (80 * (8 * r + f) ≤ i ∧ i < 80 * (8 * r + (n - 1))) → τ'.1 (m + 10) i = τ.1 (m + 10) i := fun i q3 => by rw [f4 _ i (by omega)]; exact d2.2.2.2 _ i (by omega) (by omega) (by omega)
  have e20 : s_dr S r f n 2 0 = S 2 0 := s_dr_o (by omega) (by omega) (by omega) (by omega)
  have e00 : s_dr S r f n 0 0 = S 0 0 := s_dr_o (by omega) (by omega) (by omega) (by omega)
  have e120 : s_dr S r f n 12 0 = S 12 0 := s_dr_o (by omega) (by omega) (by omega) (by omega)
  have e_1 : ∀ i, s_dr S r f n 1 i = S 1 i := fun i => s_dr_o (by omega) (by omega) (by omega) (by omega)
  have e_3 : ∀ i, s_dr S r f n 3 i = S 3 i := fun i => s_dr_o (by omega) (by omega) (by omega) (by omega)
  have e_13 : ∀ i, s_dr S r f n 13 i = S 13 i := fun i => s_dr_o (by omega) (by omega) (by omega) (by omega)
  have e_4 : ∀ i, i ≠ r → s_dr S r f n 4 i = S 4 i := fun i q => s_dr_o (by omega) (by omega) (by omega) (by omega)
  have e_4r : s_dr S r f n 4 r = n - 1 := by unfold s_dr; rw [if_pos ⟨rfl, rfl⟩]
  have hz : ∀ z k, z < b + 10 → σ'.1 z k = σ.1 z k := fun z k hz => f1 z k (by have := hAC r; omega)
  have her : ∀ r', r' ≠ r → eq_rec S (s_dr S r f n) r' := fun r' q => ⟨e_4 r' q, fun i _ => e_3 _, fun f' hf' => s_dr_eo (by omega)⟩
  refine ⟨s_dr S r f n, pl, ⟨by rw [e00]; exact hok.1, fun i hi => by rw [e00] at hi; rw [e_1]; exact hok.2.1 i hi, by rw [e20]; exact hn, fun r' hr' => ?_, by rw [e120]; exact hok.2.2.2.2.1, fun i hi => by rw [e120] at hi; rw [e_13]; exact hok.2.2.2.2.2 i hi⟩, ⟨⟨by rw [hz _ _ (by omega), e00]; exact hc.1.1, fun i hi => by rw [e00] at hi; rw [hz _ _ (by omega), e_1]; exact hc.1.2 i hi⟩, by rw [hz _ _ (by omega), e20]; exact hc.2.1, fun r' hr' => ?_, ⟨by rw [hz _ _ (by omega), e120]; exact hc.2.2.2.1.1, fun i hi => by rw [e120] at hi; rw [hz _ _ (by omega), e_13]; exact hc.2.2.2.1.2 i hi⟩, by rw [hz _ _ (by omega)]; exact hc.2.2.2.2.1, fun r' hr' => ?_⟩, ⟨⟨by rw [f3 _ _ (by omega), e00]; exact hm.1.1, fun i hi => by rw [e00] at hi; rw [f3 _ _ (by omega), e_1]; exact hm.1.2 i hi⟩, by rw [f3 _ _ (by omega), e20]; exact hm.2.1, fun r' hr' => ?_, ⟨by rw [f3 _ _ (by omega), e120]; exact hm.2.2.2.1.1, fun i hi => by rw [e120] at hi; rw [f3 _ _ (by omega), e_13]; exact hm.2.2.2.1.2 i hi⟩, by rw [f3 _ _ (by omega)]; exact hm.2.2.2.2⟩⟩
  · rw [e20] at hr'
    by_cases hrr : r' = r
    · subst hrr
      unfold ps_rec
      rw [e_4r]
      refine ⟨by omega, fun i hi => by rw [e_3]; exact hR.2.1 i hi, fun f' hf' => ?_⟩
      by_cases hff : f' < f
      · exact ps_fld_g (s_dr_eo (by omega)) (hR.2.2 f' (by omega))
      · exact ps_fld_h (s_dr_e1 (by omega)) (hR.2.2 (f' + 1) (by omega))
    · exact ps_rec_g (her r' hrr) (hok.2.2.2.1 r' hr')
  · rw [e20] at hr'
    by_cases hrr : r' = r
    · subst hrr
      unfold rc_rec at hC ⊢
      rw [e_4r]
      refine ⟨by rw [e2, if_pos ⟨rfl, rfl⟩], fun i hi => by rw [f1 _ _ (by omega), e_3]; exact hC.2.1 i hi, fun f' hf' => ?_⟩
      by_cases hff : f' < f
      · rw [f2, show pi_d f n f' = f' by unfold pi_d; rw [if_neg (by omega), if_neg (by omega)]]
        obtain ⟨p', hp8', ep'⟩ := (hrow r' (by omega)).1 f' (by omega)
        have : ad_F b r' p' = ad_C b r' + 3 + 18 * p' := rfl
        exact rc_fld_g (s_dr_eo (by omega)) (hR.2.2 f' (by omega)) (fun z k h4 h5 => f1 z k (by rw [ep'] at h4; omega)) (hC.2.2 f' (by omega))
      · rw [f2, show pi_d f n f' = f' + 1 by unfold pi_d; rw [if_pos (by omega)]]
        obtain ⟨p', hp8', ep'⟩ := (hrow r' (by omega)).1 (f' + 1) (by omega)
        have : ad_F b r' p' = ad_C b r' + 3 + 18 * p' := rfl
        exact rc_fld_h (s_dr_e1 (by omega)) (hR.2.2 (f' + 1) (by omega)) (fun z k h4 h5 => f1 z k (by rw [ep'] at h4; omega)) (hC.2.2 (f' + 1) (by omega))
    · refine rc_rec_g (σ := σ) (S := S) (by omega) hrow (her r' hrr) (hok.2.2.2.1 r' hr') (fun z k h4 h5 => f1 z k ?_) (fun f' hf' => e3 _ _ ?_) (hc.2.2.1 r' hr')
      · have := hAC r
        have := hAC r'
        omega
      · have := hAC r
        have := hAC r'
        omega
  · by_cases hrr : r' = r
    · subst hrr
      refine ⟨fun i hi => ?_, fun i j hi hj q => ?_⟩
      · rw [f2]
        exact (hrow r' hr').1 _ (by unfold pi_d; split <;> (try split) <;> omega)
      · rw [f2, f2] at q
        have q2 := (hrow r' hr').2 _ _ (by unfold pi_d; split <;> (try split) <;> omega) (by unfold pi_d; split <;> (try split) <;> omega) q
        unfold pi_d at q2
        split at q2 <;> split at q2 <;> (try split at q2) <;> (try split at q2) <;> omega
    · have hne : ad_C b r' + 2 ≠ ad_C b r + 2 := by
        have := hAC r
        have := hAC r'
        omega
      refine ⟨fun i hi => ?_, fun i j hi hj q => ?_⟩
      · rw [e3 _ _ hne]; exact (hrow r' hr').1 i hi
      · rw [e3 _ _ hne, e3 _ _ hne] at q; exact (hrow r' hr').2 i j hi hj q
  · rw [e20] at hr'
    by_cases hrr : r' = r
    · subst hrr
      unfold rm_rec at hM ⊢
      rw [e_4r]
      refine ⟨by rw [d3, sg_wgs], fun i hi => by rw [f3 _ _ (by omega), e_3]; exact hM.2.1 i hi, fun f' hf' => ?_⟩
      by_cases hff : f' < f
      · exact rm_fld_g (s_dr_eo (by omega)) (hR.2.2 f' (by omega)) (fun z q1 q2 => g5 _ _ q1 q2 (by omega)) (fun z s hz hs => g9 _ _ hz (by omega)) (fun i hi => g11 _ (by omega)) (hM.2.2 f' (by omega))
      · refine rm_fld_h (s_dr_e1 (by omega)) (hR.2.2 (f' + 1) (by omega)) (fun z q1 q2 => ?_) (fun z s hz hs => ?_) (fun i hi => ?_) (hM.2.2 (f' + 1) (by omega))
        · rw [f4 _ _ (by omega)]; exact d2.1 z _ q1 q2 (by omega) (by omega)
        · rw [f4 _ _ (by omega), d2.2.1 z _ hz (by omega) (by omega)]; exact congrArg _ (by omega)
        · rw [f4 _ _ (by omega), d2.2.2.1 _ (by omega) (by omega)]; exact congrArg _ (by omega)
    · exact rm_rec_g (τ := τ) (S := S) (her r' hrr) (hok.2.2.2.1 r' hr') (by rw [d3, sg_wgk hrr]; exact d2.2.2.2 _ _ (by omega) (by omega) (by omega)) (fun i hi => f3 _ _ (by omega)) (fun z f' q1 q2 q3 => g5 _ _ q1 q2 (by omega)) (fun z s hz hs => g9 _ _ hz (by omega)) (fun i hi => g11 _ (by omega)) (hm.2.2.1 r' hr')
