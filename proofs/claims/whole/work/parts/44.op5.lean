-- ===== one part changes, the others stay =====
/-- S' says of subfield u what S says -/
def eq_sub (S S' : Sh) (u : Nat) : Prop := S' 9 u = S 9 u ∧ S' 10 u = S 10 u ∧ ∀ i, i < 20 → S' 11 (20 * u + i) = S 11 (20 * u + i)
def eq_fld (S S' : Sh) (q : Nat) : Prop := S' 5 q = S 5 q ∧ S' 6 q = S 6 q ∧ S' 7 q = S 7 q ∧ S' 8 q = S 8 q ∧ ∀ s, s < 4 → eq_sub S S' (4 * q + s)
def eq_rec (S S' : Sh) (r : Nat) : Prop := S' 4 r = S 4 r ∧ (∀ i, i < 8 → S' 3 (8 * r + i) = S 3 (8 * r + i)) ∧ ∀ f, f < 8 → eq_fld S S' (8 * r + f)
theorem ps_sub_g {S S' : Sh} {u : Nat} (e : eq_sub S S' u) (h : ps_sub S u) : ps_sub S' u := by
  unfold ps_sub at h ⊢
  rw [e.1, e.2.1]
  exact ⟨h.1, h.2.1, fun i hi => by rw [e.2.2 i (by have := h.2.1; omega)]; exact h.2.2 i hi⟩
theorem ps_fld_g {S S' : Sh} {q : Nat} (e : eq_fld S S' q) (h : ps_fld S q) : ps_fld S' q := by
  unfold ps_fld at h ⊢
  rw [e.1, e.2.1, e.2.2.1, e.2.2.2.1]
  exact ⟨h.1, h.2.1, h.2.2.1, h.2.2.2.1, h.2.2.2.2.1, h.2.2.2.2.2.1, h.2.2.2.2.2.2.1, fun s hs => ps_sub_g (e.2.2.2.2 s (by have := h.2.2.2.2.2.1; omega)) (h.2.2.2.2.2.2.2 s hs)⟩
theorem ps_rec_g {S S' : Sh} {r : Nat} (e : eq_rec S S' r) (h : ps_rec S r) : ps_rec S' r := by
  unfold ps_rec at h ⊢
  rw [e.1]
  exact ⟨h.1, fun i hi => by rw [e.2.1 i hi]; exact h.2.1 i hi, fun f hf => ps_fld_g (e.2.2 f (by have := h.1; omega)) (h.2.2 f hf)⟩
theorem chars_g {S S' : Sh} {u : Nat} (e : eq_sub S S' u) (h : S 10 u ≤ 20) : ps_chars S' u = ps_chars S u := by
  unfold ps_chars
  rw [e.2.1]
  apply List.map_congr_left
  intro i hi
  exact e.2.2 i (by have := List.mem_range.mp hi; omega)
theorem rc_sub_g {σ σ' : Sg} {S S' : Sh} {u a : Nat} (e : eq_sub S S' u) (h20 : S 10 u ≤ 20) (h1 : ∀ z k, a ≤ z → z < a + 4 → σ'.1 z k = σ.1 z k) (h : rc_sub σ S u a) : rc_sub σ' S' u a := by
  unfold rc_sub rc_key at h ⊢
  rw [e.1, e.2.1, chars_g e h20, h1 a 3 (by omega) (by omega), h1 a 2 (by omega) (by omega), h1 (a + 2) 1 (by omega) (by omega), h1 (a + 2) 2 (by omega) (by omega)]
  exact ⟨h.1, h.2.1, fun i hi => by rw [h1 _ _ (by omega) (by omega), e.2.2 i (by omega)]; exact h.2.2.1 i hi, h.2.2.2.1, fun i hi => by rw [h1 _ _ (by omega) (by omega)]; exact h.2.2.2.2.1 i hi, h.2.2.2.2.2⟩
theorem rc_fld_g {σ σ' : Sg} {S S' : Sh} {q a : Nat} (e : eq_fld S S' q) (hp : ps_fld S q) (h1 : ∀ z k, a ≤ z → z < a + 18 → σ'.1 z k = σ.1 z k) (h : rc_fld σ S q a) : rc_fld σ' S' q a := by
  unfold rc_fld at h ⊢
  have h4 := hp.2.2.2.2.2.1
  rw [e.1, e.2.1, e.2.2.1, e.2.2.2.1, h1 a 1 (by omega) (by omega), h1 a 2 (by omega) (by omega), h1 a 3 (by omega) (by omega), h1 a 4 (by omega) (by omega)]
  exact ⟨h.1, h.2.1, h.2.2.1, h.2.2.2.1, fun s hs => rc_sub_g (e.2.2.2.2 s (by omega)) (hp.2.2.2.2.2.2.2 s hs).2.1 (fun z k h2 h3 => h1 z k (by omega) (by omega)) (h.2.2.2.2 s hs)⟩
theorem rc_rec_g {b : Nat} {σ σ' : Sg} {S S' : Sh} {r : Nat} (hr : r < 6) (hrow : rc_row b σ) (e : eq_rec S S' r) (hp : ps_rec S r) (h1 : ∀ z k, ad_C b r ≤ z → z < ad_C b r + 147 → σ'.1 z k = σ.1 z k) (h2 : ∀ f, f < 8 → σ'.2 (ad_C b r + 2) f = σ.2 (ad_C b r + 2) f) (h : rc_rec b σ S r) : rc_rec b σ' S' r := by
  unfold rc_rec at h ⊢
  have h8 := hp.1
  rw [e.1, h1 (ad_C b r) 2 (by omega) (by omega)]
  refine ⟨h.1, fun i hi => by rw [h1 _ _ (by omega) (by omega), e.2.1 i hi]; exact h.2.1 i hi, fun f hf => ?_⟩
  rw [h2 f (by omega)]
  obtain ⟨p, hp8, ep⟩ := (hrow r hr).1 f (by omega)
  refine rc_fld_g (e.2.2 f (by omega)) (hp.2.2 f hf) (fun z k h3 h4 => h1 z k ?_ ?_) (h.2.2 f hf)
  · rw [ep] at h3; have : ad_F b r p = ad_C b r + 3 + 18 * p := rfl; omega
  · rw [ep] at h4; have : ad_F b r p = ad_C b r + 3 + 18 * p := rfl; omega
theorem rm_sub_g {m : Nat} {τ τ' : Sg} {S S' : Sh} {u : Nat} (e : eq_sub S S' u) (h20 : S 10 u ≤ 20) (h8 : τ'.1 (m + 8) u = τ.1 (m + 8) u) (h9 : τ'.1 (m + 9) u = τ.1 (m + 9) u) (h10 : ∀ i, i < 20 → τ'.1 (m + 10) (20 * u + i) = τ.1 (m + 10) (20 * u + i)) (h : rm_sub m τ S u) : rm_sub m τ' S' u := by
  unfold rm_sub at h ⊢
  rw [e.1, e.2.1, h8, h9]
  exact ⟨h.1, h.2.1, fun i hi => by rw [h10 i (by omega), e.2.2 i (by omega)]; exact h.2.2 i hi⟩
theorem rm_fld_g {m : Nat} {τ τ' : Sg} {S S' : Sh} {q : Nat} (e : eq_fld S S' q) (hp : ps_fld S q) (h1 : ∀ z, m + 4 ≤ z → z ≤ m + 7 → τ'.1 z q = τ.1 z q) (h2 : ∀ z s, z = m + 8 ∨ z = m + 9 → s < 4 → τ'.1 z (4 * q + s) = τ.1 z (4 * q + s)) (h3 : ∀ i, i < 80 → τ'.1 (m + 10) (80 * q + i) = τ.1 (m + 10) (80 * q + i)) (h : rm_fld m τ S q) : rm_fld m τ' S' q := by
  unfold rm_fld at h ⊢
  have h4 := hp.2.2.2.2.2.1
  rw [e.1, e.2.1, e.2.2.1, e.2.2.2.1, h1 (m + 4) (by omega) (by omega), h1 (m + 5) (by omega) (by omega), h1 (m + 6) (by omega) (by omega), h1 (m + 7) (by omega) (by omega)]
  exact ⟨h.1, h.2.1, h.2.2.1, h.2.2.2.1, fun s hs => rm_sub_g (e.2.2.2.2 s (by omega)) (hp.2.2.2.2.2.2.2 s hs).2.1 (h2 _ s (Or.inl rfl) (by omega)) (h2 _ s (Or.inr rfl) (by omega)) (fun i hi => by
    have h5 := h3 (20 * s + i) (by omega)
    rw [show 80 * q + (20 * s + i) = 20 * (4 * q + s) + i by omega] at h5
    exact h5) (h.2.2.2.2 s hs)⟩
theorem rm_rec_g {m : Nat} {τ τ' : Sg} {S S' : Sh} {r : Nat} (e : eq_rec S S' r) (hp : ps_rec S r) (h0 : τ'.1 (m + 3) r = τ.1 (m + 3) r) (h00 : ∀ i, i < 8 → τ'.1 (m + 2) (8 * r + i) = τ.1 (m + 2) (8 * r + i)) (h1 : ∀ z f, m + 4 ≤ z → z ≤ m + 7 → f < 8 → τ'.1 z (8 * r + f) = τ.1 z (8 * r + f)) (h2 : ∀ z s, z = m + 8 ∨ z = m + 9 → s < 32 → τ'.1 z (32 * r + s) = τ.1 z (32 * r + s)) (h3 : ∀ i, i < 640 → τ'.1 (m + 10) (640 * r + i) = τ.1 (m + 10) (640 * r + i)) (h : rm_rec m τ S r) : rm_rec m τ' S' r := by
  unfold rm_rec at h ⊢
  have h8 := hp.1
  rw [e.1, h0]
  refine ⟨h.1, fun i hi => by rw [h00 i hi, e.2.1 i hi]; exact h.2.1 i hi, fun f hf => ?_⟩
  refine rm_fld_g (e.2.2 f (by omega)) (hp.2.2 f hf) (fun z a1 a2 => h1 z f a1 a2 (by omega)) (fun z s hz hs => ?_) (fun i hi => ?_) (h.2.2 f hf)
  · have h5 := h2 z (4 * f + s) hz (by omega)
    rw [show 32 * r + (4 * f + s) = 4 * (8 * r + f) + s by omega] at h5
    exact h5
  · have h5 := h3 (80 * f + i) (by omega)
    rw [show 640 * r + (80 * f + i) = 80 * (8 * r + f) + i by omega] at h5
    exact h5
theorem eq_sub.rf {S : Sh} {u : Nat} : eq_sub S S u := ⟨rfl, rfl, fun _ _ => rfl⟩
theorem eq_fld.rf {S : Sh} {q : Nat} : eq_fld S S q := ⟨rfl, rfl, rfl, rfl, fun _ _ => eq_sub.rf⟩
theorem eq_rec.rf {S : Sh} {r : Nat} : eq_rec S S r := ⟨rfl, fun _ _ => rfl, fun _ _ => eq_fld.rf⟩
/-- one number of the shelf -/
def s_up (S : Sh) (k i v : Nat) : Sh := fun k' i' => if k' = k ∧ i' = i then v else S k' i'
theorem s_us {S : Sh} {k i v : Nat} : s_up S k i v k i = v := if_pos ⟨rfl, rfl⟩
theorem s_uk {S : Sh} {k i v k' i' : Nat} (h : k' ≠ k) : s_up S k i v k' i' = S k' i' := if_neg (fun q => h q.1)
theorem s_ui {S : Sh} {k i v k' i' : Nat} (h : i' ≠ i) : s_up S k i v k' i' = S k' i' := if_neg (fun q => h q.2)
-- ===== fresh =====
theorem fr_C {b c : Nat} : ∀ (d k f : Nat) (σ : Sg), k + d = 8 → d < f → ∃ σ', fn_X0_begin_B7 b f σ c (nI k) = some σ' ∧ (∀ i, k ≤ i → i < 8 → σ'.1 (c + 1) i = sg_nam i) ∧ (∀ z i, ¬ (z = c + 1 ∧ k ≤ i) → σ'.1 z i = σ.1 z i) ∧ σ'.2 = σ.2 := by
  intro d
  induction d with
  | zero =>
    intro k f σ hk hf
    obtain ⟨f, rfl⟩ : ∃ g, f = g + 1 := ⟨f - 1, by omega⟩
    have : k = 8 := by omega
    subst this
    exact ⟨σ, rfl, fun i h1 h2 => by omega, fun _ _ _ => rfl, rfl⟩
  | succ d ih =>
    intro k f σ hk hf
    obtain ⟨f, rfl⟩ : ∃ g, f = g + 1 := ⟨f - 1, by omega⟩
    have hnar : vp_nar .char (sg_nam k) = sg_nam k := by
      have h9 : ∀ k, k < 8 → vp_nar .char (sg_nam k) = sg_nam k := by decide
      exact h9 k (by omega)
    obtain ⟨σ', a1, a2, a3, a4⟩ := ih (k + 1) f (sg_w σ (c + 1) k (sg_nam k)) (by omega) (by omega)
    refine ⟨σ', ?_, fun i h1 h2 => ?_, fun z i h1 => ?_, a4⟩
    · show fn_X0_begin_B7b b (fn_X0_begin_B7 b f) σ c (nI k) = _
      unfold fn_X0_begin_B7b
      rw [if_neg (show ¬ (8 : Int32) ≤ nI k from nI_ge (b := 8) (by omega) (by decide)), if_pos (sg_ibN (by omega) (by decide)), if_pos (sg_ibN (by omega) (by decide)), sg_xN (by omega), hnar]
      unfold sg_lt
      simp only []
      rw [nI_1]; exact a1
    · by_cases hik : i = k
      · subst hik
        rw [a3 _ _ (by omega), sg_wgs]
      · exact a2 i (by omega) h2
    · rw [a3 z i (by omega), sg_wg, if_neg (by omega)]
theorem fr_M {m R : Nat} (hR : R < 6) : ∀ (d k f : Nat) (τ : Sg), k + d = 8 → d < f → τ.1 m 2 = nI R → ∃ τ', fn_X8_fresh_B14 m f τ (nI k) = some (nI R, τ') ∧ (∀ i, k ≤ i → i < 8 → τ'.1 (m + 2) (8 * R + i) = sg_nam i) ∧ (∀ z i, ¬ (z = m + 2 ∧ 8 * R + k ≤ i ∧ i < 8 * R + 8) → ¬ (z = m + 3 ∧ i = R) → ¬ (z = m ∧ i = 2) → τ'.1 z i = τ.1 z i) ∧ τ'.1 m 2 = nI (R + 1) ∧ τ'.1 (m + 3) R = nI 0 := by
  intro d
  induction d with
  | zero =>
    intro k f τ hk hf hτ
    obtain ⟨f, rfl⟩ : ∃ g, f = g + 1 := ⟨f - 1, by omega⟩
    have : k = 8 := by omega
    subst this
    refine ⟨sg_w (sg_w τ (m + 3) R 0) m 2 (nI (R + 1)), ?_, fun i h1 h2 => by omega, fun z i h1 h2 h3 => ?_, sg_wgs, ?_⟩
    · show fn_X8_fresh_B14b m (fn_X8_fresh_B14 m f) τ (nI 8) = _
      unfold fn_X8_fresh_B14b
      rw [if_pos (by decide), hτ, if_pos (sg_ibN (by omega) (by decide)), sg_xN (by omega)]
      unfold sg_lt
      simp only []
      have e9 : (sg_w τ (m + 3) R 0).1 m 2 = nI R := by rw [sg_wga (by omega)]; exact hτ
      rw [e9, nI_1, sg_wgs, nI_pred]
    · rw [sg_wg, if_neg h3, sg_wg, if_neg h2]
    · rw [sg_wga (by omega), sg_wgs]; rfl
  | succ d ih =>
    intro k f τ hk hf hτ
    obtain ⟨f, rfl⟩ : ∃ g, f = g + 1 := ⟨f - 1, by omega⟩
    obtain ⟨τ', a1, a2, a3, a4, a5⟩ := ih (k + 1) f (sg_w τ (m + 2) (8 * R + k) (sg_nam k)) (by omega) (by omega) (by rw [sg_wga (by omega)]; exact hτ)
    have key : ∀ v, fn_X8_fresh_B69 m (fn_X8_fresh_B14 m f) τ (nI k) v ((8 * (τ.1 m 2)) + nI k) = fn_X8_fresh_B14 m f (sg_w τ (m + 2) (8 * R + k) v) (nI (k + 1)) := fun v => by
      unfold fn_X8_fresh_B69
      rw [hτ, nI_8r, if_pos (sg_ibN (by omega) (by decide)), sg_xN (by omega)]
      unfold sg_lt
      simp only []
      rw [nI_1]
    have hst : fn_X8_fresh_B14 m (f + 1) τ (nI k) = fn_X8_fresh_B14 m f (sg_w τ (m + 2) (8 * R + k) (sg_nam k)) (nI (k + 1)) := by
      show fn_X8_fresh_B14b m (fn_X8_fresh_B14 m f) τ (nI k) = _
      unfold fn_X8_fresh_B14b fn_X8_fresh_B52
      rw [if_neg (show ¬ (8 : Int32) ≤ nI k from nI_ge (b := 8) (by omega) (by decide)), key, key, key, key]
      rcases (show k = 0 ∨ k = 1 ∨ k = 2 ∨ k = 3 ∨ k = 4 ∨ k = 5 ∨ k = 6 ∨ k = 7 by omega) with rfl | rfl | rfl | rfl | rfl | rfl | rfl | rfl <;> rfl
    refine ⟨τ', hst.trans a1, fun i h1 h2 => ?_, fun z i h1 h2 h3 => ?_, a4, a5⟩
    · by_cases hik : i = k
      · subst hik
        rw [a3 _ _ (by omega) (by omega) (by omega), sg_wgs]
      · exact a2 i (by omega) h2
    · rw [a3 z i (by omega) h2 h3, sg_wg, if_neg (by omega)]
