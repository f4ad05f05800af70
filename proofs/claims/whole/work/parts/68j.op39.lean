-- ===== read: what is left behind =====
theorem RC_fr {b R r : Nat} {σ σ' : Sg} {S S' : Sh} (hok : ps_ok S) (hr : r < R) (hR : R ≤ 6) (hrS : r < S 2 0) (hrow : rc_row b σ) (hF : fR b (b + 10 + 147 * R) σ σ') (e : eq_rec S S' r) (h : rc_rec b σ S r) : rc_rec b σ' S' r := by
  refine rc_rec_g (by omega) hrow e (hok.2.2.2.1 r hrS) (fun z k h1 h2 => ?_) (fun f hf => by rw [hF.2]) h
  have h1' : b + 10 + 147 * r ≤ z := h1
  have h2' : z < b + 10 + 147 * r + 147 := h2
  exact hF.1 z k (by omega) (by omega) (by omega)
theorem RM_fr {m R r : Nat} {τ τ' : Sg} {S S' : Sh} (hok : ps_ok S) (hr : r < R) (hrS : r < S 2 0) (hG : gR m R τ τ') (e : eq_rec S S' r) (h : rm_rec m τ S r) : rm_rec m τ' S' r :=
  rm_rec_g e (hok.2.2.2.1 r hrS) (hG _ _ (by omega) (by omega) (by omega) (by omega) (by omega)) (fun i hi => hG _ _ (by omega) (by omega) (by omega) (by omega) (by omega)) (fun z f h1 h2 h3 => hG _ _ (by omega) (by omega) (by omega) (by omega) (by omega)) (fun z s h1 h2 => hG _ _ (by omega) (by omega) (by omega) (by omega) (by omega)) (fun i hi => hG _ _ (by omega) (by omega) (by omega) (by omega) (by omega)) h
theorem JJ_bad {b m R : Nat} {σ σ' τ τ' : Sg} {S : Sh} {pl p : Int32} (hok : ps_ok S) (hc : rc_all b σ S pl) (hm : rm_all m τ S pl) (hR : R = S 2 0) (hF : fR b (b + 10 + 147 * R) σ σ') (hG : gR m R τ τ') (h7 : σ'.1 (b + 1) 7 = p) (h13 : τ'.1 m 13 = p) : JJ b σ' m τ' := by
  have hn := hok.2.2.1
  refine ⟨S, p, hok, ⟨⟨?_, ?_⟩, ?_, ?_, ⟨?_, ?_⟩, h7, ?_⟩, ⟨⟨?_, ?_⟩, ?_, ?_, ⟨?_, ?_⟩, h13⟩⟩
  · rw [hF.1 _ _ (by omega) (by omega) (by omega)]; exact hc.1.1
  · intro i hi; rw [hF.1 _ _ (by omega) (by omega) (by omega)]; exact hc.1.2 i hi
  · rw [hF.1 _ _ (by omega) (by omega) (by omega)]; exact hc.2.1
  · exact fun r hr => RC_fr hok (by omega) (by omega) hr hc.2.2.2.2.2 hF eq_rec.rf (hc.2.2.1 r hr)
  · rw [hF.1 _ _ (by omega) (by omega) (by omega)]; exact hc.2.2.2.1.1
  · intro k hk; rw [hF.1 _ _ (by omega) (by omega) (by omega)]; exact hc.2.2.2.1.2 k hk
  · have := hc.2.2.2.2.2
    unfold rc_row at this ⊢
    rw [hF.2]; exact this
  · rw [hG _ _ (by omega) (by omega) (by omega) (by omega) (by omega)]; exact hm.1.1
  · intro i hi; rw [hG _ _ (by omega) (by omega) (by omega) (by omega) (by omega)]; exact hm.1.2 i hi
  · rw [hG _ _ (by omega) (by omega) (by omega) (by omega) (by omega)]; exact hm.2.1
  · exact fun r hr => RM_fr hok (by omega) hr hG eq_rec.rf (hm.2.2.1 r hr)
  · rw [hG _ _ (by omega) (by omega) (by omega) (by omega) (by omega)]; exact hm.2.2.2.1.1
  · intro k hk; rw [hG _ _ (by omega) (by omega) (by omega) (by omega) (by omega)]; exact hm.2.2.2.1.2 k hk
/-- the shelf with one more record -/
def s_nw (S0 Sx : Sh) (R n : Nat) : Sh := fun k i => if k = 2 ∧ i = 0 then R + 1 else if k = 3 ∧ 8 * R ≤ i ∧ i < 8 * R + 8 then S0 1 (ltp (i - 8 * R)) else if k = 4 ∧ i = R then n else Sx k i
theorem s_nw_o {S0 Sx : Sh} {R n k i : Nat} (h2 : ¬ (k = 2 ∧ i = 0)) (h3 : ¬ (k = 3 ∧ 8 * R ≤ i ∧ i < 8 * R + 8)) (h4 : ¬ (k = 4 ∧ i = R)) : s_nw S0 Sx R n k i = Sx k i := by unfold s_nw; rw [if_neg h2, if_neg h3, if_neg h4]
theorem s_nw_2 {S0 Sx : Sh} {R n : Nat} : s_nw S0 Sx R n 2 0 = R + 1 := if_pos ⟨rfl, rfl⟩
theorem s_nw_3 {S0 Sx : Sh} {R n i : Nat} (hi : i < 8) : s_nw S0 Sx R n 3 (8 * R + i) = S0 1 (ltp i) := by
  unfold s_nw; rw [if_neg (by omega), if_pos ⟨rfl, by omega, by omega⟩, show 8 * R + i - 8 * R = i by omega]
theorem s_nw_4 {S0 Sx : Sh} {R n : Nat} : s_nw S0 Sx R n 4 R = n := by
  unfold s_nw; rw [if_neg (by omega), if_neg (by omega), if_pos ⟨rfl, rfl⟩]
theorem s_nw_f {S0 Sx : Sh} {R n q : Nat} : eq_fld Sx (s_nw S0 Sx R n) q :=
  ⟨s_nw_o (by omega) (by omega) (by omega), s_nw_o (by omega) (by omega) (by omega), s_nw_o (by omega) (by omega) (by omega), s_nw_o (by omega) (by omega) (by omega), fun s _ => ⟨s_nw_o (by omega) (by omega) (by omega), s_nw_o (by omega) (by omega) (by omega), fun i _ => s_nw_o (by omega) (by omega) (by omega)⟩⟩
theorem s_nw_r {S0 Sx : Sh} {R n r : Nat} (hS : ∀ k i, ¬ inS R k i → Sx k i = S0 k i) (hr : r < R) : eq_rec S0 (s_nw S0 Sx R n) r := by
  have h : ∀ k i, ¬ inS R k i → ¬ (k = 2 ∧ i = 0) → ¬ (k = 3 ∧ 8 * R ≤ i ∧ i < 8 * R + 8) → ¬ (k = 4 ∧ i = R) → s_nw S0 Sx R n k i = S0 k i := fun k i h1 h2 h3 h4 => (s_nw_o h2 h3 h4).trans (hS k i h1)
  refine ⟨h _ _ (by unfold inS; omega) (by omega) (by omega) (by omega), fun i hi => h _ _ (by unfold inS; omega) (by omega) (by omega) (by omega), fun f hf => ⟨h _ _ (by unfold inS; omega) (by omega) (by omega) (by omega), h _ _ (by unfold inS; omega) (by omega) (by omega) (by omega), h _ _ (by unfold inS; omega) (by omega) (by omega) (by omega), h _ _ (by unfold inS; omega) (by omega) (by omega) (by omega), fun s hs => ⟨h _ _ (by unfold inS; omega) (by omega) (by omega) (by omega), h _ _ (by unfold inS; omega) (by omega) (by omega) (by omega), fun i hi => h _ _ (by unfold inS; omega) (by omega) (by omega) (by omega)⟩⟩⟩
theorem JJ_new {b m c R n : Nat} {σ σ5 τ τ5 τ' : Sg} {S Sx : Sh} {pl p : Int32} {ln : Nat → Nat} (hok : ps_ok S) (hc : rc_all b σ S pl) (hm : rm_all m τ S pl) (hR : R = S 2 0) (hR6 : R < 6) (hcE : c = b + 10 + 147 * R) (hn8 : n ≤ 8) (hF : fR b c σ σ5) (hG : gR m R τ τ5) (h7 : σ5.1 (b + 1) 7 = p) (h13 : τ5.1 m 13 = p) (hW : WF b c m R n σ5 τ5 Sx ln n) (hl : ∀ i, i < 8 → σ5.1 (c + 1) i = nI (S 1 (ltp i)) ∧ S 1 (ltp i) < 128) (hS : ∀ k i, ¬ inS R k i → Sx k i = S k i) (g1 : ∀ i, i < 8 → τ'.1 (m + 2) (8 * R + i) = nI (S 1 (ltp i))) (g2 : τ'.1 (m + 3) R = nI n) (g3 : τ'.1 m 2 = nI (R + 1)) (g4 : ∀ z i, ¬ (z = m + 2 ∧ 8 * R ≤ i ∧ i < 8 * R + 8) → ¬ (z = m + 3 ∧ i = R) → ¬ (z = m ∧ i = 2) → τ'.1 z i = τ5.1 z i) : JJ b (sg_w σ5 b 5 (nI (R + 1))) m τ' := by
  have hn := hok.2.2.1
  obtain ⟨S', hS'⟩ : ∃ s, s = s_nw S Sx R n := ⟨_, rfl⟩
  have hq : ∀ k i, ¬ inS R k i → ¬ (k = 2 ∧ i = 0) → ¬ (k = 3 ∧ 8 * R ≤ i ∧ i < 8 * R + 8) → ¬ (k = 4 ∧ i = R) → S' k i = S k i := fun k i h1 h2 h3 h4 => by rw [hS']; exact (s_nw_o h2 h3 h4).trans (hS k i h1)
  have e0 : S' 0 0 = S 0 0 := hq _ _ (by unfold inS; omega) (by omega) (by omega) (by omega)
  have e1 : ∀ i, S' 1 i = S 1 i := fun i => hq _ _ (by unfold inS; omega) (by omega) (by omega) (by omega)
  have e2 : S' 2 0 = R + 1 := by rw [hS']; exact s_nw_2
  have e12 : S' 12 0 = S 12 0 := hq _ _ (by unfold inS; omega) (by omega) (by omega) (by omega)
  have e13 : ∀ i, S' 13 i = S 13 i := fun i => hq _ _ (by unfold inS; omega) (by omega) (by omega) (by omega)
  have er : ∀ r, r < R → eq_rec S S' r := fun r hr => by rw [hS']; exact s_nw_r hS hr
  have e4 : S' 4 R = n := by rw [hS']; exact s_nw_4
  have e3 : ∀ i, i < 8 → S' 3 (8 * R + i) = S 1 (ltp i) := fun i hi => by rw [hS']; exact s_nw_3 hi
  have ef : ∀ f, eq_fld Sx S' (8 * R + f) := fun f => by rw [hS']; exact s_nw_f
  have hF5 : fR b c σ σ5 := hF
  have hfC : ∀ z k, z ≠ b → (sg_w σ5 b 5 (nI (R + 1))).1 z k = σ5.1 z k := fun z k h => sg_wga h
  have hrow : rc_row b (sg_w σ5 b 5 (nI (R + 1))) := by
    have := hc.2.2.2.2.2
    unfold rc_row at this ⊢
    rw [show (sg_w σ5 b 5 (nI (R + 1))).2 = σ.2 from hF.2]; exact this
  have hgM : ∀ z k, ¬ (z = m ∧ k = 2) → z ≠ m + 2 → z ≠ m + 3 → τ'.1 z k = τ5.1 z k := fun z k h1 h2 h3 => g4 z k (fun q => h2 q.1) (fun q => h3 q.1) h1
  refine ⟨S', p, ⟨?_, ?_, ?_, ?_, ?_, ?_⟩, ⟨⟨?_, ?_⟩, ?_, ?_, ⟨?_, ?_⟩, ?_, hrow⟩, ⟨⟨?_, ?_⟩, ?_, ?_, ⟨?_, ?_⟩, ?_⟩⟩
  · rw [e0]; exact hok.1
  · rw [e0]; intro i hi; rw [e1]; exact hok.2.1 i hi
  · rw [e2]; omega
  · rw [e2]
    intro r hr
    by_cases hrr : r < R
    · exact ps_rec_g (er r hrr) (hok.2.2.2.1 r (by omega))
    · have : r = R := by omega
      subst this
      unfold ps_rec
      rw [e4]
      exact ⟨hn8, fun i hi => by rw [e3 i hi]; exact (hl i hi).2, fun f hf => ps_fld_g (ef f) (hW.2.2.2.2 f hf).2.2⟩
  · rw [e12]; exact hok.2.2.2.2.1
  · rw [e12]; intro k hk; rw [e13]; exact hok.2.2.2.2.2 k hk
  · rw [e0, hfC _ _ (by omega), hF.1 _ _ (by omega) (by omega) (by omega)]; exact hc.1.1
  · rw [e0]; intro i hi; rw [e1, hfC _ _ (by omega), hF.1 _ _ (by omega) (by omega) (by omega)]; exact hc.1.2 i hi
  · rw [e2]; exact sg_wgs
  · rw [e2]
    intro r hr
    by_cases hrr : r < R
    · have h1 : rc_rec b σ5 S r := RC_fr hok hrr (by omega) (by omega) hc.2.2.2.2.2 (by rw [← hcE]; exact hF) eq_rec.rf (hc.2.2.1 r (by omega))
      have hrow5 : rc_row b σ5 := hrow
      refine rc_rec_g (by omega) hrow5 (er r hrr) (hok.2.2.2.1 r (by omega)) (fun z k h3 h4 => ?_) (fun f hf => rfl) h1
      have h3' : b + 10 + 147 * r ≤ z := h3
      exact hfC z k (by omega)
    · have : r = R := by omega
      subst this
      unfold rc_rec
      rw [e4, show ad_C b r = c from hcE.symm]
      refine ⟨by rw [hfC _ _ (by omega)]; exact hW.1, fun i hi => by rw [hfC _ _ (by omega), e3 i hi]; exact (hl i hi).1, fun f hf => ?_⟩
      obtain ⟨v1, v2, v3⟩ := hW.2.2.2.2 f hf
      obtain ⟨pa, hpa, epa⟩ := (hrow r hR6).1 f (by omega)
      have epa' : σ5.2 (c + 2) f = b + 10 + 147 * r + 3 + 18 * pa := by rw [hcE]; exact epa
      show rc_fld (sg_w σ5 b 5 (nI (r + 1))) S' (8 * r + f) (σ5.2 (c + 2) f)
      exact rc_fld_g (ef f) v3 (fun z k h3 h4 => hfC z k (by omega)) v1
  · rw [e12, hfC _ _ (by omega), hF.1 _ _ (by omega) (by omega) (by omega)]; exact hc.2.2.2.1.1
  · rw [e12]; intro k hk; rw [e13, hfC _ _ (by omega), hF.1 _ _ (by omega) (by omega) (by omega)]; exact hc.2.2.2.1.2 k hk
  · rw [hfC _ _ (by omega)]; exact h7
  · rw [e0, hgM _ _ (by omega) (by omega) (by omega), hG _ _ (by omega) (by omega) (by omega) (by omega) (by omega)]; exact hm.1.1
  · rw [e0]; intro i hi; rw [e1, hgM _ _ (by omega) (by omega) (by omega), hG _ _ (by omega) (by omega) (by omega) (by omega) (by omega)]; exact hm.1.2 i hi
  · rw [e2]; exact g3
  · rw [e2]
    intro r hr
    by_cases hrr : r < R
    · have h1 : rm_rec m τ5 S r := RM_fr hok hrr (by omega) hG eq_rec.rf (hm.2.2.1 r (by omega))
      exact rm_rec_g (er r hrr) (hok.2.2.2.1 r (by omega)) (g4 _ _ (by omega) (by omega) (by omega)) (fun i hi => g4 _ _ (by omega) (by omega) (by omega)) (fun z f h1 h2 h3 => g4 _ _ (by omega) (by omega) (by omega)) (fun z s h1 h2 => g4 _ _ (by omega) (by omega) (by omega)) (fun i hi => g4 _ _ (by omega) (by omega) (by omega)) h1
    · have : r = R := by omega
      subst this
      unfold rm_rec
      rw [e4]
      refine ⟨g2, fun i hi => by rw [e3 i hi]; exact g1 i hi, fun f hf => ?_⟩
      obtain ⟨v1, v2, v3⟩ := hW.2.2.2.2 f hf
      exact rm_fld_g (ef f) v3 (fun z h1 h2 => g4 _ _ (by omega) (by omega) (by omega)) (fun z s h1 h2 => g4 _ _ (by omega) (by omega) (by omega)) (fun i hi => g4 _ _ (by omega) (by omega) (by omega)) v2
  · rw [e12, hgM _ _ (by omega) (by omega) (by omega), hG _ _ (by omega) (by omega) (by omega) (by omega) (by omega)]; exact hm.2.2.2.1.1
  · rw [e12]; intro k hk; rw [e13, hgM _ _ (by omega) (by omega) (by omega), hG _ _ (by omega) (by omega) (by omega) (by omega) (by omega)]; exact hm.2.2.2.1.2 k hk
  · rw [hgM _ _ (by omega) (by omega) (by omega)]; exact h13
theorem lt289 {m R n : Nat} {S : Sh} (hok : ps_ok S) (hR : R < 6) (hN : 20 ≤ S 0 0) : ∀ (d k g : Nat) (τ : Sg), k + d = 8 → d < g → rm_txt m τ S → τ.1 m 2 = nI R → ∃ τ', fn_X8_read_B289 m g τ (nI R) (nI n) (nI k) = some (nI R, τ') ∧ (∀ i, k ≤ i → i < 8 → τ'.1 (m + 2) (8 * R + i) = nI (S 1 (ltp i))) ∧ τ'.1 (m + 3) R = nI n ∧ τ'.1 m 2 = nI (R + 1) ∧ ∀ z i, ¬ (z = m + 2 ∧ 8 * R + k ≤ i ∧ i < 8 * R + 8) → ¬ (z = m + 3 ∧ i = R) → ¬ (z = m ∧ i = 2) → τ'.1 z i = τ.1 z i := by
  have hn := hok.1
  intro d
  induction d with
  | zero =>
    intro k g τ hk hg hM h2
    obtain ⟨g, rfl⟩ : ∃ e, g = e + 1 := ⟨g - 1, by omega⟩
    have hk8 : k = 8 := by omega
    refine ⟨sg_w (sg_w τ (m + 3) R (nI n)) m 2 (nI (R + 1)), ?_, fun i h1 h2 => by omega, by rw [sg_wga (by omega), sg_wgs], sg_wgs, fun z i a1 a2 a3 => by rw [sg_wg, if_neg a3, sg_wg, if_neg a2]⟩
    show fn_X8_read_B289b m (fn_X8_read_B289 m g) τ (nI R) (nI n) (nI k) = _
    unfold fn_X8_read_B289b sg_lt
    simp only []
    rw [if_pos (show (8 : Int32) ≤ nI k by rw [hk8]; decide), if_pos (sg_ibN hR (by decide)), sg_xN (by omega), show (sg_w τ (m + 3) R (nI n)).1 m 2 = nI R by rw [sg_wga (by omega)]; exact h2, nI_1]
  | succ d ih =>
    intro k g τ hk hg hM h2
    obtain ⟨g, rfl⟩ : ∃ e, g = e + 1 := ⟨g - 1, by omega⟩
    have hlN : ltp k < S 0 0 := by unfold ltp; split <;> omega
    have e0 : fn_X8_read_B289 m (g + 1) τ (nI R) (nI n) (nI k) = fn_X8_read_B289 m g (sg_w τ (m + 2) (8 * R + k) (nI (S 1 (ltp k)))) (nI R) (nI n) (nI (k + 1)) := by
      show fn_X8_read_B289b m (fn_X8_read_B289 m g) τ (nI R) (nI n) (nI k) = _
      unfold fn_X8_read_B289b
      rw [if_neg (show ¬ (8 : Int32) ≤ nI k from nI_ge (b := 8) (by omega) (by decide))]
      have h329 : ∀ y, y = ltp k → fn_X8_read_B329 m (fn_X8_read_B289 m g) τ (nI R) (nI n) (nI k) (nI y) ((8 * nI R) + nI k) = fn_X8_read_B289 m g (sg_w τ (m + 2) (8 * R + k) (nI (S 1 (ltp k)))) (nI R) (nI n) (nI (k + 1)) := fun y hy => by
        unfold fn_X8_read_B329 sg_lt
        simp only []
        rw [hy, if_pos (sg_ibN (by omega) (by decide)), nI_8r, if_pos (sg_ibN (by omega) (by decide)), sg_xN (by omega), sg_xN (by omega), hM.2 _ hlN, nI_1]
      by_cases q : k < 5
      · rw [if_neg (show ¬ (5 : Int32) ≤ nI k from nI_ge (b := 5) q (by decide)), show (5 : Int32) + nI k = nI (5 + k) from nI_add 5 k]
        exact h329 _ (by unfold ltp; rw [if_pos q])
      · rw [if_pos (show (5 : Int32) ≤ nI k from nI_le (a := 5) (by omega) (by omega)), show (12 : Int32) + nI k = nI (12 + k) from nI_add 12 k]
        exact h329 _ (by unfold ltp; rw [if_neg q])
    obtain ⟨τ', c1, c2, c3, c4, c5⟩ := ih (k + 1) g (sg_w τ (m + 2) (8 * R + k) (nI (S 1 (ltp k)))) (by omega) (by omega) ⟨by rw [sg_wga (by omega)]; exact hM.1, fun i hi => by rw [sg_wga (by omega)]; exact hM.2 i hi⟩ (by rw [sg_wga (by omega)]; exact h2)
    refine ⟨τ', by rw [e0]; exact c1, fun i h1 h3 => ?_, c3, c4, fun z i a1 a2 a3 => by rw [c5 z i (by omega) a2 a3, sg_wg, if_neg (by omega)]⟩
    by_cases e : i = k
    · rw [e, c5 _ _ (by omega) (by omega) (by omega), sg_wgs]
    · exact c2 i (by omega) h3
