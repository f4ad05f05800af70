-- ===== read: the fields =====
def inS (R k i : Nat) : Prop := (5 ≤ k ∧ k ≤ 8 ∧ 8 * R ≤ i ∧ i < 8 * R + 8) ∨ ((k = 9 ∨ k = 10) ∧ 32 * R ≤ i ∧ i < 32 * R + 32) ∨ (k = 11 ∧ 640 * R ≤ i ∧ i < 640 * R + 640)
def WF (b c m R n : Nat) (σ τ : Sg) (S : Sh) (ln : Nat → Nat) (f : Nat) : Prop := σ.1 c 2 = nI n ∧ (∀ i, i < n → σ.1 (b + 4) i = nI (ln i) ∧ τ.1 (m + 11) i = nI (ln i)) ∧ (∀ i, i < n → 1 ≤ S 5 (8 * R + i) ∧ S 5 (8 * R + i) ≤ 999 ∧ (if S 5 (8 * R + i) < 10 then 1 else 2) ≤ ln i ∧ ln i < 10000) ∧ (∀ i, f ≤ i → i < n → σ.1 (σ.2 (c + 2) i) 1 = nI 0 ∧ σ.1 (σ.2 (c + 2) i) 2 = nI (S 5 (8 * R + i)) ∧ σ.1 (σ.2 (c + 2) i) 3 = nI 0 ∧ σ.1 (σ.2 (c + 2) i) 4 = nI 0 ∧ τ.1 (m + 4) (8 * R + i) = nI (S 5 (8 * R + i))) ∧ (∀ i, i < f → rc_fld σ S (8 * R + i) (σ.2 (c + 2) i) ∧ rm_fld m τ S (8 * R + i) ∧ ps_fld S (8 * R + i))
theorem smn_mo {ln : Nat → Nat} {f : Nat} : ∀ d, smn ln f ≤ smn ln (f + d)
  | 0 => Nat.le_refl _
  | d + 1 => Nat.le_trans (smn_mo d) (Nat.le_add_right _ _)
theorem WF_st {b c m R n f a : Nat} {σ τ σ' τ' : Sg} {S S' : Sh} {ln : Nat → Nat} (hc : b + 10 ≤ c) (hR : R < 6) (hn8 : n ≤ 8) (hf : f < n) (hrw : rwC c σ) (ha : σ.2 (c + 2) f = a) (h : WF b c m R n σ τ S ln f) (hC : rc_fld σ' S' (8 * R + f) a) (hM : rm_fld m τ' S' (8 * R + f)) (hp : ps_fld S' (8 * R + f)) (hst : fSt m (8 * R + f) a σ τ S σ' τ' S') : WF b c m R n σ' τ' S' ln (f + 1) := by
  obtain ⟨w1, w2, w3, w4, w5⟩ := h
  obtain ⟨s1, s2, s3, s4, s5⟩ := hst
  obtain ⟨pa, hpa, epa⟩ := hrw.1 f (by omega)
  have hS5 : ∀ i, i < 8 → S' 5 (8 * R + i) = S 5 (8 * R + i) := fun i hi => by
    by_cases e : i = f
    · rw [e]; exact s5
    · exact s4 _ _ (by unfold in_S; omega)
  have hne : ∀ i, i < 8 → i ≠ f → ∃ p, σ.2 (c + 2) i = c + 3 + 18 * p ∧ p ≠ pa ∧ p < 8 := fun i hi e => by
    obtain ⟨p, hp, ep⟩ := hrw.1 i hi
    exact ⟨p, ep, fun q => e (hrw.2 i f hi (by omega) (by omega)), hp⟩
  refine ⟨by rw [s1 _ _ (by omega)]; exact w1, fun i hi => ?_, fun i hi => ?_, fun i h1 h2 => ?_, fun i hi => ?_⟩
  · rw [s1 _ _ (by omega), s3 _ _ (by unfold in_M; omega)]; exact w2 i hi
  · rw [hS5 i (by omega)]; exact w3 i hi
  · obtain ⟨p, ep, hp1, hp2⟩ := hne i (by omega) (by omega)
    rw [s2, hS5 i (by omega), s1 _ _ (by omega), s1 _ _ (by omega), s1 _ _ (by omega), s1 _ _ (by omega), s3 _ _ (by unfold in_M; omega)]
    exact w4 i (by omega) h2
  · rw [s2]
    by_cases e : i = f
    · rw [e, ha]; exact ⟨hC, hM, hp⟩
    · obtain ⟨p, ep, hp1, hp2⟩ := hne i (by omega) e
      obtain ⟨v1, v2, v3⟩ := w5 i (by omega)
      have eq := eqf_o (S := S) (S' := S') (q := 8 * R + f) (p := 8 * R + i) s4 (by omega)
      refine ⟨rc_fld_g eq v3 (fun z k g1 g2 => s1 z k (by omega)) v1, rm_fld_g eq v3 (fun z g1 g2 => s3 z _ (by unfold in_M; omega)) (fun z s g1 g2 => s3 z _ (by unfold in_M; omega)) (fun j hj => s3 _ _ (by unfold in_M; omega)) v2, ps_fld_g eq v3⟩
theorem fdG {b m c R n : Nat} {S0 : Sh} {ln : Nat → Nat} (hok : ps_ok S0) (hc : b + 10 ≤ c) (hR : R < 6) (hn8 : n ≤ 8) (htot : 25 + 12 * n + smn ln n + 1 = S0 0 0) : ∀ (d f g g' : Nat) (σ τ : Sg) (S : Sh), f + d = n → d < g → d + 1 < g' → rwC c σ → rc_txt b σ S0 → rm_txt m τ S0 → τ.1 m 12 = 0 → WF b c m R n σ τ S ln f → (∃ v p, v ≠ 0 ∧ FX b c σ v p (fn_X4_takeFields_B7 b g σ c (nI (25 + 12 * n + smn ln f)) (nI f)) ∧ RX m R τ v p (fn_X8_read_B148 m g' τ (nI R) (nI n) (nI (25 + 12 * n + smn ln f)) (nI f))) ∨ (∃ σ' τ' S', fn_X4_takeFields_B7 b g σ c (nI (25 + 12 * n + smn ln f)) (nI f) = some (1, σ') ∧ fn_X8_read_B148 m g' τ (nI R) (nI n) (nI (25 + 12 * n + smn ln f)) (nI f) = fn_X8_read_B239 m τ' (nI R) (nI n) ∧ τ'.1 m 12 = 0 ∧ WF b c m R n σ' τ' S' ln n ∧ (∀ i, σ'.1 (c + 1) i = σ.1 (c + 1) i) ∧ fR b c σ σ' ∧ gR m R τ τ' ∧ (∀ k i, ¬ inS R k i → S' k i = S k i) ∧ σ'.1 (b + 1) 7 = σ.1 (b + 1) 7 ∧ τ'.1 m 13 = τ.1 m 13) := by
  have hn := hok.1
  intro d
  induction d with
  | zero =>
    intro f g g' σ τ S hf hg hg' hrw hC hM h0 hW
    obtain ⟨g, rfl⟩ : ∃ e, g = e + 1 := ⟨g - 1, by omega⟩
    obtain ⟨g', rfl⟩ : ∃ e, g' = e + 1 := ⟨g' - 1, by omega⟩
    have hfn : f = n := by omega
    subst hfn
    refine Or.inr ⟨σ, τ, S, ?_, ?_, h0, hW, fun _ => rfl, fR.rf, gR.rf, fun _ _ _ => rfl, rfl, rfl⟩
    · show fn_X4_takeFields_B7b b (fn_X4_takeFields_B7 b g) σ c _ (nI f) = _
      unfold fn_X4_takeFields_B7b
      rw [hW.1, if_pos (nI_le (Nat.le_refl _) (by omega))]
    · show fn_X8_read_B148b m (fn_X8_read_B148 m g') τ (nI R) (nI f) _ (nI f) = _
      unfold fn_X8_read_B148b
      rw [if_pos (nI_le (Nat.le_refl _) (by omega))]
  | succ d ih =>
    intro f g g' σ τ S hf hg hg' hrw hC hM h0 hW
    obtain ⟨g, rfl⟩ : ∃ e, g = e + 1 := ⟨g - 1, by omega⟩
    obtain ⟨g', rfl⟩ : ∃ e, g' = e + 2 := ⟨g' - 2, by omega⟩
    have hfn : f < n := by omega
    obtain ⟨a, ha⟩ : ∃ z, σ.2 (c + 2) f = z := ⟨_, rfl⟩
    obtain ⟨pa, hpa, epa⟩ := hrw.1 f (by omega)
    have hap : a = c + 3 + 18 * pa := by rw [← ha]; exact epa
    obtain ⟨w1, w2, w3, w4, w5⟩ := hW
    obtain ⟨l1, l2⟩ := w2 f hfn
    obtain ⟨t1, t2, t3, t4⟩ := w3 f hfn
    obtain ⟨k1, k2, k3, k4, k5⟩ := w4 f (Nat.le_refl f) hfn
    rw [ha] at k1 k2 k3 k4
    have hsm : smn ln (f + 1) ≤ smn ln n := by have := smn_mo (ln := ln) (f := f + 1) d; rwa [show f + 1 + d = n by omega] at this
    have hsf : smn ln (f + 1) = smn ln f + ln f := rfl
    have hl1 : 1 ≤ ln f := by
      by_cases e : S 5 (8 * R + f) < 10
      · rw [if_pos e] at t3; exact t3
      · rw [if_neg e] at t3; omega
    obtain ⟨A, hA⟩ : ∃ z, z = 25 + 12 * n + smn ln f := ⟨_, rfl⟩
    have hA1 : 25 + 12 * n + smn ln (f + 1) = A + ln f := by omega
    rw [← hA]
    have hAN : A + ln f ≤ S0 0 0 := by omega
    -- what each side does
    have eC : fn_X4_takeFields_B7 b (g + 1) σ c (nI A) (nI f) = (if S 5 (8 * R + f) < 10 then (fn_X4_takeSimple b σ a (nI A) (nI (A + ln f - 1))) else (fn_X4_takeDivided b σ a (nI A) (nI (A + ln f - 1)))).bind (fun r => if r.1 = 0 then some (0, r.2) else fn_X4_takeFields_B7 b g r.2 c (nI (A + ln f)) (nI (f + 1))) := by
      show fn_X4_takeFields_B7b b (fn_X4_takeFields_B7 b g) σ c (nI A) (nI f) = _
      unfold fn_X4_takeFields_B7b fn_X4_takeFields_B64 fn_X1_isSimple sg_lt
      simp only []
      rw [w1, if_neg (nI_ge hfn (by omega)), if_pos (sg_ibN (by omega) (by decide)), if_pos (sg_ibN (by omega) (by decide)), sg_xN (by omega), l1, nI_add, show nI (A + ln f) - 1 = nI (A + ln f - 1) from s_sub (b := 1) (by omega), ha, k2, nI_1, nI_1, show A + ln f - 1 + 1 = A + ln f by omega]
      by_cases e : S 5 (8 * R + f) < 10
      · rw [if_pos e, if_neg (show ¬ (10 : Int32) ≤ nI (S 5 (8 * R + f)) from nI_ge (b := 10) e (by decide)), Option.bind_some, if_neg (show ¬ (1 : Int32) = 0 by decide)]
      · rw [if_neg e, if_pos (show (10 : Int32) ≤ nI (S 5 (8 * R + f)) from nI_le (a := 10) (by omega) (by omega)), Option.bind_some, if_pos rfl]
    have eM : fn_X8_read_B148 m (g' + 2) τ (nI R) (nI n) (nI A) (nI f) = (if S 5 (8 * R + f) < 10 then (fn_X8_readSimple m τ (nI (8 * R + f)) (nI A) (nI (ln f))) else (fn_X8_readField m τ (nI (8 * R + f)) (nI A) (nI (ln f)))).bind (fun r => fn_X8_read_B148 m (g' + 1) r (nI R) (nI n) (nI A + r.1 (m + 11) f) (nI (f + 1))) := by
      show fn_X8_read_B148b m (fn_X8_read_B148 m (g' + 1)) τ (nI R) (nI n) (nI A) (nI f) = _
      unfold fn_X8_read_B148b fn_X8_read_B221 sg_lt
      simp only []
      rw [if_neg (nI_ge hfn (by omega)), if_pos h0, nI_8r, if_pos (sg_ibN (show 8 * R + f < 48 by omega) (by decide)), sg_xN (show 8 * R + f < 2 ^ 31 by omega), k5, if_pos (sg_ibN (show f < 8 by omega) (by decide)), sg_xN (show f < 2 ^ 31 by omega), l2, nI_1]
      by_cases e : S 5 (8 * R + f) < 10
      · rw [if_pos e, if_neg (show ¬ (10 : Int32) ≤ nI (S 5 (8 * R + f)) from nI_ge (b := 10) e (by decide)), if_pos (sg_ibN (show f < 8 by omega) (by decide))]
        congr 1
        funext r
        rw [if_pos (sg_ibN (show f < 8 by omega) (by decide))]
      · rw [if_neg e, if_pos (show (10 : Int32) ≤ nI (S 5 (8 * R + f)) from nI_le (a := 10) (by omega) (by omega))]
        congr 1
        funext r
        rw [if_pos (sg_ibN (show f < 8 by omega) (by decide))]
    have hOX : OX b m (8 * R + f) a σ τ S (if S 5 (8 * R + f) < 10 then (fn_X4_takeSimple b σ a (nI A) (nI (A + ln f - 1))) else (fn_X4_takeDivided b σ a (nI A) (nI (A + ln f - 1)))) (if S 5 (8 * R + f) < 10 then (fn_X8_readSimple m τ (nI (8 * R + f)) (nI A) (nI (ln f))) else (fn_X8_readField m τ (nI (8 * R + f)) (nI A) (nI (ln f)))) := by
      by_cases e : S 5 (8 * R + f) < 10
      · rw [if_pos e, if_pos e]
        exact siX hok (by omega) (by omega) hl1 hAN hC hM h0 ⟨t1, t2⟩ e k1 k2 k3 k4 k5
      · rw [if_neg e, if_neg e]
        rw [if_neg e] at t3
        exact dvX hok (by omega) (by omega) t3 hAN hC hM h0 ⟨t1, t2⟩ (by omega) k1 k2 k5
    rw [eC, eM]
    rcases hOX with ⟨v, p, σ', τ', a1, a2, a3, a4, a5, a6, a7, a8, a9, a10⟩ | ⟨σ1, τ1, S1, a1, a2, a3, a4, a5, a6⟩
    · left
      rw [a2, a7, Option.bind_some, Option.bind_some]
      exact ⟨v, p, a1, ⟨σ', rfl, a3, a4, ⟨fun z k q1 q2 q3 => a5 z k q1 (by omega), a6⟩⟩, ⟨τ', rf148 a8 a1, a9, fun z k q1 q2 q3 q4 q5 => a10 z k q1 (by unfold in_M; omega)⟩⟩
    · rw [a1, a2, Option.bind_some, Option.bind_some, if_neg (show ¬ (1 : Int32) = 0 by decide)]
      have hW1 := WF_st hc hR hn8 hfn hrw ha ⟨w1, w2, w3, w4, w5⟩ a3 a4 a5 a6
      have F1 : fR b c σ σ1 := ⟨fun z k q1 q2 q3 => a6.1 z k (by omega), a6.2.1⟩
      have G1 : gR m R τ τ1 := fun z k q1 q2 q3 q4 q5 => a6.2.2.1 z k (by unfold in_M; omega)
      have hrw1 : rwC c σ1 := by unfold rwC at hrw ⊢; rw [a6.2.1]; exact hrw
      rw [(hW1.2.1 f hfn).2, nI_add]
      have hih := ih (f + 1) g (g' + 1) σ1 τ1 S1 (by omega) (by omega) (by omega) hrw1 (fR_t hc F1 hC) (gR_t G1 hM) (fSt_0 a6 h0) hW1
      rw [hA1] at hih
      rcases hih with ⟨v, p, hv, ⟨σ', u1, u2, u3, u4⟩, ⟨τ', y1, y2, y3⟩⟩ | ⟨σ', τ', S', u1, u2, u3, u4, u5, u6, u7, u8, u9, u10⟩
      · exact Or.inl ⟨v, p, hv, ⟨σ', u1, u2, u3, F1.tr u4⟩, ⟨τ', y1, y2, G1.tr y3⟩⟩
      · exact Or.inr ⟨σ', τ', S', u1, u2, u3, u4, fun i => by rw [u5 i, a6.1 _ _ (by omega)], F1.tr u6, G1.tr u7, fun k i hk => by rw [u8 k i hk, a6.2.2.2.1 k i (by unfold in_S; unfold inS at hk; omega)], by rw [u9, a6.1 _ _ (by omega)], by rw [u10, a6.2.2.1 _ _ (by unfold in_M; omega)]⟩
