-- ===== read: after a fault the reference comes to its end =====
def RX (m R : Nat) (τ : Sg) (v p : Int32) (x : Option (Int32 × Sg)) : Prop := ∃ τ', x = some (v, τ') ∧ τ'.1 m 13 = p ∧ gR m R τ τ'
section RF
variable {m : Nat} {τ : Sg} {v x1 x2 x3 x4 x5 x6 : Int32}
theorem rf274 (h : τ.1 m 12 = v) (hv : v ≠ 0) : fn_X8_read_B274 m τ x1 x2 = some (v, τ) := by
  unfold fn_X8_read_B274
  rw [h, if_neg hv]
theorem rf239 (h : τ.1 m 12 = v) (hv : v ≠ 0) : fn_X8_read_B239 m τ x1 x2 = some (v, τ) := by
  unfold fn_X8_read_B239
  rw [h, if_neg hv]; exact rf274 h hv
theorem rf148 {g : Nat} (h : τ.1 m 12 = v) (hv : v ≠ 0) : fn_X8_read_B148 m (g + 1) τ x1 x2 x5 x6 = some (v, τ) := by
  show fn_X8_read_B148b m (fn_X8_read_B148 m g) τ x1 x2 x5 x6 = _
  unfold fn_X8_read_B148b
  rw [h, if_neg hv]
  by_cases q : x2 ≤ x6
  · rw [if_pos q]; exact rf239 h hv
  · rw [if_neg q]; exact rf239 h hv
theorem rf142 (h : τ.1 m 12 = v) (hv : v ≠ 0) : fn_X8_read_B142 m τ x1 x2 x3 = some (v, τ) := rf148 (g := 999) h hv
theorem rf115 (h : τ.1 m 12 = v) (hv : v ≠ 0) : fn_X8_read_B115 m τ x1 x2 x3 x4 = some (v, τ) := by
  unfold fn_X8_read_B115
  rw [h, if_neg hv]; exact rf142 h hv
theorem rf86 (h : τ.1 m 12 = v) (hv : v ≠ 0) : fn_X8_read_B86 m τ x1 x2 x3 x4 = some (v, τ) := by
  unfold fn_X8_read_B86
  rw [h, if_neg hv]; exact rf115 h hv
theorem rf46 {g : Nat} (h : τ.1 m 12 = v) (hv : v ≠ 0) : fn_X8_read_B46 m (g + 1) τ x1 x2 x3 x4 x5 = some (v, τ) := by
  show fn_X8_read_B46b m (fn_X8_read_B46 m g) τ x1 x2 x3 x4 x5 = _
  unfold fn_X8_read_B46b
  rw [h, if_neg hv]
  by_cases q : x2 ≤ x5
  · rw [if_pos q]; exact rf86 h hv
  · rw [if_neg q]; exact rf86 h hv
end RF
-- ===== read: the directory =====
/-- tags and lengths of the first f entries -/
def DR (b c m R : Nat) (σ τ : Sg) (tg ln : Nat → Nat) (f st : Nat) : Prop := σ.1 c 2 = nI f ∧ σ.1 (b + 1) 4 = nI st ∧ (∀ i, i < f → σ.1 (σ.2 (c + 2) i) 1 = nI 0 ∧ σ.1 (σ.2 (c + 2) i) 2 = nI (tg i) ∧ σ.1 (σ.2 (c + 2) i) 3 = nI 0 ∧ σ.1 (σ.2 (c + 2) i) 4 = nI 0 ∧ σ.1 (b + 4) i = nI (ln i)) ∧ (∀ i, i < f → τ.1 (m + 4) (8 * R + i) = nI (tg i) ∧ τ.1 (m + 11) i = nI (ln i)) ∧ (∀ i, i < f → 1 ≤ tg i ∧ tg i ≤ 999 ∧ (if tg i < 10 then 1 else 2) ≤ ln i ∧ ln i < 10000)
def smn (ln : Nat → Nat) : Nat → Nat
  | 0 => 0
  | k + 1 => smn ln k + ln k
theorem smn_g {ln ln' : Nat → Nat} : ∀ k, (∀ i, i < k → ln' i = ln i) → smn ln' k = smn ln k
  | 0, _ => rfl
  | k + 1, h => by
    show smn ln' k + ln' k = smn ln k + ln k
    rw [smn_g k (fun i hi => h i (by omega)), h k (by omega)]
theorem smn_le {ln : Nat → Nat} : ∀ k, (∀ i, i < k → ln i < 10000) → smn ln k ≤ 10000 * k
  | 0, _ => Nat.le_refl 0
  | k + 1, h => by
    have h1 := smn_le k (fun i hi => h i (by omega))
    have h2 := h k (by omega)
    show smn ln k + ln k ≤ 10000 * (k + 1)
    omega
/-- the card's row of fields: eight places, each once -/
def rwC (c : Nat) (σ : Sg) : Prop := (∀ i, i < 8 → ∃ p, p < 8 ∧ σ.2 (c + 2) i = c + 3 + 18 * p) ∧ ∀ i j, i < 8 → j < 8 → σ.2 (c + 2) i = σ.2 (c + 2) j → i = j
theorem drG {b m c R n : Nat} {S : Sh} (hok : ps_ok S) (hc : b + 10 ≤ c) (hR : R < 6) (hn8 : n ≤ 8) (hbN : 25 + 12 * n < S 0 0) : ∀ (d f g g' : Nat) (σ τ : Sg) (tg ln : Nat → Nat), f + d = n → d < g → d + 1 < g' → rwC c σ → rc_txt b σ S → rm_txt m τ S → τ.1 m 12 = 0 → σ.1 (b + 1) 2 = nI (25 + 12 * n) → σ.1 (b + 1) 3 = nI n → DR b c m R σ τ tg ln f (smn ln f) → (∃ v p, v ≠ 0 ∧ FX b c σ v p (fn_X4_takeDirectory_B7 b g σ c (nI f)) ∧ RX m R τ v p (fn_X8_read_B46 m g' τ (nI R) (nI n) (nI (25 + 12 * n)) (nI (smn ln f)) (nI f))) ∨ (∃ σ' τ' tg' ln', fn_X4_takeDirectory_B7 b g σ c (nI f) = some (1, σ') ∧ fn_X8_read_B46 m g' τ (nI R) (nI n) (nI (25 + 12 * n)) (nI (smn ln f)) (nI f) = fn_X8_read_B115 m τ' (nI R) (nI n) (nI (25 + 12 * n)) (nI (smn ln' n)) ∧ τ'.1 m 12 = 0 ∧ σ'.1 (b + 1) 2 = nI (25 + 12 * n) ∧ DR b c m R σ' τ' tg' ln' n (smn ln' n) ∧ (∀ i, σ'.1 (c + 1) i = σ.1 (c + 1) i) ∧ fR b c σ σ' ∧ gR m R τ τ' ∧ σ'.1 (b + 1) 7 = σ.1 (b + 1) 7 ∧ τ'.1 m 13 = τ.1 m 13) := by
  have hn := hok.1
  intro d
  induction d with
  | zero =>
    intro f g g' σ τ tg ln hf hg hg' hrw hC hM h0 h2 h3 hD
    obtain ⟨g, rfl⟩ : ∃ e, g = e + 1 := ⟨g - 1, by omega⟩
    obtain ⟨g', rfl⟩ : ∃ e, g' = e + 1 := ⟨g' - 1, by omega⟩
    have hfn : f = n := by omega
    have hb1 : 25 + 12 * n - 1 < S 0 0 := by omega
    have h128 := hok.2.1 _ hb1
    have e1 : fn_X6_codeAt b σ (σ.1 (b + 1) 2 - 1) = some (nI (S 1 (25 + 12 * n - 1))) := by
      rw [h2, show nI (25 + 12 * n) - 1 = nI (25 + 12 * n - 1) from s_sub (b := 1) (by omega), cdA hC hn (by omega)]
      exact congrArg some (if_pos hb1)
    have eC : fn_X4_takeDirectory_B7 b (g + 1) σ c (nI f) = if nI (S 1 (25 + 12 * n - 1)) = 30 then some (1, σ) else some (0, mte b σ (-4) (nI (25 + 12 * n - 1))) := by
      show fn_X4_takeDirectory_B7b b (fn_X4_takeDirectory_B7 b g) σ c (nI f) = _
      unfold fn_X4_takeDirectory_B7b fn_X4_takeDirectory_B65
      rw [h3, if_pos (nI_le (by omega) (by omega)), e1, Option.bind_some, h2, show nI (25 + 12 * n) - 1 = nI (25 + 12 * n - 1) from s_sub (b := 1) (by omega)]
      rfl
    have eM : fn_X8_read_B46 m (g' + 1) τ (nI R) (nI n) (nI (25 + 12 * n)) (nI (smn ln f)) (nI f) = if nI (S 1 (25 + 12 * n - 1)) = 30 then fn_X8_read_B115 m τ (nI R) (nI n) (nI (25 + 12 * n)) (nI (smn ln f)) else fn_X8_read_B115 m (mtM m τ (-4) (nI (25 + 12 * n - 1))) (nI R) (nI n) (nI (25 + 12 * n)) (nI (smn ln f)) := by
      show fn_X8_read_B46b m (fn_X8_read_B46 m g') τ (nI R) (nI n) (nI (25 + 12 * n)) (nI (smn ln f)) (nI f) = _
      unfold fn_X8_read_B46b fn_X8_read_B86
      rw [if_pos (nI_le (by omega) (by omega)), if_pos h0, show nI (25 + 12 * n) - 1 = nI (25 + 12 * n - 1) from s_sub (b := 1) (by omega), if_pos (sg_ibN (by omega) (by decide)), sg_xN (by omega), hM.2 _ hb1, flM0 h0]
      rfl
    rw [eC, eM]
    by_cases q : nI (S 1 (25 + 12 * n - 1)) = 30
    · rw [if_pos q, if_pos q]
      rw [hfn] at hD ⊢
      exact Or.inr ⟨σ, τ, tg, ln, rfl, rfl, h0, h2, hD, fun _ => rfl, fR.rf, gR.rf, rfl, rfl⟩
    · rw [if_neg q, if_neg q]
      refine Or.inl ⟨-4, nI (25 + 12 * n - 1), by decide, ⟨_, rfl, mte_6, mte_7, ⟨fun z k q1 _ _ => mte_o q1, rfl⟩⟩, ⟨_, rf115 mtM_12 (by decide), mtM_13, gR_mt⟩⟩
  | succ d ih =>
    intro f g g' σ τ tg ln hf hg hg' hrw hC hM h0 h2 h3 hD
    obtain ⟨g, rfl⟩ : ∃ e, g = e + 1 := ⟨g - 1, by omega⟩
    obtain ⟨g', rfl⟩ : ∃ e, g' = e + 2 := ⟨g' - 2, by omega⟩
    obtain ⟨D1, D2, D3, D4, D5⟩ := hD
    have hsm := smn_le (ln := ln) f (fun i hi => (D5 i hi).2.2.2)
    obtain ⟨pa, hpa, epa⟩ := hrw.1 f (by omega)
    have eC : fn_X4_takeDirectory_B7 b (g + 1) σ c (nI f) = ((fn_X4_takeEntry b σ c (nI f)).bind fun r3 => (if r3.1 = 0 then some (0, r3.2) else fn_X4_takeDirectory_B7 b g r3.2 c (nI (f + 1)))) := by
      show fn_X4_takeDirectory_B7b b (fn_X4_takeDirectory_B7 b g) σ c (nI f) = _
      unfold fn_X4_takeDirectory_B7b
      rw [h3, if_neg (nI_ge (by omega) (by omega))]
      unfold sg_lt
      simp only []
      rw [nI_1]
    have eM : fn_X8_read_B46 m (g' + 2) τ (nI R) (nI n) (nI (25 + 12 * n)) (nI (smn ln f)) (nI f) = ((fn_X8_readEntry m τ (nI R) (nI f) (nI (smn ln f))).bind fun r1 => fn_X8_read_B46 m (g' + 1) r1 (nI R) (nI n) (nI (25 + 12 * n)) (nI (smn ln f) + (r1.1 (m + 11) f)) (nI (f + 1))) := by
      show fn_X8_read_B46b m (fn_X8_read_B46 m (g' + 1)) τ (nI R) (nI n) (nI (25 + 12 * n)) (nI (smn ln f)) (nI f) = _
      unfold fn_X8_read_B46b
      rw [if_neg (nI_ge (by omega) (by omega)), if_pos h0]
      unfold sg_lt
      simp only []
      rw [nI_1]
      congr 1
      funext r1
      rw [if_pos (sg_ibN (by omega) (by decide)), sg_xN (by omega)]
    rw [eC, eM]
    rcases ent (a := σ.2 (c + 2) f) hok hC hM h0 hc hR (show f < 8 by omega) (by omega) D1 rfl (by omega) (by omega) D2 (by omega) with ⟨p, ⟨σ', x1, x2, x3, x4⟩, ⟨τ', y1, y2, y3, y4⟩⟩ | ⟨σ1, τ1, tag, L, x1, y1, x2, y2, t1, t2, t3, t4⟩
    · left
      rw [x1, y1, Option.bind_some, Option.bind_some]
      exact ⟨-4, p, by decide, ⟨σ', rfl, x2, x3, x4⟩, ⟨τ', rf46 y2 (by decide), y3, y4⟩⟩
    · rw [x1, y1, Option.bind_some, Option.bind_some]
      obtain ⟨z1, z2, z3, z4, z5, z6, z7, z8, z9⟩ := x2
      have F1 : fR b c σ σ1 := ⟨fun z k q1 q2 q3 => z8 z k (by omega) (by omega) (by omega) (by omega), z9⟩
      have G1 : gR m R τ τ1 := fun z k q1 q2 q3 q4 q5 => by rw [y2, sg_wga q2, sg_wg, if_neg (by omega)]
      have hrw1 : rwC c σ1 := by unfold rwC at hrw ⊢; rw [z9]; exact hrw
      obtain ⟨tg', htg⟩ : ∃ t : Nat → Nat, t = fun x => if x = f then tag else tg x := ⟨_, rfl⟩
      obtain ⟨ln', hln⟩ : ∃ t : Nat → Nat, t = fun x => if x = f then L else ln x := ⟨_, rfl⟩
      have tgf : tg' f = tag := by rw [htg]; exact if_pos rfl
      have lnf : ln' f = L := by rw [hln]; exact if_pos rfl
      have tgo : ∀ i, i ≠ f → tg' i = tg i := fun i hi => by rw [htg]; exact if_neg hi
      have lno : ∀ i, i ≠ f → ln' i = ln i := fun i hi => by rw [hln]; exact if_neg hi
      have hsm1 : smn ln' (f + 1) = smn ln f + L := by
        show smn ln' f + ln' f = _
        rw [smn_g f (fun i hi => lno i (by omega)), lnf]
      have hL : τ1.1 (m + 11) f = nI L := by rw [y2, sg_wgs]
      have hD1 : DR b c m R σ1 τ1 tg' ln' (f + 1) (smn ln' (f + 1)) := by
        refine ⟨z5, by rw [hsm1]; exact z7, fun i hi => ?_, fun i hi => ?_, fun i hi => ?_⟩
        · rw [z9]
          by_cases e : i = f
          · rw [e, tgf, lnf]; exact ⟨z1, z2, z3, z4, z6⟩
          · have hne : σ.2 (c + 2) i ≠ σ.2 (c + 2) f := fun q => e (hrw.2 i f (by omega) (by omega) q)
            obtain ⟨pi', hpi, epi⟩ := hrw.1 i (by omega)
            obtain ⟨w1, w2, w3, w4, w5⟩ := D3 i (by omega)
            have hz : ∀ k, σ1.1 (σ.2 (c + 2) i) k = σ.1 (σ.2 (c + 2) i) k := fun k => z8 _ k hne (by omega) (by omega) (by omega)
            rw [tgo i e, lno i e, hz, hz, hz, hz, z8 (b + 4) i (by omega) (by omega) (by omega) (by omega)]
            exact ⟨w1, w2, w3, w4, w5⟩
        · rw [y2]
          by_cases e : i = f
          · rw [e, tgf, lnf, sg_wga (by omega), sg_wgs, sg_wgs]; exact ⟨rfl, rfl⟩
          · rw [tgo i e, lno i e, sg_wga (by omega), sg_wgk (by omega), sg_wgk (by omega), sg_wga (by omega)]
            exact D4 i (by omega)
        · by_cases e : i = f
          · rw [e, tgf, lnf]; exact ⟨t1, t2, t3, t4⟩
          · rw [tgo i e, lno i e]; exact D5 i (by omega)
      rw [if_neg (show ¬ (1 : Int32) = 0 by decide), hL, nI_add, ← hsm1]
      rcases ih (f + 1) g (g' + 1) σ1 τ1 tg' ln' (by omega) (by omega) (by omega) hrw1 (fR_t hc F1 hC) (gR_t G1 hM) (by rw [y2, sg_wga (by omega), sg_wga (by omega)]; exact h0) (by rw [z8 _ _ (by omega) (by omega) (by omega) (by omega)]; exact h2) (by rw [z8 _ _ (by omega) (by omega) (by omega) (by omega)]; exact h3) hD1 with ⟨v, p, hv, ⟨σ', u1, u2, u3, u4⟩, ⟨τ', w1, w2, w3⟩⟩ | ⟨σ', τ', tg2, ln2, u1, u2, u3, u4, u5, u6, u7, u8, u9, u10⟩
      · exact Or.inl ⟨v, p, hv, ⟨σ', u1, u2, u3, F1.tr u4⟩, ⟨τ', w1, w2, G1.tr w3⟩⟩
      · exact Or.inr ⟨σ', τ', tg2, ln2, u1, u2, u3, u4, u5, fun i => by rw [u6 i, z8 _ _ (by omega) (by omega) (by omega) (by omega)], F1.tr u7, G1.tr u8, by rw [u9, z8 _ _ (by omega) (by omega) (by omega) (by omega)], by rw [u10, y2, sg_wga (by omega), sg_wga (by omega)]⟩
