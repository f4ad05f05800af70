-- ===== read: a field in the making =====
def pf (S : Sh) (q : Nat) : Prop := 1 ≤ S 5 q ∧ S 5 q ≤ 999 ∧ S 6 q < 128 ∧ S 7 q < 128 ∧ S 8 q ≤ 4 ∧ ∀ s, s < S 8 q → ps_sub S (4 * q + s)
theorem pf_ps {S : Sh} {q : Nat} (h : pf S q) (h1 : 1 ≤ S 8 q) (h2 : S 5 q < 10 → S 8 q = 1) : ps_fld S q := ⟨h.1, h.2.1, h.2.2.1, h.2.2.2.1, h1, h.2.2.2.2.1, h2, h.2.2.2.2.2⟩
def FMk (m q a : Nat) (σ τ : Sg) (S : Sh) : Prop := rc_fld σ S q a ∧ rm_fld m τ S q ∧ pf S q
def fSt (m q a : Nat) (σ τ : Sg) (S : Sh) (σ' τ' : Sg) (S' : Sh) : Prop := (∀ z k, ¬ (a ≤ z ∧ z < a + 18) → σ'.1 z k = σ.1 z k) ∧ σ'.2 = σ.2 ∧ (∀ z i, ¬ in_M m q z i → τ'.1 z i = τ.1 z i) ∧ (∀ k i, ¬ in_S q k i → S' k i = S k i) ∧ S' 5 q = S 5 q
theorem fSt.rf {m q a : Nat} {σ τ : Sg} {S : Sh} : fSt m q a σ τ S σ τ S := ⟨fun _ _ _ => rfl, rfl, fun _ _ _ => rfl, fun _ _ _ => rfl, rfl⟩
theorem fSt.tr {m q a : Nat} {σ τ σ1 τ1 σ2 τ2 : Sg} {S S1 S2 : Sh} (h : fSt m q a σ τ S σ1 τ1 S1) (h2 : fSt m q a σ1 τ1 S1 σ2 τ2 S2) : fSt m q a σ τ S σ2 τ2 S2 := ⟨fun z k x => (h2.1 z k x).trans (h.1 z k x), h2.2.1.trans h.2.1, fun z k x => (h2.2.2.1 z k x).trans (h.2.2.1 z k x), fun z k x => (h2.2.2.2.1 z k x).trans (h.2.2.2.1 z k x), h2.2.2.2.2.trans h.2.2.2.2⟩
/-- how the reading of a field ends, on both sides -/
def OX (b m q a : Nat) (σ τ : Sg) (S : Sh) (x : Option (Int32 × Sg)) (y : Option Sg) : Prop := (∃ v p σ' τ', v ≠ 0 ∧ x = some (0, σ') ∧ σ'.1 (b + 1) 6 = v ∧ σ'.1 (b + 1) 7 = p ∧ (∀ z k, z ≠ b + 1 → ¬ (a ≤ z ∧ z < a + 18) → σ'.1 z k = σ.1 z k) ∧ σ'.2 = σ.2 ∧ y = some τ' ∧ τ'.1 m 12 = v ∧ τ'.1 m 13 = p ∧ (∀ z k, ¬ (z = m ∧ (k = 12 ∨ k = 13)) → ¬ in_M m q z k → τ'.1 z k = τ.1 z k)) ∨ (∃ σ' τ' S', x = some (1, σ') ∧ y = some τ' ∧ rc_fld σ' S' q a ∧ rm_fld m τ' S' q ∧ ps_fld S' q ∧ fSt m q a σ τ S σ' τ' S')
theorem OX_tr {b m q a : Nat} {σ τ σ1 τ1 : Sg} {S S1 : Sh} {x : Option (Int32 × Sg)} {y : Option Sg} (h : fSt m q a σ τ S σ1 τ1 S1) (h2 : OX b m q a σ1 τ1 S1 x y) : OX b m q a σ τ S x y := by
  rcases h2 with ⟨v, p, σ', τ', a1, a2, a3, a4, a5, a6, a7, a8, a9, a10⟩ | ⟨σ', τ', S', a1, a2, a3, a4, a5, a6⟩
  · exact Or.inl ⟨v, p, σ', τ', a1, a2, a3, a4, fun z k q1 q2 => (a5 z k q1 q2).trans (h.1 z k q2), a6.trans h.2.1, a7, a8, a9, fun z k q1 q2 => (a10 z k q1 q2).trans (h.2.2.1 z k q2)⟩
  · exact Or.inr ⟨σ', τ', S', a1, a2, a3, a4, a5, h.tr a6⟩
theorem OX_bad {b m q a : Nat} {σ τ : Sg} {S : Sh} {v p : Int32} (hv : v ≠ 0) : OX b m q a σ τ S (some (0, mte b σ v p)) (some (mtM m τ v p)) := Or.inl ⟨v, p, _, _, hv, rfl, mte_6, mte_7, fun z k q1 _ => mte_o q1, rfl, rfl, mtM_12, mtM_13, fun z k q1 _ => mtM_o q1⟩
theorem apB {b m q a s j : Nat} {σ τ : Sg} {S : Sh} (h : FMk m q a σ τ S) (hq : q < 48) (ha : b + 10 ≤ a) (hs : s < S 8 q) (hlt : S 10 (4 * q + s) < 20) (hj : j < 128) : ∃ σ' τ', fn_X5_add b σ (a + 2 + 4 * s) (nI j) = some σ' ∧ fn_X8_say m τ (nI (4 * q + s)) (nI j) = some τ' ∧ FMk m q a σ' τ' (s_ap S (4 * q + s) j) ∧ s_ap S (4 * q + s) j 8 q = S 8 q ∧ fSt m q a σ τ S σ' τ' (s_ap S (4 * q + s) j) := by
  obtain ⟨hCf, hMf, hF⟩ := h
  have hs4 := hF.2.2.2.2.1
  have hSs := hF.2.2.2.2.2 s hs
  have hCs := hCf.2.2.2.2 s hs
  have hMs := hMf.2.2.2.2 s hs
  obtain ⟨u, hu⟩ : ∃ z, z = 4 * q + s := ⟨_, rfl⟩
  rw [← hu] at hSs hCs hMs hlt ⊢
  have hu192 : u < 192 := by omega
  obtain ⟨σ', a1, a2, a3, a4⟩ := ad_S (b := b) (j := j) hCs hlt hj (if_neg (by omega))
  obtain ⟨τ', b1, b2, b3, b4⟩ := sy_M (j := j) hMs.2.1 hu192 hlt
  have heq : ∀ s', s' ≠ s → s' < 4 → eq_sub S (s_ap S u j) (4 * q + s') := fun s' h1 h2 => ⟨s_ap_o (by omega) (by omega), s_ap_o (by omega) (by omega), fun i hi => s_ap_o (by omega) (by omega)⟩
  have e5 : s_ap S u j 5 q = S 5 q := s_ap_o (by omega) (by omega)
  have e6 : s_ap S u j 6 q = S 6 q := s_ap_o (by omega) (by omega)
  have e7 : s_ap S u j 7 q = S 7 q := s_ap_o (by omega) (by omega)
  have e8 : s_ap S u j 8 q = S 8 q := s_ap_o (by omega) (by omega)
  refine ⟨σ', τ', a1, b1, ⟨?_, ?_, ?_⟩, e8, ⟨fun z k hz => a3 z k (by omega), a4, fun z i hz => b4 z i ?_ ?_, fun k i hk => s_ap_o ?_ ?_, e5⟩⟩
  · unfold rc_fld
    rw [e5, e6, e7, e8, a3 _ _ (by omega), a3 _ _ (by omega), a3 _ _ (by omega), a3 _ _ (by omega)]
    refine ⟨hCf.1, hCf.2.1, hCf.2.2.1, hCf.2.2.2.1, fun s' hs' => ?_⟩
    by_cases hss : s' = s
    · subst hss; rw [← hu]; exact a2
    · exact rc_sub_g (heq s' hss (by omega)) (hF.2.2.2.2.2 s' hs').2.1 (fun z k g1 g2 => a3 z k (by omega)) (hCf.2.2.2.2 s' hs')
  · unfold rm_fld
    rw [e5, e6, e7, e8, b4 _ _ (by omega) (by omega), b4 _ _ (by omega) (by omega), b4 _ _ (by omega) (by omega), b4 _ _ (by omega) (by omega)]
    refine ⟨hMf.1, hMf.2.1, hMf.2.2.1, hMf.2.2.2.1, fun s' hs' => ?_⟩
    by_cases hss : s' = s
    · subst hss
      rw [← hu]
      unfold rm_sub
      rw [s_ap_10, s_ap_o (k := 9) (by omega) (by omega), b4 _ _ (by omega) (by omega)]
      refine ⟨hMs.1, b2, fun i hi => ?_⟩
      by_cases hi2 : i < S 10 u
      · rw [b4 _ _ (by omega) (by omega), s_ap_o (by omega) (by omega)]; exact hMs.2.2 i hi2
      · have : i = S 10 u := by omega
        subst this
        rw [s_ap_11]; exact b3
    · exact rm_sub_g (heq s' hss (by omega)) (hF.2.2.2.2.2 s' hs').2.1 (b4 _ _ (by omega) (by omega)) (b4 _ _ (by omega) (by omega)) (fun i hi => b4 _ _ (by omega) (by omega)) (hMf.2.2.2.2 s' hs')
  · unfold pf
    rw [e5, e6, e7, e8]
    refine ⟨hF.1, hF.2.1, hF.2.2.1, hF.2.2.2.1, hs4, fun s' hs' => ?_⟩
    by_cases hss : s' = s
    · subst hss
      rw [← hu]
      unfold ps_sub
      rw [s_ap_10, s_ap_o (k := 9) (by omega) (by omega)]
      refine ⟨hSs.1, by omega, fun i hi => ?_⟩
      by_cases hi2 : i < S 10 u
      · rw [s_ap_o (by omega) (by omega)]; exact hSs.2.2 i hi2
      · have : i = S 10 u := by omega
        subst this
        rw [s_ap_11]; omega
    · exact ps_sub_g (heq s' hss (by omega)) (hF.2.2.2.2.2 s' hs')
  · unfold in_M at hz; omega
  · unfold in_M at hz; omega
  · unfold in_S at hk; omega
  · unfold in_S at hk; omega
theorem opB {b m q a j : Nat} {σ τ : Sg} {S : Sh} (h : FMk m q a σ τ S) (hq : q < 48) (hc4 : S 8 q < 4) (hj : j < 128) : ∃ σ' τ', fn_X1_addSubfield b σ a (nI j) = some σ' ∧ fn_X8_open m τ (nI q) (nI j) = some τ' ∧ FMk m q a σ' τ' (s_op S q (S 8 q) j) ∧ s_op S q (S 8 q) j 8 q = S 8 q + 1 ∧ fSt m q a σ τ S σ' τ' (s_op S q (S 8 q) j) := by
  obtain ⟨hCf, hMf, hF⟩ := h
  obtain ⟨σ', a1, a2, a3, a4, a5, a6, a7, a8⟩ := as_C (b := b) (j := j) hCf.2.2.2.1 hc4 (by omega)
  obtain ⟨τ', b1, b2, b3, b4, b5⟩ := op_M (v := nI j) hMf.2.2.2.1 hq hc4
  have h20 : ∀ s, s < S 8 q → S 10 (4 * q + s) ≤ 20 := fun s hs => (hF.2.2.2.2.2 s hs).2.1
  have e5 : s_op S q (S 8 q) j 5 q = S 5 q := s_op_o (by omega) (by omega) (by omega)
  refine ⟨σ', τ', a1, b1, ⟨fl_op_C rfl hc4 h20 hCf a2 a3 a4 a5 a6 a7, fl_op_M rfl hc4 h20 hMf b2 b3 b4 b5, ?_⟩, s_op_8, ⟨fun z k hz => a7 z k (by omega) (by omega) (by omega), a8, fun z i hz => b5 z i ?_ ?_ ?_, fun k i hk => s_op_o ?_ ?_ ?_, e5⟩⟩
  · unfold pf
    rw [s_op_8, e5, s_op_o (k := 6) (by omega) (by omega) (by omega), s_op_o (k := 7) (by omega) (by omega) (by omega)]
    refine ⟨hF.1, hF.2.1, hF.2.2.1, hF.2.2.2.1, by omega, fun s hs => ?_⟩
    by_cases hsc : s = S 8 q
    · subst hsc
      unfold ps_sub
      rw [s_op_9, s_op_10]
      exact ⟨hj, by omega, fun i hi => absurd hi (Nat.not_lt_zero i)⟩
    · exact ps_sub_g (s_op_eq hsc) (hF.2.2.2.2.2 s (by omega))
  · unfold in_M at hz; omega
  · unfold in_M at hz; omega
  · unfold in_M at hz; omega
  · unfold in_S at hk; omega
  · unfold in_S at hk; omega
  · unfold in_S at hk; omega
-- ===== read: a letter of a subfield (the class) =====
theorem tlt {b a s q i : Nat} {σ : Sg} {S S0 : Sh} (hok : ps_ok S0) (hT : rc_txt b σ S0) (hi : i < S0 0 0) (h : rc_fld σ S q a) (hp : pf S q) (hs : s < S 8 q) : fn_X4_takeLetter b σ (a + 2 + 4 * s) (nI i) = if 31 < S0 1 i ∧ S0 1 i < 127 then (if S 10 (4 * q + s) < 20 then (fn_X5_add b σ (a + 2 + 4 * s) (nI (S0 1 i))).bind fun r => some (1, r) else some (0, mte b σ (-2) (nI i))) else some (0, mte b σ (-6) (nI i)) := by
  have hn := hok.1
  have h128 := hok.2.1 i hi
  have h20 := (hp.2.2.2.2.2 s hs).2.1
  unfold fn_X4_takeLetter fn_X5_isFull
  rw [cdA hT hn (by omega), Option.bind_some, show cdv S0 i = nI (S0 1 i) from if_pos hi, pl_N h128, Option.bind_some, (h.2.2.2.2 s hs).2.1, sg_icN (by omega)]
  by_cases q1 : 31 < S0 1 i ∧ S0 1 i < 127
  · rw [if_pos q1, if_pos q1, if_neg (show ¬ (1 : Int32) = 0 by decide)]
    by_cases q2 : S 10 (4 * q + s) < 20
    · rw [if_pos q2, if_pos (show nI (S 10 (4 * q + s)) < (20 : Int32) from nI_lt (b := 20) q2 (by decide))]; rfl
    · rw [if_neg q2, if_neg (show ¬ nI (S 10 (4 * q + s)) < (20 : Int32) from nI_nlt (b := 20) (by omega) (by omega))]; rfl
  · rw [if_neg q1, if_neg q1, if_pos rfl]; rfl
theorem fSt_tC {b m q a : Nat} {σ τ σ' τ' : Sg} {S S' S0 : Sh} (ha : b + 10 ≤ a) (h : fSt m q a σ τ S σ' τ' S') (hT : rc_txt b σ S0) : rc_txt b σ' S0 := rtx_f (fun z k hz => h.1 z k (by omega)) hT
theorem fSt_tM {m q a : Nat} {σ τ σ' τ' : Sg} {S S' S0 : Sh} (h : fSt m q a σ τ S σ' τ' S') (hT : rm_txt m τ S0) : rm_txt m τ' S0 := ⟨by rw [h.2.2.1 _ _ (by unfold in_M; omega)]; exact hT.1, fun i hi => by rw [h.2.2.1 _ _ (by unfold in_M; omega)]; exact hT.2 i hi⟩
theorem fSt_0 {m q a : Nat} {σ τ σ' τ' : Sg} {S S' : Sh} (h : fSt m q a σ τ S σ' τ' S') (h0 : τ.1 m 12 = 0) : τ'.1 m 12 = 0 := by rw [h.2.2.1 _ _ (by unfold in_M; omega)]; exact h0
-- ===== read: a simple field =====
theorem rs154 {m g : Nat} {τ : Sg} {v p x1 x2 x3 x4 : Int32} (hv : v ≠ 0) : fn_X8_readSimple_B154 m (fn_X8_readSimple_B30 m (g + 1)) (mtM m τ v p) x1 x2 x3 x4 = some (mtM m τ v p) := by
  show fn_X8_readSimple_B30b m (fn_X8_readSimple_B30 m g) (mtM m τ v p) x1 x2 x3 (x4 + 1) = _
  unfold fn_X8_readSimple_B30b
  rw [mtM_12, if_neg hv]
  by_cases q : x2 + x3 ≤ x4 + 1
  · rw [if_pos q]
  · rw [if_neg q]
theorem smB {b m q a at_ n : Nat} {S0 : Sh} (hok : ps_ok S0) (hq : q < 48) (ha : b + 10 ≤ a) (hn1 : 1 ≤ n) (hN : at_ + n ≤ S0 0 0) : ∀ (d i g g' : Nat) (σ τ : Sg) (S : Sh), i + d + 1 = at_ + n → d < g → d + 1 < g' → at_ ≤ i → rc_txt b σ S0 → rm_txt m τ S0 → τ.1 m 12 = 0 → FMk m q a σ τ S → S 8 q = 1 → S 5 q < 10 → OX b m q a σ τ S (fn_X4_takeSimple_B8 b g σ a (nI (at_ + n - 1)) (nI i)) (fn_X8_readSimple_B30 m g' τ (nI q) (nI at_) (nI n) (nI i)) := by
  have hn := hok.1
  intro d
  induction d with
  | zero =>
    intro i g g' σ τ S hi hg hg' hat hC hM h0 hF h8 h5
    obtain ⟨g, rfl⟩ : ∃ e, g = e + 1 := ⟨g - 1, by omega⟩
    obtain ⟨g', rfl⟩ : ∃ e, g' = e + 2 := ⟨g' - 2, by omega⟩
    have hil : at_ + n - 1 = i := by omega
    have hiN : i < S0 0 0 := by omega
    have h128 := hok.2.1 i hiN
    have eC : fn_X4_takeSimple_B8 b (g + 1) σ a (nI (at_ + n - 1)) (nI i) = if nI (S0 1 i) = 30 then some (1, σ) else some (0, mte b σ (-6) (nI i)) := by
      rw [hil]
      show fn_X4_takeSimple_B8b b (fn_X4_takeSimple_B8 b g) σ a (nI i) (nI i) = _
      unfold fn_X4_takeSimple_B8b fn_X4_takeSimple_B60
      rw [if_pos (nI_le (Nat.le_refl i) (by omega)), cdA hC hn (by omega), Option.bind_some, show cdv S0 i = nI (S0 1 i) from if_pos hiN]
      rfl
    have eM : fn_X8_readSimple_B30 m (g' + 2) τ (nI q) (nI at_) (nI n) (nI i) = if nI (S0 1 i) = 30 then some τ else some (mtM m τ (-6) (nI i)) := by
      show fn_X8_readSimple_B30b m (fn_X8_readSimple_B30 m (g' + 1)) τ (nI q) (nI at_) (nI n) (nI i) = _
      unfold fn_X8_readSimple_B30b fn_X8_readSimple_B60 fn_X8_readSimple_B95 fn_X8_readSimple_B106 fn_X8_readSimple_B135
      rw [nI_add, if_neg (nI_ge (by omega) (by omega)), if_pos h0, show nI (at_ + n) - 1 = nI (at_ + n - 1) from s_sub (b := 1) (by omega), hil, if_pos rfl, if_neg (show ¬ (1 : Int32) = 0 by decide), if_neg (show ¬ (1 : Int32) = 0 by decide), if_neg (show ¬ (1 : Int32) = 0 by decide), if_pos (sg_ibN (by omega) (by decide)), sg_xN (by omega), hM.2 i hiN, flM0 h0, Option.bind_some, rs154 (by decide)]
      by_cases w : nI (S0 1 i) = 30
      · rw [if_pos w, if_pos w]
        unfold fn_X8_readSimple_B154
        show fn_X8_readSimple_B30b m (fn_X8_readSimple_B30 m g') τ (nI q) (nI at_) (nI n) (nI i + 1) = _
        unfold fn_X8_readSimple_B30b
        rw [nI_add, nI_1, if_pos (nI_le (by omega) (by omega))]
      · rw [if_neg w, if_neg w]
    rw [eC, eM]
    by_cases w : nI (S0 1 i) = 30
    · rw [if_pos w, if_pos w]
      exact Or.inr ⟨σ, τ, S, rfl, rfl, hF.1, hF.2.1, pf_ps hF.2.2 (by omega) (fun _ => h8), fSt.rf⟩
    · rw [if_neg w, if_neg w]
      exact OX_bad (by decide)
  | succ d ih =>
    intro i g g' σ τ S hi hg hg' hat hC hM h0 hF h8 h5
    obtain ⟨g, rfl⟩ : ∃ e, g = e + 1 := ⟨g - 1, by omega⟩
    obtain ⟨g', rfl⟩ : ∃ e, g' = e + 2 := ⟨g' - 2, by omega⟩
    have hiN : i < S0 0 0 := by omega
    have h128 := hok.2.1 i hiN
    have h20 := (hF.2.2.2.2.2.2.2 0 (by omega)).2.1
    have hM9 := (hF.2.1.2.2.2.2 0 (by omega)).2.1
    rw [show 4 * q + 0 = 4 * q by omega] at h20 hM9
    have e4q : (4 : Int32) * nI q = nI (4 * q) := nI_mul 4 q
    have etl := tlt (s := 0) hok hC hiN hF.1 hF.2.2 (by omega)
    rw [show 4 * q + 0 = 4 * q by omega] at etl
    have eC : fn_X4_takeSimple_B8 b (g + 1) σ a (nI (at_ + n - 1)) (nI i) = ((fn_X4_takeLetter b σ (a + 2 + 4 * 0) (nI i)).bind fun r4 => (if r4.1 = 0 then some (0, r4.2) else fn_X4_takeSimple_B8 b g r4.2 a (nI (at_ + n - 1)) (nI (i + 1)))) := by
      show fn_X4_takeSimple_B8b b (fn_X4_takeSimple_B8 b g) σ a (nI (at_ + n - 1)) (nI i) = _
      unfold fn_X4_takeSimple_B8b
      rw [if_neg (nI_ge (by omega) (by omega)), if_pos (show sg_ib 0 4 from sg_ibN (j := 0) (by decide) (by decide)), show sg_x 0 = 0 from sg_xN (j := 0) (by decide)]
      unfold sg_lt
      simp only []
      rw [nI_1]
    have eM : fn_X8_readSimple_B30 m (g' + 2) τ (nI q) (nI at_) (nI n) (nI i) = if 31 < S0 1 i ∧ S0 1 i < 127 then (if S 10 (4 * q) < 20 then (fn_X8_say m τ (nI (4 * q)) (nI (S0 1 i))).bind fun r1 => fn_X8_readSimple_B30 m (g' + 1) r1 (nI q) (nI at_) (nI n) (nI (i + 1)) else some (mtM m τ (-2) (nI i))) else some (mtM m τ (-6) (nI i)) := by
      show fn_X8_readSimple_B30b m (fn_X8_readSimple_B30 m (g' + 1)) τ (nI q) (nI at_) (nI n) (nI i) = _
      unfold fn_X8_readSimple_B30b fn_X8_readSimple_B60 fn_X8_readSimple_B95 fn_X8_readSimple_B106 fn_X8_readSimple_B135
      rw [nI_add, if_neg (nI_ge (by omega) (by omega)), if_pos h0, show nI (at_ + n) - 1 = nI (at_ + n - 1) from s_sub (b := 1) (by omega), if_neg (fun w => absurd ((nI_eq (by omega) (by omega)).mp w) (by omega)), if_pos (show (0 : Int32) = 0 from rfl), if_pos (show (0 : Int32) = 0 from rfl), if_pos (show (0 : Int32) = 0 from rfl), if_pos (sg_ibN (show i < 600 by omega) (by decide)), sg_xN (show i < 2 ^ 31 by omega), hM.2 i hiN, ← pl_eq, pl_N h128, Option.bind_some, flM0 h0, Option.bind_some, rs154 (by decide), e4q, if_pos (sg_ibN (show 4 * q < 192 by omega) (by decide)), sg_xN (show 4 * q < 2 ^ 31 by omega), hM9, if_pos (sg_ibN (show i < 600 by omega) (by decide)), flM0 h0, Option.bind_some, rs154 (by decide)]
      by_cases q1 : 31 < S0 1 i ∧ S0 1 i < 127
      · rw [if_pos q1, if_pos q1, if_neg (show ¬ (1 : Int32) = 0 by decide)]
        by_cases q2 : S 10 (4 * q) < 20
        · rw [if_pos q2, if_neg (show ¬ nI (S 10 (4 * q)) = 20 from fun w => absurd ((nI_eq (b := 20) (by omega) (by omega)).mp w) (by omega))]
          unfold fn_X8_readSimple_B154 sg_lt
          simp only []
          rw [nI_1]
        · rw [if_neg q2, if_pos (show nI (S 10 (4 * q)) = 20 by rw [show S 10 (4 * q) = 20 by omega]; rfl)]
      · rw [if_neg q1, if_neg q1, if_pos rfl]
    rw [eC, etl, eM]
    by_cases q1 : 31 < S0 1 i ∧ S0 1 i < 127
    · rw [if_pos q1, if_pos q1]
      by_cases q2 : S 10 (4 * q) < 20
      · rw [if_pos q2, if_pos q2]
        obtain ⟨σ1, τ1, x1, x2, x3, x4, x5⟩ := apB (s := 0) hF hq ha (by omega) (by rw [show 4 * q + 0 = 4 * q by omega]; exact q2) h128
        rw [show 4 * q + 0 = 4 * q by omega] at x2 x3 x4 x5
        rw [x1, x2, Option.bind_some, Option.bind_some, Option.bind_some, if_neg (show ¬ (1 : Int32) = 0 by decide)]
        exact OX_tr x5 (ih (i + 1) g (g' + 1) σ1 τ1 _ (by omega) (by omega) (by omega) (by omega) (fSt_tC ha x5 hC) (fSt_tM x5 hM) (fSt_0 x5 h0) x3 (x4.trans h8) (by rw [x5.2.2.2.2]; exact h5))
      · rw [if_neg q2, if_neg q2, Option.bind_some, if_pos rfl]
        exact OX_bad (by decide)
    · rw [if_neg q1, if_neg q1, Option.bind_some, if_pos rfl]
      exact OX_bad (by decide)
