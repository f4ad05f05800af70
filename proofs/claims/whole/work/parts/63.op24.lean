-- ===== list: the reference's outer loops =====
theorem hcY {m u : Nat} {c : Int32} {τ : Sg} {S : Sh} (hu : u < 192) (h : τ.1 (m + 8) u = nI (S 9 u)) : fn_X8_hasCode m τ (nI u) c = some (if c = 42 ∨ c = nI (S 9 u) then 1 else 0) := by
  unfold fn_X8_hasCode fn_X8_hasCode_B16
  rw [if_pos (sg_ibN hu (by decide)), sg_xN (by omega), h]
  by_cases h1 : c = 42
  · rw [if_pos h1, if_pos (Or.inl h1)]
  · rw [if_neg h1]
    by_cases h2 : c = nI (S 9 u)
    · rw [if_pos h2.symm, if_pos (Or.inr h2)]
    · rw [if_neg (fun q => h2 q.symm), if_neg (fun q => q.elim h1 h2)]
theorem fY_HM {m u : Nat} {τ τ' : Sg} (h : fY m u τ τ') : fHM m τ τ' := fun z k _ a2 a3 _ => h z k (fun q => a2 q.1) (fun q => a3 q.1)
theorem mA_fld {m q : Nat} {τ : Sg} {S : Sh} (h : mA m τ S) (hq : isf S q) : rm_fld m τ S q := by
  have := (h.2 _ hq.1).2.2 _ hq.2
  rwa [show 8 * (q / 8) + q % 8 = q by omega] at this
theorem li64 {m q : Nat} {t c : Int32} {S : Sh} {z21 : Sg → Int32 → Int32 → Int32 → Option (Int32 × Sg)} (hok : ps_ok S) (hq48 : q < 48) (hq : isf S q) : ∀ (d k g : Nat) (τ : Sg) (X : XH), k + d = S 8 q → d < g → mA m τ S → hM m τ X → kM m τ S X → Xok S X (4 * q + k) → ∃ τ', fn_X8_list_B64 m z21 g τ t c (nI q) 1 (nI (4 * q + k)) = z21 τ' t c (nI (q + 1)) ∧ hM m τ' (xsb S c q k d X) ∧ kM m τ' S (xsb S c q k d X) ∧ fHM m τ τ' := by
  have hF := isf_fld hok hq
  have a3 := hF.2.2.2.2.2.1
  intro d
  induction d with
  | zero =>
    intro k g τ X hk' hg hm hh hkM hX
    obtain ⟨g, rfl⟩ : ∃ e, g = e + 1 := ⟨g - 1, by omega⟩
    have h7 := (mA_fld hm hq).2.2.2.1
    refine ⟨τ, ?_, hh, hkM, fHM.rf⟩
    show fn_X8_list_B64b m z21 (fn_X8_list_B64 m z21 g) τ t c (nI q) 1 (nI (4 * q + k)) = _
    unfold fn_X8_list_B64b fn_X8_list_B176
    simp (disch := omega) only [lit, nI_add, nI_mul, s_sub, a_le, a_lt, a_eq, sg_lt, sg_xN, s_ib, Option.bind_some, not_false_eq_true, true_and, if_pos, if_neg, ↓reduceIte, Nat.zero_add, Nat.add_zero, Nat.zero_le, h7]
  | succ d ih =>
    intro k g τ X hk' hg hm hh hkM hX
    obtain ⟨g, rfl⟩ : ∃ e, g = e + 1 := ⟨g - 1, by omega⟩
    have h7 := (mA_fld hm hq).2.2.2.1
    have hs := (mA_fld hm hq).2.2.2.2 k (by omega)
    have hsb := hF.2.2.2.2.2.2.2 k (by omega)
    have hpr := isf_pr hq k (by omega)
    have e1 := hcY (c := c) (show 4 * q + k < 192 by omega) hs.1
    by_cases hcd : c = 42 ∨ c = nI (S 9 (4 * q + k))
    · rw [if_pos hcd] at e1
      have ex : xst S c (4 * q + k) X = hin S (4 * q + k) X := if_pos hcd
      obtain ⟨τ1, b1, b2, b3⟩ := mkM (show 4 * q + k < 192 by omega) hsb hs
      have hkM1 : kM m τ1 S X := fun i hi => by
        by_cases hv : X.2 i = 4 * q + k
        · rw [hv]; exact b2
        · exact kyM_f (kyK_len (pr_ok hok (hX.2.1 i hi)).2) (fun z w hz => b3 z w (by omega) (by omega)) (hkM i hi)
      have f1 := fY_HM b3
      have hn1 : τ1.1 m 15 = nI X.1 := by rw [b3 m 15 (by omega) (by omega)]; exact hh.1
      obtain ⟨τ2, c1, c2, c3⟩ := li106 (q := q) (t := t) (c := c) (x4 := 1) (z21 := z21) (z64 := fn_X8_list_B64 m z21 g) hok (Xok_le hX (show 4 * q + k ≤ 191 by omega)) hpr X.1 sg_N τ1 (Nat.le_refl _) (by have := hX.1; show _ < 1000; omega) rfl (fun i hi => by rw [b3 _ _ (by omega) (by omega)]; exact hh.2 i hi) (fun i h1 h2 => absurd h1 (by omega)) hn1 hkM1 b2
      have f2 : fHM m τ1 τ2 := fun z j h1 _ _ h4 => c3 z j h1 h4
      have f12 := f1.tr f2
      have hkM2 : kM m τ2 S (hin S (4 * q + k) X) := fun i hi => by
        have hfr : ∀ v, kyM m τ1 S v → kyM m τ2 S v := fun v hv => ⟨by rw [c3 _ _ (by omega) (by omega)]; exact hv.1, fun j hj => by rw [c3 _ _ (by omega) (by omega)]; exact hv.2 j hj⟩
        have hi' : i < X.1 + 1 := hi
        rcases Nat.lt_trichotomy i (hps S (4 * q + k) X.2 X.1) with w | w | w
        · rw [hin_lt w]; exact hfr _ (hkM1 i (by have := hps_le S (4 * q + k) X.2 X.1; omega))
        · rw [hin_eq w]; exact hfr _ b2
        · rw [hin_gt w]; exact hfr _ (hkM1 (i - 1) (by omega))
      obtain ⟨τ3, d1, d2, d3, d4⟩ := ih (k + 1) g τ2 (hin S (4 * q + k) X) (by omega) (by omega) (mA_f f12 hm) c2 hkM2 (hin_ok hX hpr)
      have hb : xsb S c q k (d + 1) X = xsb S c q (k + 1) d (hin S (4 * q + k) X) := by
        show xsb S c q (k + 1) d (xst S c (4 * q + k) X) = _
        rw [ex]
      rw [hb]
      refine ⟨τ3, ?_, d2, d3, f12.tr d4⟩
      rw [← d1, show 4 * q + (k + 1) = 4 * q + k + 1 by omega, ← c1]
      show fn_X8_list_B64b m z21 (fn_X8_list_B64 m z21 g) τ t c (nI q) 1 (nI (4 * q + k)) = _
      unfold fn_X8_list_B64b
      simp (disch := omega) only [lit, nI_add, nI_mul, s_sub, a_le, a_lt, a_eq, sg_lt, sg_xN, s_ib, Option.bind_some, not_false_eq_true, true_and, if_pos, if_neg, ↓reduceIte, Nat.zero_add, Nat.add_zero, Nat.zero_le, h7, e1, b1, hn1]
    · rw [if_neg hcd] at e1
      have ex : xst S c (4 * q + k) X = X := if_neg hcd
      obtain ⟨τ3, d1, d2, d3, d4⟩ := ih (k + 1) g τ X (by omega) (by omega) hm hh hkM (Xok_le hX (by omega))
      have hb : xsb S c q k (d + 1) X = xsb S c q (k + 1) d X := by
        show xsb S c q (k + 1) d (xst S c (4 * q + k) X) = _
        rw [ex]
      rw [hb]
      refine ⟨τ3, ?_, d2, d3, d4⟩
      rw [← d1, show 4 * q + (k + 1) = 4 * q + k + 1 by omega]
      show fn_X8_list_B64b m z21 (fn_X8_list_B64 m z21 g) τ t c (nI q) 1 (nI (4 * q + k)) = _
      unfold fn_X8_list_B64b fn_X8_list_B170
      simp (disch := omega) only [lit, nI_add, nI_mul, s_sub, a_le, a_lt, a_eq, sg_lt, sg_xN, s_ib, Option.bind_some, not_false_eq_true, true_and, if_pos, if_neg, ↓reduceIte, Nat.zero_add, Nat.add_zero, Nat.zero_le, h7, e1]
theorem isfM {m q : Nat} {τ : Sg} {S : Sh} (hok : ps_ok S) (hq48 : q < 48) (h : mA m τ S) : fn_X8_isField m τ (nI q / 8) (nI q - nI q / 8 * 8) = some (if q / 8 < S 2 0 ∧ q % 8 < S 4 (q / 8) then 1 else 0) := by
  have hn := hok.2.2.1
  rw [show nI q - nI q / 8 * 8 = nI (q % 8) from s_rem (b := 8) (by omega) (by omega) (by omega), show nI q / 8 = nI (q / 8) from s_div (b := 8) (by omega) (by omega) (by omega)]
  by_cases h1 : q / 8 < S 2 0
  · have h8 := (hok.2.2.2.1 _ h1).1
    by_cases h2 : q % 8 < S 4 (q / 8)
    · rw [if_pos ⟨h1, h2⟩]; exact hfM_ok h.1 hn h1 (h.2 _ h1).1 h8 h2
    · rw [if_neg (fun k => h2 k.2)]; exact hfM_bad h.1 hn h1 (h.2 _ h1).1 (Or.inr (nI_le (by omega) (by omega)))
  · rw [if_neg (fun k => h1 k.1)]; exact hfM_r h.1 (Or.inr (nI_le (by omega) (by omega)))
theorem li57 {m q : Nat} {τ : Sg} {t c : Int32} {z21 : Sg → Int32 → Int32 → Int32 → Option (Int32 × Sg)} : fn_X8_list_B57 m z21 τ t c (nI q) 0 = z21 τ t c (nI (q + 1)) := by
  show fn_X8_list_B64b m z21 (fn_X8_list_B64 m z21 999) τ t c (nI q) 0 (4 * nI q) = _
  unfold fn_X8_list_B64b fn_X8_list_B176
  rw [if_pos rfl]
  exact congrArg _ (nI_1 q)
theorem li21 {m : Nat} {t c : Int32} {S : Sh} (hok : ps_ok S) : ∀ (d q g : Nat) (τ : Sg) (X : XH), q + d = 48 → d < g → mA m τ S → hM m τ X → kM m τ S X → Xok S X (4 * q) → ∃ τ', fn_X8_list_B21 m g τ t c (nI q) = some (nI (xfl S t c q d X).1, τ') ∧ hM m τ' (xfl S t c q d X) ∧ fHM m τ τ' := by
  intro d
  induction d with
  | zero =>
    intro q g τ X hq hg hm hh hkM hX
    obtain ⟨g, rfl⟩ : ∃ e, g = e + 1 := ⟨g - 1, by omega⟩
    refine ⟨τ, ?_, hh, fHM.rf⟩
    show fn_X8_list_B21b m (fn_X8_list_B21 m g) τ t c (nI q) = some (nI X.1, τ)
    unfold fn_X8_list_B21b
    simp (disch := omega) only [lit, nI_add, nI_mul, s_sub, a_le, a_lt, a_eq, sg_lt, sg_xN, s_ib, Option.bind_some, not_false_eq_true, true_and, if_pos, if_neg, ↓reduceIte, Nat.zero_add, Nat.add_zero, Nat.zero_le, hh.1]
  | succ d ih =>
    intro q g τ X hq hg hm hh hkM hX
    obtain ⟨g, rfl⟩ : ∃ e, g = e + 1 := ⟨g - 1, by omega⟩
    have e1 := isfM (m := m) hok (show q < 48 by omega) hm
    by_cases hf : q / 8 < S 2 0 ∧ q % 8 < S 4 (q / 8)
    · rw [if_pos hf] at e1
      have hFm := mA_fld hm hf
      have h8 := (isf_fld hok hf).2.2.2.2.2.1
      by_cases ht : nI (S 5 q) = t
      · obtain ⟨τ1, b1, b2, b3, b4⟩ := li64 (t := t) (c := c) (z21 := fn_X8_list_B21 m g) hok (show q < 48 by omega) hf (S 8 q) 0 sg_N τ X (by omega) (by show _ < 1000; omega) hm hh hkM hX
        have ex : xq S t c q X = xsb S c q 0 (S 8 q) X := if_pos ⟨hf, ht⟩
        obtain ⟨τ2, c1, c2, c3⟩ := ih (q + 1) g τ1 (xq S t c q X) (by omega) (by omega) (mA_f b4 hm) (by rw [ex]; exact b2) (by rw [ex]; exact b3) (xq_ok hok hX)
        refine ⟨τ2, ?_, c2, b4.tr c3⟩
        rw [show xfl S t c q (d + 1) X = xfl S t c (q + 1) d (xq S t c q X) from rfl, ← c1, ← b1]
        show fn_X8_list_B21b m (fn_X8_list_B21 m g) τ t c (nI q) = _
        unfold fn_X8_list_B21b fn_X8_list_B56
        rw [if_neg (show ¬ (48 : Int32) ≤ nI q from nI_ge (b := 48) (by omega) (by decide)), e1, Option.bind_some, if_neg (show ¬ (1 : Int32) = 0 by decide), if_pos (sg_ibN (by omega) (by decide)), sg_xN (by omega), hFm.1, if_pos ht]
        show fn_X8_list_B64 m (fn_X8_list_B21 m g) sg_N τ t c (nI q) 1 (nI 4 * nI q) = _
        rw [nI_mul]; rfl
      · have ex : xq S t c q X = X := if_neg (fun k => ht k.2)
        obtain ⟨τ2, c1, c2, c3⟩ := ih (q + 1) g τ X (by omega) (by omega) hm hh hkM (Xok_le hX (by omega))
        rw [show xfl S t c q (d + 1) X = xfl S t c (q + 1) d (xq S t c q X) from rfl, ex]
        refine ⟨τ2, ?_, c2, c3⟩
        rw [← c1]
        show fn_X8_list_B21b m (fn_X8_list_B21 m g) τ t c (nI q) = _
        unfold fn_X8_list_B21b fn_X8_list_B56
        rw [if_neg (show ¬ (48 : Int32) ≤ nI q from nI_ge (b := 48) (by omega) (by decide)), e1, Option.bind_some, if_neg (show ¬ (1 : Int32) = 0 by decide), if_pos (sg_ibN (by omega) (by decide)), sg_xN (by omega), hFm.1, if_neg ht]
        exact li57
    · rw [if_neg hf] at e1
      have ex : xq S t c q X = X := if_neg (fun k => hf k.1)
      obtain ⟨τ2, c1, c2, c3⟩ := ih (q + 1) g τ X (by omega) (by omega) hm hh hkM (Xok_le hX (by omega))
      rw [show xfl S t c q (d + 1) X = xfl S t c (q + 1) d (xq S t c q X) from rfl, ex]
      refine ⟨τ2, ?_, c2, c3⟩
      rw [← c1]
      show fn_X8_list_B21b m (fn_X8_list_B21 m g) τ t c (nI q) = _
      unfold fn_X8_list_B21b fn_X8_list_B56
      rw [if_neg (show ¬ (48 : Int32) ≤ nI q from nI_ge (b := 48) (by omega) (by decide)), e1, Option.bind_some, if_pos (show (0 : Int32) = 0 from rfl)]
      exact li57
/-- the shelf with other headings -/
def s_hd (S : Sh) (X : XH) : Sh := fun k i => if k = 12 then X.1 else if k = 13 then X.2 i else S k i
theorem s_hd_o {S : Sh} {X : XH} {k : Nat} (h : k ≤ 11) : s_hd S X k = S k := by
  funext i
  unfold s_hd
  rw [if_neg (by omega), if_neg (by omega)]
theorem JJ_hd {b m : Nat} {σ σ' τ τ' : Sg} {S : Sh} {pl : Int32} {X : XH} (hok : ps_ok S) (hc : rc_all b σ S pl) (hm : rm_all m τ S pl) (hX : Xok S X 192) (h1 : hC b σ' X) (h2 : fH b σ σ') (h3 : hM m τ' X) (h4 : fHM m τ τ') : JJ b σ' m τ' := by
  have hn := hok.2.2.1
  have e0 : s_hd S X 0 = S 0 := s_hd_o (by omega)
  have e1 : s_hd S X 1 = S 1 := s_hd_o (by omega)
  have e2 : s_hd S X 2 = S 2 := s_hd_o (by omega)
  refine ⟨s_hd S X, pl, ⟨?_, ?_, ?_, ?_, hX.1, fun k hk => (pr_ok hok (hX.2.1 k hk)).1⟩, ⟨⟨?_, ?_⟩, ?_, ?_, h1, ?_, ?_⟩, ⟨⟨?_, ?_⟩, ?_, ?_, h3, ?_⟩⟩
  · rw [e0]; exact hok.1
  · rw [e0, e1]; exact hok.2.1
  · rw [e2]; exact hn
  · rw [e2]; exact fun r hr => ps_rec_f (fun k _ hk => s_hd_o hk) (hok.2.2.2.1 r hr)
  · rw [e0, h2.1 _ _ (by omega) (by omega)]; exact hc.1.1
  · rw [e0, e1]; intro i hi; rw [h2.1 _ _ (by omega) (by omega)]; exact hc.1.2 i hi
  · rw [e2, h2.1 _ _ (by omega) (by omega)]; exact hc.2.1
  · rw [e2]; exact fun r hr => rc_rec_f (by omega) hc.2.2.2.2.2 (fun a k ha => h2.1 a k (by omega) (by omega)) h2.2 (fun k _ hk => s_hd_o hk) (hok.2.2.2.1 r hr).1 (hc.2.2.1 r hr)
  · rw [h2.1 _ _ (by omega) (by omega)]; exact hc.2.2.2.2.1
  · have := hc.2.2.2.2.2
    unfold rc_row at this ⊢
    rw [h2.2]; exact this
  · rw [e0, h4 _ _ (by omega) (by omega) (by omega) (by omega)]; exact hm.1.1
  · rw [e0, e1]; intro i hi; rw [h4 _ _ (by omega) (by omega) (by omega) (by omega)]; exact hm.1.2 i hi
  · rw [e2, h4 _ _ (by omega) (by omega) (by omega) (by omega)]; exact hm.2.1
  · rw [e2]; exact fun r hr => rm_rec_f (fun a k h5 h6 => h4 a k (by omega) (by omega) (by omega) (by omega)) (fun k _ hk => s_hd_o hk) (hm.2.2.1 r hr)
  · rw [h4 _ _ (by omega) (by omega) (by omega) (by omega)]; exact hm.2.2.2.2
theorem op_list {b m : Nat} {σ τ : Sg} (h : JJ b σ m τ) (x1 : Int32) (x2 : Int32) (hx2 : sg_ic x2) : ∃ (r : Int32) (σ' τ' : Sg), fn_X7_list b σ x1 x2 = some (r, σ') ∧ fn_X8_list m τ x1 x2 = some (r, τ') ∧ JJ b σ' m τ' := by
  obtain ⟨S, pl, hok, hc, hm⟩ := h
  have hn := hok.2.2.1
  obtain ⟨X, hX0⟩ : ∃ X : XH, X = (0, fun _ => 0) := ⟨_, rfl⟩
  have hX : ∀ v, Xok S X v := fun v => by
    rw [hX0]
    exact ⟨Nat.zero_le v, fun k hk => absurd hk (Nat.not_lt_zero k), fun i j _ hj => absurd hj (Nat.not_lt_zero j)⟩
  have c0 : hC b (sg_w σ (b + 6) 1 0) X := by rw [hX0]; exact ⟨sg_wgs, fun k hk => absurd hk (Nat.not_lt_zero k)⟩
  have m0 : hM m (sg_w τ m 15 0) X := by rw [hX0]; exact ⟨sg_wgs, fun k hk => absurd hk (Nat.not_lt_zero k)⟩
  have k0 : kM m (sg_w τ m 15 0) S X := by rw [hX0]; exact fun k hk => absurd hk (Nat.not_lt_zero k)
  have f0 : fH b σ (sg_w σ (b + 6) 1 0) := ⟨fun z k h1 h2 => sg_wga h1, rfl⟩
  have g0 : fHM m τ (sg_w τ m 15 0) := fun z k _ _ _ h4 => by rw [sg_wg, if_neg h4]
  unfold fn_X7_list fn_X8_list fn_X2_clear
  show ∃ (r : Int32) (σ' τ' : Sg), (if x1 < 1 then some ((-1 : Int32), sg_w σ (b + 6) 1 0) else if x1 ≤ 999 then fn_X7_list_B23 b sg_N (sg_w σ (b + 6) 1 0) x1 x2 0 else some ((-1 : Int32), sg_w σ (b + 6) 1 0)) = some (r, σ') ∧ (if x1 < 1 then some ((-1 : Int32), sg_w τ m 15 0) else if x1 ≤ 999 then fn_X8_list_B21 m sg_N (sg_w τ m 15 0) x1 x2 0 else some ((-1 : Int32), sg_w τ m 15 0)) = some (r, τ') ∧ JJ b σ' m τ'
  by_cases h1 : x1 < 1
  · rw [if_pos h1, if_pos h1]
    exact ⟨_, _, _, rfl, rfl, JJ_hd hok hc hm (hX 192) c0 f0 m0 g0⟩
  · rw [if_neg h1, if_neg h1]
    by_cases h2 : x1 ≤ 999
    · rw [if_pos h2, if_pos h2]
      obtain ⟨σ', a1, a2, a3⟩ := li23 (b := b) (t := x1) (c := x2) hok (S 2 0) 0 sg_N (sg_w σ (b + 6) 1 0) X (by omega) (by show _ < 1000; omega) (cA_f hok f0 ⟨hc.2.1, hc.2.2.1, hc.2.2.2.2.2⟩) c0 (hX _)
      obtain ⟨τ', b1, b2, b3⟩ := li21 (m := m) (t := x1) (c := x2) hok 48 0 sg_N (sg_w τ m 15 0) X (by omega) (by show _ < 1000; omega) (mA_f g0 ⟨hm.2.1, hm.2.2.1⟩) m0 k0 (hX _)
      have ex : xfl S x1 x2 0 48 X = xfl S x1 x2 (8 * 0) (8 * S 2 0) X := by
        have e8 := xfl_add (S := S) (t := x1) (c := x2) (8 * S 2 0) (48 - 8 * S 2 0) 0 X
        rw [show 8 * S 2 0 + (48 - 8 * S 2 0) = 48 by omega] at e8
        rw [e8, xfl_id]
        intro p h1 h2 h3
        have := h3.1
        omega
      rw [ex] at b1 b2
      have hXe : Xok S (xfl S x1 x2 (8 * 0) (8 * S 2 0) X) 192 := Xok_le (xfl_ok hok (8 * S 2 0) (8 * 0) X (hX _)) (by omega)
      exact ⟨_, σ', τ', a1, b1, JJ_hd hok hc hm hXe a2 (f0.tr a3) b2 (g0.tr b3)⟩
    · rw [if_neg h2, if_neg h2]
      exact ⟨_, _, _, rfl, rfl, JJ_hd hok hc hm (hX 192) c0 f0 m0 g0⟩
