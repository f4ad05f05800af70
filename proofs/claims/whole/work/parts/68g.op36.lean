-- ===== read: a divided field, both =====
def dI (S0 S : Sh) (q at_ k : Nat) (due : Int32) : Prop := (k = 2 ∧ due = 0 ∧ S 8 q = 0) ∨ (k = 3 ∧ due = 1 ∧ S 8 q = 0 ∧ S0 1 (at_ + k - 1) = 31) ∨ (4 ≤ k ∧ 1 ≤ S 8 q ∧ due = 0 ∧ S0 1 (at_ + k - 1) ≠ 31) ∨ (4 ≤ k ∧ 1 ≤ S 8 q ∧ due = 1 ∧ S0 1 (at_ + k - 1) = 31 ∧ S 8 q < 4)
theorem dvB {b m q a at_ n : Nat} {S0 : Sh} (hok : ps_ok S0) (hq : q < 48) (ha : b + 10 ≤ a) (hn1 : 2 ≤ n) (hN : at_ + n ≤ S0 0 0) : ∀ (d k g g' : Nat) (σ τ : Sg) (S : Sh) (due : Int32), k + d + 1 = n → d < g → d + 1 < g' → 2 ≤ k → rc_txt b σ S0 → rm_txt m τ S0 → τ.1 m 12 = 0 → FMk m q a σ τ S → 10 ≤ S 5 q → dI S0 S q at_ k due → OX b m q a σ τ S (fn_X4_takeDivided_B19 b g σ a (nI (at_ + n - 1)) due (nI (at_ + k))) (fn_X8_readField_B10 m g' τ (nI q) (nI at_) (nI n) (nI k)) := by
  have hn := hok.1
  intro d
  induction d with
  | zero =>
    intro k g g' σ τ S due hk hg hg' hk2 hC hM h0 hF h5 hI
    obtain ⟨g, rfl⟩ : ∃ e, g = e + 1 := ⟨g - 1, by omega⟩
    obtain ⟨g', rfl⟩ : ∃ e, g' = e + 1 := ⟨g' - 1, by omega⟩
    have hil : at_ + n - 1 = at_ + k := by omega
    have hiN : at_ + k < S0 0 0 := by omega
    have h128 := hok.2.1 _ hiN
    have h84 := hF.2.2.2.2.2.2.1
    have h1c := hF.1.2.2.2.1
    have eC : fn_X4_takeDivided_B19 b (g + 1) σ a (nI (at_ + n - 1)) due (nI (at_ + k)) = if nI (S 8 q) ≤ 0 then some (0, mte b σ (-6) (nI (at_ + k))) else if due = 0 then (if nI (S0 1 (at_ + k)) = 30 then some (1, σ) else some (0, mte b σ (-6) (nI (at_ + k)))) else some (0, mte b σ (-6) (nI (at_ + k))) := by
      rw [hil]
      show fn_X4_takeDivided_B19b b (fn_X4_takeDivided_B19 b g) σ a (nI (at_ + k)) due (nI (at_ + k)) = _
      unfold fn_X4_takeDivided_B19b fn_X4_takeDivided_B144 fn_X4_takeDivided_B145 fn_X4_takeDivided_B165 fn_X4_takeDivided_B175
      rw [if_pos (nI_le (Nat.le_refl _) (by omega)), cdA hC hn (by omega), show cdv S0 (at_ + k) = nI (S0 1 (at_ + k)) from if_pos hiN, h1c]
      rfl
    rw [eC, rd_en hok hM hn1 hN (by omega) h0]
    rcases hI with ⟨i1, i2, i3⟩ | ⟨i1, i2, i3, i4⟩ | ⟨i1, i2, i3, i4⟩ | ⟨i1, i2, i3, i4, i5⟩
    · rw [i3, if_pos (show nI 0 ≤ (0 : Int32) by decide), if_neg (by omega)]
      exact OX_bad (by decide)
    · rw [i3, if_pos (show nI 0 ≤ (0 : Int32) by decide), if_neg (by omega)]
      exact OX_bad (by decide)
    · rw [if_neg (show ¬ nI (S 8 q) ≤ 0 from nI_ge (a := 0) (by omega) (by omega)), if_pos i3]
      by_cases w : S0 1 (at_ + k) = 30
      · rw [if_pos (show nI (S0 1 (at_ + k)) = 30 by rw [w]; rfl), if_pos ⟨by omega, w, i4⟩]
        exact Or.inr ⟨σ, τ, S, rfl, rfl, hF.1, hF.2.1, pf_ps hF.2.2 i2 (fun e => absurd e (by omega)), fSt.rf⟩
      · rw [if_neg (show ¬ nI (S0 1 (at_ + k)) = 30 from fun e => w ((nI_eq (b := 30) (by omega) (by omega)).mp e)), if_neg (fun e => w e.2.1)]
        exact OX_bad (by decide)
    · rw [if_neg (show ¬ nI (S 8 q) ≤ 0 from nI_ge (a := 0) (by omega) (by omega)), if_neg (show ¬ due = 0 by rw [i3]; decide), if_neg (fun e => e.2.2 i4)]
      exact OX_bad (by decide)
  | succ d ih =>
    intro k g g' σ τ S due hk hg hg' hk2 hC hM h0 hF h5 hI
    obtain ⟨g, rfl⟩ : ∃ e, g = e + 1 := ⟨g - 1, by omega⟩
    obtain ⟨g', rfl⟩ : ∃ e, g' = e + 2 := ⟨g' - 2, by omega⟩
    have hiN : at_ + k < S0 0 0 := by omega
    have h128 := hok.2.1 _ hiN
    have h84 := hF.2.2.2.2.2.2.1
    have h1c := hF.1.2.2.2.1
    have h7 := hF.2.1.2.2.2.1
    have hcd : fn_X6_codeAt b σ (nI (at_ + k)) = some (nI (S0 1 (at_ + k))) := by rw [cdA hC hn (by omega)]; exact congrArg some (if_pos hiN)
    have eM := rd_st (m := m) (q := q) (at_ := at_) (n := n) (τ := τ) (g := g' + 1) (k := k) hn1 (by omega) (by omega) h0
    have hbadM : ∀ (v p : Int32), v ≠ 0 → (some (mtM m τ v p)).bind (fun r1 => fn_X8_readField_B10 m (g' + 1) r1 (nI q) (nI at_) (nI n) (nI (k + 1))) = some (mtM m τ v p) := fun v p hv => by
      rw [Option.bind_some]; exact rf10 hn1 (by omega) mtM_12 hv
    have e122 : ∀ (s : Sg) (u : Int32), fn_X4_takeDivided_B122 b (fn_X4_takeDivided_B19 b g) s a (nI (at_ + n - 1)) u (nI (at_ + k)) = fn_X4_takeDivided_B19 b g s a (nI (at_ + n - 1)) u (nI (at_ + (k + 1))) := fun s u => by
      unfold fn_X4_takeDivided_B122
      exact congrArg _ (nI_1 (at_ + k))
    have eC : fn_X4_takeDivided_B19 b (g + 1) σ a (nI (at_ + n - 1)) due (nI (at_ + k)) = if due = 0 then (if nI (S0 1 (at_ + k)) = 31 then (if nI (S 8 q) < 4 then fn_X4_takeDivided_B19 b g σ a (nI (at_ + n - 1)) 1 (nI (at_ + (k + 1))) else some (0, mte b σ (-2) (nI (at_ + k)))) else (if nI (S 8 q) = 0 then some (0, mte b σ (-6) (nI (at_ + k))) else (if sg_ib (nI (S 8 q) - 1) 4 then ((fn_X4_takeLetter b σ (a + 2 + 4 * sg_x (nI (S 8 q) - 1)) (nI (at_ + k))).bind fun r3 => (if r3.1 = 0 then some (0, r3.2) else fn_X4_takeDivided_B19 b g r3.2 a (nI (at_ + n - 1)) due (nI (at_ + (k + 1))))) else none))) else ((fn_X4_takeCode b σ a (nI (at_ + k))).bind fun r7 => (if r7.1 = 0 then some (0, r7.2) else fn_X4_takeDivided_B19 b g r7.2 a (nI (at_ + n - 1)) 0 (nI (at_ + (k + 1))))) := by
      show fn_X4_takeDivided_B19b b (fn_X4_takeDivided_B19 b g) σ a (nI (at_ + n - 1)) due (nI (at_ + k)) = _
      unfold fn_X4_takeDivided_B19b fn_X1_isFull
      rw [if_neg (nI_ge (by omega) (by omega)), hcd, Option.bind_some, h1c]
      simp only [e122]
      by_cases w : nI (S 8 q) < 4
      · rw [if_pos w, if_pos w]; rfl
      · rw [if_neg w, if_neg w]; rfl
    -- a code
    have hcode : due = 1 → 3 ≤ k → S0 1 (at_ + k - 1) = 31 → S 8 q < 4 → OX b m q a σ τ S (fn_X4_takeDivided_B19 b (g + 1) σ a (nI (at_ + n - 1)) due (nI (at_ + k))) (fn_X8_readField_B10 m (g' + 2) τ (nI q) (nI at_) (nI n) (nI k)) := fun hd hk3 h31 hc4 => by
      have e1 := ri_c hok hM hq hk3 hiN h0 h31
      obtain ⟨v, v1, v2⟩ := cd_v h128
      rw [eC, eM, if_neg (show ¬ due = 0 by rw [hd]; decide)]
      unfold fn_X4_takeCode
      rw [hcd, Option.bind_some, v1, Option.bind_some, sg_icN (by omega)]
      rcases e1 with ⟨c1, e1⟩ | ⟨c1, e1⟩
      · have hv : v = 1 := v2.elim (fun e => absurd c1 e.2) (fun e => e.1)
        obtain ⟨σ1, τ1, x1, x2, x3, x4, x5⟩ := opB (b := b) hF hq hc4 h128
        rw [hv, if_neg (show ¬ (1 : Int32) = 0 by decide), x1, Option.bind_some, Option.bind_some, if_neg (show ¬ (1 : Int32) = 0 by decide), e1, x2, Option.bind_some, Option.bind_some]
        have hne : S0 1 (at_ + k) ≠ 31 := by unfold isC at c1; omega
        exact OX_tr x5 (ih (k + 1) g (g' + 1) σ1 τ1 _ 0 (by omega) (by omega) (by omega) (by omega) (fSt_tC ha x5 hC) (fSt_tM x5 hM) (fSt_0 x5 h0) x3 (by rw [x5.2.2.2.2]; exact h5) (Or.inr (Or.inr (Or.inl ⟨by omega, by omega, rfl, by rw [show at_ + (k + 1) - 1 = at_ + k by omega]; exact hne⟩))))
      · have hv : v = 0 := v2.elim (fun e => e.1) (fun e => absurd e.2 c1)
        rw [hv, if_pos rfl, e1, hbadM _ _ (by decide)]
        exact OX_bad (by decide)
    rcases hI with ⟨i1, i2, i3⟩ | ⟨i1, i2, i3, i4⟩ | ⟨i1, i2, i3, i4⟩ | ⟨i1, i2, i3, i4, i5⟩
    · -- the first sign behind the indicators
      subst i1
      rw [eC, eM, ri_2 hok hM hq hiN h0, if_pos i2, i3]
      by_cases w : S0 1 (at_ + 2) = 31
      · rw [if_pos (show nI (S0 1 (at_ + 2)) = 31 by rw [w]; rfl), if_pos (show nI 0 < (4 : Int32) by decide), if_pos w, Option.bind_some]
        exact ih 3 g (g' + 1) σ τ S 1 (by omega) (by omega) (by omega) (by omega) hC hM h0 hF h5 (Or.inr (Or.inl ⟨rfl, rfl, i3, w⟩))
      · rw [if_neg (show ¬ nI (S0 1 (at_ + 2)) = 31 from fun e => w ((nI_eq (b := 31) (by omega) (by omega)).mp e)), if_pos (show nI 0 = 0 from rfl), if_neg w, hbadM _ _ (by decide)]
        exact OX_bad (by decide)
    · exact hcode i2 (by omega) i4 (by omega)
    · -- a letter or a start
      have hs20 := (hF.2.2.2.2.2.2.2 (S 8 q - 1) (by omega)).2.1
      have e1 := ri_l hok hM hq (show 3 ≤ k by omega) hiN h0 i4 h7 i2 h84 (hF.2.1.2.2.2.2 (S 8 q - 1) (by omega)).2.1 hs20
      have etl := tlt (s := S 8 q - 1) hok hC hiN hF.1 hF.2.2 (by omega)
      rw [eC, eM, e1, if_pos i3]
      by_cases w : S0 1 (at_ + k) = 31
      · rw [if_pos (show nI (S0 1 (at_ + k)) = 31 by rw [w]; rfl), if_pos w]
        by_cases w2 : S 8 q < 4
        · rw [if_pos (show nI (S 8 q) < (4 : Int32) from nI_lt (b := 4) w2 (by decide)), if_pos w2, Option.bind_some]
          exact ih (k + 1) g (g' + 1) σ τ S 1 (by omega) (by omega) (by omega) (by omega) hC hM h0 hF h5 (Or.inr (Or.inr (Or.inr ⟨by omega, i2, rfl, by rw [show at_ + (k + 1) - 1 = at_ + k by omega]; exact w, w2⟩)))
        · rw [if_neg (show ¬ nI (S 8 q) < (4 : Int32) from nI_nlt (b := 4) (by omega) (by omega)), if_neg w2, hbadM _ _ (by decide)]
          exact OX_bad (by decide)
      · rw [if_neg (show ¬ nI (S0 1 (at_ + k)) = 31 from fun e => w ((nI_eq (b := 31) (by omega) (by omega)).mp e)), if_neg w, if_neg (show ¬ nI (S 8 q) = 0 from fun e => absurd ((nI_eq (b := 0) (by omega) (by omega)).mp e) (by omega)), show nI (S 8 q) - 1 = nI (S 8 q - 1) from s_sub (b := 1) i2, if_pos (sg_ibN (by omega) (by decide)), sg_xN (by omega), etl]
        by_cases q1 : 31 < S0 1 (at_ + k) ∧ S0 1 (at_ + k) < 127
        · rw [if_pos q1, if_pos q1]
          by_cases q2 : S 10 (4 * q + (S 8 q - 1)) < 20
          · rw [if_pos q2, if_pos q2]
            obtain ⟨σ1, τ1, x1, x2, x3, x4, x5⟩ := apB (s := S 8 q - 1) hF hq ha (by omega) q2 h128
            rw [x1, x2, Option.bind_some, Option.bind_some, Option.bind_some, Option.bind_some, if_neg (show ¬ (1 : Int32) = 0 by decide)]
            exact OX_tr x5 (ih (k + 1) g (g' + 1) σ1 τ1 _ due (by omega) (by omega) (by omega) (by omega) (fSt_tC ha x5 hC) (fSt_tM x5 hM) (fSt_0 x5 h0) x3 (by rw [x5.2.2.2.2]; exact h5) (Or.inr (Or.inr (Or.inl ⟨by omega, by rw [x4]; exact i2, i3, by rw [show at_ + (k + 1) - 1 = at_ + k by omega]; exact w⟩))))
          · rw [if_neg q2, if_neg q2, Option.bind_some, if_pos rfl, hbadM _ _ (by decide)]
            exact OX_bad (by decide)
        · rw [if_neg q1, if_neg q1, Option.bind_some, if_pos rfl, hbadM _ _ (by decide)]
          exact OX_bad (by decide)
    · exact hcode i3 (by omega) i4 i5
