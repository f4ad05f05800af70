-- ===== read: a field from its beginning =====
def s_bl (S : Sh) (q i1 i2 : Nat) : Sh := s_up (s_up (s_up S 6 q i1) 7 q i2) 8 q 0
theorem s_bl_o {S : Sh} {q i1 i2 k i : Nat} (h6 : ¬ (k = 6 ∧ i = q)) (h7 : ¬ (k = 7 ∧ i = q)) (h8 : ¬ (k = 8 ∧ i = q)) : s_bl S q i1 i2 k i = S k i := by
  unfold s_bl s_up
  rw [if_neg h8, if_neg h7, if_neg h6]
theorem s_bl_8 {S : Sh} {q i1 i2 : Nat} : s_bl S q i1 i2 8 q = 0 := s_us
theorem s_bl_7 {S : Sh} {q i1 i2 : Nat} : s_bl S q i1 i2 7 q = i2 := by unfold s_bl; rw [s_uk (by decide), s_us]
theorem s_bl_6 {S : Sh} {q i1 i2 : Nat} : s_bl S q i1 i2 6 q = i1 := by unfold s_bl; rw [s_uk (by decide), s_uk (by decide), s_us]
theorem bl_F {m q a i1 i2 : Nat} {σ τ σ' τ' : Sg} {S : Sh} (h5 : 1 ≤ S 5 q ∧ S 5 q ≤ 999) (h1 : i1 < 128) (h2 : i2 < 128) (c1 : σ'.1 a 1 = nI 0) (c2 : σ'.1 a 2 = nI (S 5 q)) (c3 : σ'.1 a 3 = nI i1) (c4 : σ'.1 a 4 = nI i2) (m4 : τ'.1 (m + 4) q = nI (S 5 q)) (m5 : τ'.1 (m + 5) q = nI i1) (m6 : τ'.1 (m + 6) q = nI i2) (m7 : τ'.1 (m + 7) q = nI 0) (fc : ∀ z k, ¬ (a ≤ z ∧ z < a + 18) → σ'.1 z k = σ.1 z k) (fc2 : σ'.2 = σ.2) (fm : ∀ z i, ¬ in_M m q z i → τ'.1 z i = τ.1 z i) : FMk m q a σ' τ' (s_bl S q i1 i2) ∧ fSt m q a σ τ S σ' τ' (s_bl S q i1 i2) := by
  have e5 : s_bl S q i1 i2 5 q = S 5 q := s_bl_o (by omega) (by omega) (by omega)
  refine ⟨⟨?_, ?_, ?_⟩, fc, fc2, fm, fun k i hk => s_bl_o ?_ ?_ ?_, e5⟩
  · unfold rc_fld
    rw [e5, s_bl_6, s_bl_7, s_bl_8]
    exact ⟨c2, c3, c4, c1, fun s hs => absurd hs (Nat.not_lt_zero s)⟩
  · unfold rm_fld
    rw [e5, s_bl_6, s_bl_7, s_bl_8]
    exact ⟨m4, m5, m6, m7, fun s hs => absurd hs (Nat.not_lt_zero s)⟩
  · unfold pf
    rw [e5, s_bl_6, s_bl_7, s_bl_8]
    exact ⟨h5.1, h5.2, h1, h2, by omega, fun s hs => absurd hs (Nat.not_lt_zero s)⟩
  · unfold in_S at hk; omega
  · unfold in_S at hk; omega
  · unfold in_S at hk; omega
theorem siX {b m q a at_ n : Nat} {σ τ : Sg} {S S0 : Sh} (hok : ps_ok S0) (hq : q < 48) (ha : b + 10 ≤ a) (hn1 : 1 ≤ n) (hN : at_ + n ≤ S0 0 0) (hC : rc_txt b σ S0) (hM : rm_txt m τ S0) (h0 : τ.1 m 12 = 0) (h5 : 1 ≤ S 5 q ∧ S 5 q ≤ 999) (hlt : S 5 q < 10) (c1 : σ.1 a 1 = nI 0) (c2 : σ.1 a 2 = nI (S 5 q)) (c3 : σ.1 a 3 = nI 0) (c4 : σ.1 a 4 = nI 0) (m4 : τ.1 (m + 4) q = nI (S 5 q)) : OX b m q a σ τ S (fn_X4_takeSimple b σ a (nI at_) (nI (at_ + n - 1))) (fn_X8_readSimple m τ (nI q) (nI at_) (nI n)) := by
  have hn := hok.1
  obtain ⟨τ3, hτ3⟩ : ∃ t, t = sg_w (sg_w (sg_w τ (m + 5) q 0) (m + 6) q 0) (m + 7) q 0 := ⟨_, rfl⟩
  have hfm : ∀ z i, ¬ in_M m q z i → τ3.1 z i = τ.1 z i := fun z i hz => by
    unfold in_M at hz
    rw [hτ3, sg_wg, if_neg (by omega), sg_wg, if_neg (by omega), sg_wg, if_neg (by omega)]
  obtain ⟨B1, B2⟩ := bl_F (m := m) (q := q) (a := a) (i1 := 0) (i2 := 0) (σ := σ) (τ := τ) (σ' := σ) (τ' := τ3) (S := S) h5 (by omega) (by omega) c1 c2 c3 c4 (by rw [hτ3, sg_wga (by omega), sg_wga (by omega), sg_wga (by omega)]; exact m4) (by rw [hτ3, sg_wga (by omega), sg_wga (by omega), sg_wgs]; rfl) (by rw [hτ3, sg_wga (by omega), sg_wgs]; rfl) (by rw [hτ3, sg_wgs]; rfl) (fun _ _ _ => rfl) rfl hfm
  obtain ⟨σ1, τ1, x1, x2, x3, x4, x5⟩ := opB (b := b) (j := 0) B1 hq (by rw [s_bl_8]; omega) (by omega)
  have eC : fn_X4_takeSimple b σ a (nI at_) (nI (at_ + n - 1)) = fn_X4_takeSimple_B8 b sg_N σ1 a (nI (at_ + n - 1)) (nI at_) := by
    unfold fn_X4_takeSimple
    rw [show fn_X1_addSubfield b σ a 0 = some σ1 from x1, Option.bind_some]
  have eM : fn_X8_readSimple m τ (nI q) (nI at_) (nI n) = fn_X8_readSimple_B30 m sg_N τ1 (nI q) (nI at_) (nI n) (nI at_) := by
    unfold fn_X8_readSimple sg_lt
    simp only []
    rw [if_pos (sg_ibN hq (by decide)), if_pos (sg_ibN hq (by decide)), if_pos (sg_ibN hq (by decide)), sg_xN (by omega), ← hτ3, show fn_X8_open m τ3 (nI q) 0 = some τ1 from x2, Option.bind_some]
  rw [eC, eM]
  have F := B2.tr x5
  refine OX_tr F (smB hok hq ha hn1 hN (n - 1) at_ sg_N sg_N σ1 τ1 _ (by omega) (by show _ < 1000; omega) (by show _ < 1000; omega) (Nat.le_refl _) (fSt_tC ha F hC) (fSt_tM F hM) (fSt_0 F h0) x3 ?_ ?_)
  · rw [x4, s_bl_8]
  · rw [F.2.2.2.2]; exact hlt
def isI (j : Nat) : Prop := j = 32 ∨ (48 ≤ j ∧ j ≤ 57)
theorem ti1 {b a at_ g i : Nat} {σ : Sg} {S0 : Sh} (hok : ps_ok S0) (hC : rc_txt b σ S0) (hi : at_ ≤ i) (hi2 : i < at_ + 2) (hN : i < S0 0 0) : (isI (S0 1 i) ∧ fn_X4_takeIndicators_B2 b (g + 1) σ a (nI at_) (nI i) = fn_X4_takeIndicators_B2 b g σ a (nI at_) (nI (i + 1))) ∨ (¬ isI (S0 1 i) ∧ fn_X4_takeIndicators_B2 b (g + 1) σ a (nI at_) (nI i) = some (0, mte b σ (-6) (nI i))) := by
  have hn := hok.1
  have h128 := hok.2.1 i hN
  have e0 : fn_X4_takeIndicators_B2 b (g + 1) σ a (nI at_) (nI i) = if (if S0 1 i = 32 ∨ (48 ≤ S0 1 i ∧ S0 1 i ≤ 57) then (1 : Int32) else 0) = 0 then some (0, mte b σ (-6) (nI i)) else fn_X4_takeIndicators_B2 b g σ a (nI at_) (nI (i + 1)) := by
    show fn_X4_takeIndicators_B2b b (fn_X4_takeIndicators_B2 b g) σ a (nI at_) (nI i) = _
    unfold fn_X4_takeIndicators_B2b
    rw [show nI at_ + 2 = nI (at_ + 2) from nI_add at_ 2, if_neg (nI_ge (by omega) (by omega)), cdA hC hn (by omega), Option.bind_some, show cdv S0 i = nI (S0 1 i) from if_pos hN, iv_N h128, Option.bind_some]
    unfold sg_lt
    simp only []
    rw [nI_1]; rfl
  rw [e0]
  unfold isI
  by_cases w : S0 1 i = 32 ∨ (48 ≤ S0 1 i ∧ S0 1 i ≤ 57)
  · rw [if_pos w, if_neg (show ¬ (1 : Int32) = 0 by decide)]; exact Or.inl ⟨w, rfl⟩
  · rw [if_neg w, if_pos rfl]; exact Or.inr ⟨w, rfl⟩
theorem ti2 {b a at_ g : Nat} {σ : Sg} {S0 : Sh} (hok : ps_ok S0) (hC : rc_txt b σ S0) (ha : b + 10 ≤ a) (hN : at_ + 1 < S0 0 0) : fn_X4_takeIndicators_B2 b (g + 1) σ a (nI at_) (nI (at_ + 1 + 1)) = some (1, sg_w (sg_w σ a 3 (nI (S0 1 at_))) a 4 (nI (S0 1 (at_ + 1)))) := by
  have hn := hok.1
  have h1 := hok.2.1 at_ (by omega)
  have h2 := hok.2.1 (at_ + 1) hN
  show fn_X4_takeIndicators_B2b b (fn_X4_takeIndicators_B2 b g) σ a (nI at_) (nI (at_ + 1 + 1)) = _
  unfold fn_X4_takeIndicators_B2b
  rw [show nI at_ + 2 = nI (at_ + 2) from nI_add at_ 2, if_pos (nI_le (by omega) (by omega)), cdA hC hn (by omega), Option.bind_some, show cdv S0 at_ = nI (S0 1 at_) from if_pos (by omega)]
  unfold sg_lt
  simp only []
  rw [sg_icN (by omega), nI_1, cdA (rtx_f (fun z k hz => sg_wga (by omega)) hC) hn (by omega), Option.bind_some, show cdv S0 (at_ + 1) = nI (S0 1 (at_ + 1)) from if_pos hN, sg_icN (by omega)]
theorem dvX {b m q a at_ n : Nat} {σ τ : Sg} {S S0 : Sh} (hok : ps_ok S0) (hq : q < 48) (ha : b + 10 ≤ a) (hn1 : 2 ≤ n) (hN : at_ + n ≤ S0 0 0) (hC : rc_txt b σ S0) (hM : rm_txt m τ S0) (h0 : τ.1 m 12 = 0) (h5 : 1 ≤ S 5 q ∧ S 5 q ≤ 999) (hge : 10 ≤ S 5 q) (c1 : σ.1 a 1 = nI 0) (c2 : σ.1 a 2 = nI (S 5 q)) (m4 : τ.1 (m + 4) q = nI (S 5 q)) : OX b m q a σ τ S (fn_X4_takeDivided b σ a (nI at_) (nI (at_ + n - 1))) (fn_X8_readField m τ (nI q) (nI at_) (nI n)) := by
  have hn := hok.1
  have hA := hok.2.1 at_ (by omega)
  have hB := hok.2.1 (at_ + 1) (by omega)
  obtain ⟨τ0, hτ0⟩ : ∃ t, t = sg_w τ (m + 7) q 0 := ⟨_, rfl⟩
  have F0 : fSt m q a σ τ S σ τ0 S := ⟨fun _ _ _ => rfl, rfl, fun z i hz => by unfold in_M at hz; rw [hτ0, sg_wg, if_neg (by omega)], fun _ _ _ => rfl, rfl⟩
  have hM0 := fSt_tM F0 hM
  have h00 := fSt_0 F0 h0
  have eM : fn_X8_readField m τ (nI q) (nI at_) (nI n) = fn_X8_readField_B10 m (999 + 1) τ0 (nI q) (nI at_) (nI n) (nI 0) := by
    unfold fn_X8_readField sg_lt
    simp only []
    rw [if_pos (sg_ibN hq (by decide)), sg_xN (by omega), ← hτ0]; rfl
  rw [eM, rd_st hn1 (by omega) (by omega) h00, ri_01 hok hM0 hq (by omega) (by omega) h00]
  rw [show at_ + 0 = at_ from rfl]
  unfold fn_X4_takeDivided fn_X4_takeIndicators
  rcases ti1 (b := b) (a := a) (at_ := at_) (g := 999) (i := at_) hok hC (Nat.le_refl _) (by omega) (by omega) with ⟨w1, e1⟩ | ⟨w1, e1⟩
  · rw [show fn_X4_takeIndicators_B2 b sg_N σ a (nI at_) (nI at_) = _ from e1, if_pos (show S0 1 at_ = 32 ∨ (48 ≤ S0 1 at_ ∧ S0 1 at_ ≤ 57) from w1), Option.bind_some]
    obtain ⟨τ1, hτ1⟩ : ∃ t, t = sg_w τ0 (m + 5 + 0) q (nI (S0 1 at_)) := ⟨_, rfl⟩
    rw [← hτ1]
    have F1 : fSt m q a σ τ S σ τ1 S := F0.tr ⟨fun _ _ _ => rfl, rfl, fun z i hz => by unfold in_M at hz; rw [hτ1, sg_wg, if_neg (by omega)], fun _ _ _ => rfl, rfl⟩
    have hM1 := fSt_tM F1 hM
    have h01 := fSt_0 F1 h0
    by_cases hn2 : n = 2
    · rw [show (999 : Nat) = 998 + 1 from rfl, rd_en hok hM1 hn1 hN (show 0 + 1 + 1 = n by omega) h01, if_neg (by omega)]
      rcases ti1 (b := b) (a := a) (at_ := at_) (g := 998) (i := at_ + 1) hok hC (by omega) (by omega) (by omega) with ⟨w2, e2⟩ | ⟨w2, e2⟩
      · rw [e2, show fn_X4_takeIndicators_B2 b 998 σ a (nI at_) (nI (at_ + 1 + 1)) = _ from ti2 (g := 997) hok hC ha (by omega), Option.bind_some, if_neg (show ¬ (1 : Int32) = 0 by decide)]
        obtain ⟨σ1, hσ1⟩ : ∃ s, s = sg_w (sg_w σ a 3 (nI (S0 1 at_))) a 4 (nI (S0 1 (at_ + 1))) := ⟨_, rfl⟩
        rw [← hσ1]
        have F2 : fSt m q a σ τ S σ1 τ1 S := ⟨fun z k hz => by rw [hσ1, sg_wga (by omega), sg_wga (by omega)], by rw [hσ1]; rfl, F1.2.2.1, fun _ _ _ => rfl, rfl⟩
        have e3 : sg_lt (nI at_ + 2) (fun v2 => fn_X4_takeDivided_B19 b sg_N σ1 a (nI (at_ + n - 1)) 0 v2) = some (0, mte b σ1 (-6) (nI (at_ + (0 + 1)))) := by
          rw [show at_ + n - 1 = at_ + (0 + 1) by omega]
          show fn_X4_takeDivided_B19b b (fn_X4_takeDivided_B19 b 999) σ1 a (nI (at_ + (0 + 1))) 0 (nI at_ + 2) = _
          unfold fn_X4_takeDivided_B19b fn_X4_takeDivided_B144 fn_X4_takeDivided_B145 fn_X4_takeDivided_B165
          rw [show nI at_ + 2 = nI (at_ + 2) from nI_add at_ 2, if_pos (nI_le (by omega) (by omega)), show σ1.1 a 1 = nI 0 by rw [hσ1, sg_wgk (by decide), sg_wgk (by decide)]; exact c1, if_pos (show nI 0 ≤ (0 : Int32) by decide), if_pos rfl]
          rfl
        rw [e3]
        exact OX_tr F2 (OX_bad (by decide))
      · rw [e2, Option.bind_some, if_pos rfl]
        exact OX_tr F1 (OX_bad (by decide))
    · rw [show (999 : Nat) = 998 + 1 from rfl, rd_st hn1 (by omega) (show 0 + 1 + 1 < n by omega) h01, ri_01 hok hM1 hq (by omega) (by omega) h01]
      rcases ti1 (b := b) (a := a) (at_ := at_) (g := 998) (i := at_ + 1) hok hC (by omega) (by omega) (by omega) with ⟨w2, e2⟩ | ⟨w2, e2⟩
      · rw [e2, show fn_X4_takeIndicators_B2 b 998 σ a (nI at_) (nI (at_ + 1 + 1)) = _ from ti2 (g := 997) hok hC ha (by omega), Option.bind_some, if_neg (show ¬ (1 : Int32) = 0 by decide), if_pos (show S0 1 (at_ + (0 + 1)) = 32 ∨ (48 ≤ S0 1 (at_ + (0 + 1)) ∧ S0 1 (at_ + (0 + 1)) ≤ 57) from w2), Option.bind_some]
        obtain ⟨σ1, hσ1⟩ : ∃ s, s = sg_w (sg_w σ a 3 (nI (S0 1 at_))) a 4 (nI (S0 1 (at_ + 1))) := ⟨_, rfl⟩
        obtain ⟨τ2, hτ2⟩ : ∃ t, t = sg_w τ1 (m + 5 + (0 + 1)) q (nI (S0 1 (at_ + (0 + 1)))) := ⟨_, rfl⟩
        rw [← hσ1, ← hτ2]
        have hfm : ∀ z i, ¬ in_M m q z i → τ2.1 z i = τ.1 z i := fun z i hz => by
          rw [show τ2.1 z i = τ1.1 z i by unfold in_M at hz; rw [hτ2, sg_wg, if_neg (by omega)]]
          exact F1.2.2.1 z i hz
        obtain ⟨B1, B2⟩ := bl_F (m := m) (q := q) (a := a) (i1 := S0 1 at_) (i2 := S0 1 (at_ + 1)) (σ := σ) (τ := τ) (σ' := σ1) (τ' := τ2) (S := S) h5 hA hB (by rw [hσ1, sg_wgk (by decide), sg_wgk (by decide)]; exact c1) (by rw [hσ1, sg_wgk (by decide), sg_wgk (by decide)]; exact c2) (by rw [hσ1, sg_wgk (by decide), sg_wgs]) (by rw [hσ1, sg_wgs]) (by rw [hτ2, sg_wga (by omega), hτ1, sg_wga (by omega), hτ0, sg_wga (by omega)]; exact m4) (by rw [hτ2, sg_wga (by omega), hτ1]; exact sg_wgs) (by rw [hτ2]; exact sg_wgs) (by rw [hτ2, sg_wga (by omega), hτ1, sg_wga (by omega), hτ0, sg_wgs]; rfl) (fun z k hz => by rw [hσ1, sg_wga (by omega), sg_wga (by omega)]) (by rw [hσ1]; rfl) hfm
        have e3 : sg_lt (nI at_ + 2) (fun v2 => fn_X4_takeDivided_B19 b sg_N σ1 a (nI (at_ + n - 1)) 0 v2) = fn_X4_takeDivided_B19 b sg_N σ1 a (nI (at_ + n - 1)) 0 (nI (at_ + 2)) := by
          show fn_X4_takeDivided_B19 b sg_N σ1 a (nI (at_ + n - 1)) 0 (nI at_ + 2) = _
          rw [show nI at_ + 2 = nI (at_ + 2) from nI_add at_ 2]
        rw [e3]
        exact OX_tr B2 (dvB hok hq ha hn1 hN (n - 3) 2 sg_N 998 σ1 τ2 _ 0 (by omega) (by show _ < 1000; omega) (by omega) (by omega) (fSt_tC ha B2 hC) (fSt_tM B2 hM) (fSt_0 B2 h0) B1 (by rw [B2.2.2.2.2]; exact hge) (Or.inl ⟨rfl, rfl, s_bl_8⟩))
      · rw [e2, Option.bind_some, if_pos rfl, if_neg (show ¬ (S0 1 (at_ + (0 + 1)) = 32 ∨ (48 ≤ S0 1 (at_ + (0 + 1)) ∧ S0 1 (at_ + (0 + 1)) ≤ 57)) from w2), Option.bind_some, show (998 : Nat) = 997 + 1 from rfl, rf10 hn1 (by omega) mtM_12 (by decide)]
        exact OX_tr F1 (OX_bad (by decide))
  · rw [show fn_X4_takeIndicators_B2 b sg_N σ a (nI at_) (nI at_) = _ from e1, if_neg (show ¬ (S0 1 at_ = 32 ∨ (48 ≤ S0 1 at_ ∧ S0 1 at_ ≤ 57)) from w1), Option.bind_some, Option.bind_some, if_pos rfl, show (999 : Nat) = 998 + 1 from rfl, rf10 hn1 (by omega) mtM_12 (by decide)]
    exact OX_tr F0 (OX_bad (by decide))
