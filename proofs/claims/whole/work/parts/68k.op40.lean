-- ===== read =====
/-- the tags stand, nothing else does -/
def s_tg (S : Sh) (R n : Nat) (tg : Nat → Nat) : Sh := fun k i => if k = 5 ∧ 8 * R ≤ i ∧ i < 8 * R + n then tg (i - 8 * R) else S k i
theorem s_tg_5 {S : Sh} {R n i : Nat} {tg : Nat → Nat} (h : i < n) : s_tg S R n tg 5 (8 * R + i) = tg i := by
  unfold s_tg; rw [if_pos ⟨rfl, by omega, by omega⟩, show 8 * R + i - 8 * R = i by omega]
theorem op_read {b m : Nat} {σ τ : Sg} (h : JJ b σ m τ)   : ∃ (r : Int32) (σ' τ' : Sg), fn_X7_read b σ = some (r, σ') ∧ fn_X8_read m τ = some (r, τ') ∧ JJ b σ' m τ' := by
  obtain ⟨S, pl, hok, hc, hm⟩ := h
  have hn := hok.1
  have hR6 := hok.2.2.1
  obtain ⟨R, hR⟩ : ∃ z, z = S 2 0 := ⟨_, rfl⟩
  obtain ⟨c, hcE⟩ : ∃ z, z = b + 10 + 147 * R := ⟨_, rfl⟩
  rw [← hR] at hR6
  obtain ⟨σ1, hσ1⟩ : ∃ s, s = sg_w (sg_w σ (b + 1) 6 (-1)) (b + 1) 7 (-1) := ⟨_, rfl⟩
  obtain ⟨τ1, hτ1⟩ : ∃ t, t = sg_w (sg_w τ m 12 0) m 13 (-1) := ⟨_, rfl⟩
  have F1 : fR b c σ σ1 := ⟨fun z k q1 _ _ => by rw [hσ1, sg_wga q1, sg_wga q1], by rw [hσ1]; rfl⟩
  have G1 : gR m R τ τ1 := fun z k q1 _ _ _ _ => by rw [hτ1, sg_wg, if_neg (by omega), sg_wg, if_neg (by omega)]
  have h71 : σ1.1 (b + 1) 7 = -1 := by rw [hσ1, sg_wgs]
  have h131 : τ1.1 m 13 = -1 := by rw [hτ1, sg_wgs]
  have h121 : τ1.1 m 12 = 0 := by rw [hτ1, sg_wgk (by decide), sg_wgs]
  have hb5 : σ1.1 b 5 = nI R := by rw [F1.1 _ _ (by omega) (by omega) (by omega), hR]; exact hc.2.1
  have hm2 : τ1.1 m 2 = nI R := by rw [G1 _ _ (by omega) (by omega) (by omega) (by omega) (by omega), hR]; exact hm.2.1
  have hC1 : rc_txt b σ1 S := rtx_f (fun z k hz => F1.1 z k (by omega) (by omega) (by omega)) hc.1
  have hM1 : rm_txt m τ1 S := gR_t G1 hm.1
  by_cases h6 : R = 6
  · refine ⟨-2, σ1, τ1, ?_, ?_, JJ_bad hok hc hm hR (by rw [← hcE]; exact F1) G1 h71 h131⟩
    · unfold fn_X7_read fn_X4_forgetFault sg_lt
      simp only [Option.bind_some]
      rw [← hσ1, hb5, h6, if_neg (show ¬ nI 6 < (6 : Int32) by decide)]
    · unfold fn_X8_read sg_lt
      simp only []
      rw [← hτ1, hm2, h6, if_pos (show nI 6 = 6 from rfl)]
  have hR5 : R < 6 := by omega
  have hcb : b + 10 ≤ c := by omega
  have eC : fn_X7_read b σ = (fn_X4_fill b σ1 c).bind fun r3 => (if r3.1 = 0 then some ((r3.2.1 (b + 1) 6), r3.2) else some ((((sg_w r3.2 b 5 ((r3.2.1 b 5) + 1)).1 b 5) - 1), sg_w r3.2 b 5 ((r3.2.1 b 5) + 1))) := by
    unfold fn_X7_read fn_X4_forgetFault sg_lt
    simp only [Option.bind_some]
    rw [← hσ1, hb5, if_pos (show nI R < (6 : Int32) from nI_lt (b := 6) hR5 (by decide)), if_pos (sg_ibN hR5 (by decide)), sg_xN (by omega), ← hcE]
  have eM : fn_X8_read m τ = (fn_X8_readLeader m τ1).bind fun r4 => fn_X8_read_B46 m (999 + 1) r4.2 (nI R) r4.1 (25 + 12 * r4.1) 0 0 := by
    unfold fn_X8_read sg_lt
    simp only []
    rw [← hτ1, hm2, if_neg (show ¬ nI R = 6 from fun q => h6 ((nI_eq (b := 6) (by omega) (by omega)).mp q))]
    rfl
  have hbad : ∀ v p, v ≠ 0 → FX b c σ1 v p (fn_X4_fill b σ1 c) → RX m R τ1 v p (fn_X8_read m τ) → ∃ (r : Int32) (σ' τ' : Sg), fn_X7_read b σ = some (r, σ') ∧ fn_X8_read m τ = some (r, τ') ∧ JJ b σ' m τ' := by
    rintro v p hv ⟨σ', x1, x2, x3, x4⟩ ⟨τ', y1, y2, y3⟩
    refine ⟨v, σ', τ', ?_, y1, JJ_bad hok hc hm hR (by rw [← hcE]; exact F1.tr x4) (G1.tr y3) x3 y2⟩
    rw [eC, x1, Option.bind_some, if_pos rfl, x2]
  -- the card begins anew
  obtain ⟨σ2, a1, a2, a3, a4⟩ := fr_C (b := b) (c := c) 8 0 sg_N (sg_w σ1 c 2 0) (by omega) (by decide)
  have hbg : fn_X0_begin b σ1 c = some σ2 := a1
  have hf2 : ∀ z k, z ≠ c → z ≠ c + 1 → σ2.1 z k = σ1.1 z k := fun z k q1 q2 => by rw [a3 z k (fun w => q2 w.1), sg_wga q1]
  have F2 : fR b c σ1 σ2 := ⟨fun z k q1 q2 q3 => hf2 z k (by omega) (by omega), a4⟩
  have hC2 := fR_t hcb F2 hC1
  have h2c : σ2.1 c 2 = nI 0 := by rw [a3 _ _ (by omega), sg_wgs]; rfl
  have h72 : σ2.1 (b + 1) 7 = -1 := by rw [hf2 _ _ (by omega) (by omega)]; exact h71
  have hrwC : rwC c σ := by
    have := hc.2.2.2.2.2 R hR5
    unfold rwC
    rw [hcE]; exact this
  -- the leader
  rcases ldr hok hC2 hM1 h121 hcb with ⟨p, σ', y, l1, l2, l3, l4, l5⟩ | ⟨n, σ3, l1, l2, l3, l4, l5, l6, l7, l8, l9⟩
  · refine hbad (-3) p (by decide) ⟨σ', ?_, l2, l3, F2.tr ⟨fun z k q1 q2 q3 => l4.1 z k q1 (by omega), l4.2⟩⟩ ⟨mtM m τ1 (-3) p, ?_, mtM_13, gR_mt⟩
    · unfold fn_X4_fill
      rw [hbg, Option.bind_some, l1, Option.bind_some, if_pos rfl]
    · rw [eM, l5, Option.bind_some]
      exact rf46 mtM_12 (by decide)
  have F3 : fR b c σ1 σ3 := F2.tr ⟨fun z k q1 q2 q3 => l8.1 z k q1 (by omega), l8.2⟩
  -- the directory
  obtain ⟨σ4, hσ4⟩ : ∃ s, s = sg_w σ3 (b + 1) 4 0 := ⟨_, rfl⟩
  have F4 : fR b c σ1 σ4 := F3.tr ⟨fun z k q1 _ _ => by rw [hσ4, sg_wga q1], by rw [hσ4]; rfl⟩
  have hC4 := fR_t hcb F4 hC1
  have hbase : (25 : Int32) + 12 * nI n = nI (25 + 12 * n) := by
    show nI 25 + nI 12 * nI n = _
    rw [nI_mul, nI_add]
  have eF : fn_X4_fill b σ1 c = (fn_X4_takeDirectory_B7 b sg_N σ4 c (nI 0)).bind fun r3 => (if r3.1 = 0 then some (0, r3.2) else ((fn_X4_checkTotal b r3.2).bind fun r4 => (if r4.1 = 0 then some (0, r4.2) else ((fn_X4_takeFields b r4.2 c).bind fun r5 => (if r5.1 = 0 then some (0, r5.2) else ((fn_X4_checkEnd b r5.2).bind fun r6 => (if r6.1 = 0 then some (0, r6.2) else some (1, r6.2)))))))) := by
    unfold fn_X4_fill
    rw [hbg, Option.bind_some, l1, Option.bind_some, if_neg (show ¬ (1 : Int32) = 0 by decide)]
    unfold fn_X4_takeDirectory sg_lt
    rw [hσ4]; rfl
  have hs4 : σ4.2 = σ.2 := (F1.tr F4).2
  have hrw4 : rwC c σ4 := by unfold rwC at hrwC ⊢; rw [hs4]; exact hrwC
  have hD : DR b c m R σ4 τ1 (fun _ => 0) (fun _ => 0) 0 (smn (fun _ => 0) 0) := by
    refine ⟨?_, ?_, fun i hi => absurd hi (Nat.not_lt_zero i), fun i hi => absurd hi (Nat.not_lt_zero i), fun i hi => absurd hi (Nat.not_lt_zero i)⟩
    · rw [hσ4, sg_wga (by omega), l8.1 _ _ (by omega) (by omega)]; exact h2c
    · rw [hσ4, sg_wgs]; rfl
  have eM2 : fn_X8_read m τ = fn_X8_read_B46 m (999 + 1) τ1 (nI R) (nI n) (nI (25 + 12 * n)) (nI (smn (fun _ => 0) 0)) (nI 0) := by
    rw [eM, l2, Option.bind_some, hbase]; rfl
  have h74 : σ4.1 (b + 1) 7 = -1 := by rw [hσ4, sg_wgk (by decide), l9]; exact h72
  rcases drG (m := m) (R := R) hok hcb hR5 l3 l4 n 0 sg_N (999 + 1) σ4 τ1 (fun _ => 0) (fun _ => 0) (by omega) (by show _ < 1000; omega) (by omega) hrw4 hC4 hM1 h121 (by rw [hσ4, sg_wgk (by decide)]; exact l5) (by rw [hσ4, sg_wgk (by decide)]; exact l6) hD with ⟨v, p, hv, ⟨σ', x1, x2, x3, x4⟩, hRX⟩ | ⟨σ5, τ5, tg, ln, d1, d2, d3, d4, d5, d6, d7, d8, d9, d10⟩
  · refine hbad v p hv ⟨σ', ?_, x2, x3, F4.tr x4⟩ (by rw [eM2]; exact hRX)
    rw [eF, x1, Option.bind_some, if_pos rfl]
  rw [d1, Option.bind_some, if_neg (show ¬ (1 : Int32) = 0 by decide)] at eF
  rw [d2] at eM2
  have F5 : fR b c σ1 σ5 := F4.tr d7
  have hC5 := fR_t hcb F5 hC1
  have hM5 := gR_t d8 hM1
  have h75 : σ5.1 (b + 1) 7 = -1 := d9.trans h74
  have hsm := smn_le (ln := ln) n (fun i hi => (d5.2.2.2.2 i hi).2.2.2)
  -- the total
  have hCt : fn_X4_checkTotal b σ5 = if 25 + 12 * n + smn ln n + 1 = S 0 0 then some (1, σ5) else some (0, mte b σ5 (-5) (nI (25 + 12 * n))) := by
    unfold fn_X4_checkTotal fn_X4_checkTotal_B34
    rw [d4, d5.2.1, nI_add, nI_1, hC5.1]
    by_cases q : 25 + 12 * n + smn ln n + 1 = S 0 0
    · rw [if_pos q, if_pos (congrArg nI q)]
    · rw [if_neg q, if_neg (fun w => q ((nI_eq (by omega) (by omega)).mp w))]; rfl
  have hMt : fn_X8_read_B115 m τ5 (nI R) (nI n) (nI (25 + 12 * n)) (nI (smn ln n)) = if 25 + 12 * n + smn ln n + 1 = S 0 0 then fn_X8_read_B142 m τ5 (nI R) (nI n) (nI (25 + 12 * n)) else fn_X8_read_B142 m (mtM m τ5 (-5) (nI (25 + 12 * n))) (nI R) (nI n) (nI (25 + 12 * n)) := by
    unfold fn_X8_read_B115
    rw [if_pos d3, nI_add, nI_1, hM5.1, flM0 d3, Option.bind_some]
    by_cases q : 25 + 12 * n + smn ln n + 1 = S 0 0
    · rw [if_pos q, if_pos (congrArg nI q)]
    · rw [if_neg q, if_neg (fun w => q ((nI_eq (by omega) (by omega)).mp w))]
  rw [hCt] at eF
  rw [hMt] at eM2
  by_cases htot : 25 + 12 * n + smn ln n + 1 = S 0 0
  · rw [if_pos htot, Option.bind_some, if_neg (show ¬ (1 : Int32) = 0 by decide)] at eF
    rw [if_pos htot] at eM2
    -- the fields
    obtain ⟨Sa, hSa⟩ : ∃ s, s = s_tg S R n tg := ⟨_, rfl⟩
    have ht5 : ∀ i, i < n → Sa 5 (8 * R + i) = tg i := fun i hi => by rw [hSa]; exact s_tg_5 hi
    have hrw5 : rwC c σ5 := by unfold rwC at hrwC ⊢; rw [(F1.tr F5).2]; exact hrwC
    have hW0 : WF b c m R n σ5 τ5 Sa ln 0 := by
      obtain ⟨D1, D2, D3, D4, D5⟩ := d5
      refine ⟨D1, fun i hi => ⟨(D3 i hi).2.2.2.2, (D4 i hi).2⟩, fun i hi => ?_, fun i _ hi => ?_, fun i hi => absurd hi (Nat.not_lt_zero i)⟩
      · rw [ht5 i hi]; exact D5 i hi
      · rw [ht5 i hi]; exact ⟨(D3 i hi).1, (D3 i hi).2.1, (D3 i hi).2.2.1, (D3 i hi).2.2.2.1, (D4 i hi).1⟩
    have eT : fn_X4_takeFields b σ5 c = fn_X4_takeFields_B7 b sg_N σ5 c (nI (25 + 12 * n + smn ln 0)) (nI 0) := by
      unfold fn_X4_takeFields sg_lt
      rw [d4]; rfl
    rw [eT] at eF
    rcases fdG (m := m) (R := R) (ln := ln) hok hcb hR5 l3 htot n 0 sg_N sg_N σ5 τ5 Sa (by omega) (by show _ < 1000; omega) (by show _ < 1000; omega) hrw5 hC5 hM5 d3 hW0 with ⟨v, p, hv, ⟨σ', x1, x2, x3, x4⟩, ⟨τ', y1, y2, y3⟩⟩ | ⟨σ6, τ6, Sx, f1, f2, f3, f4, f5, f6, f7, f8, f9, f10⟩
    · refine hbad v p hv ⟨σ', ?_, x2, x3, F5.tr x4⟩ ⟨τ', ?_, y2, d8.tr y3⟩
      · rw [eF, x1, Option.bind_some, if_pos rfl]
      · rw [eM2]; exact y1
    · rw [f1, Option.bind_some, if_neg (show ¬ (1 : Int32) = 0 by decide)] at eF
      have eM3 : fn_X8_read m τ = fn_X8_read_B239 m τ6 (nI R) (nI n) := eM2.trans f2
      have F6 : fR b c σ1 σ6 := F5.tr f6
      have G6 : gR m R τ1 τ6 := d8.tr f7
      have hC6 := fR_t hcb F6 hC1
      have hM6 := gR_t G6 hM1
      have hNl : S 0 0 - 1 < S 0 0 := by omega
      have h128 := hok.2.1 _ hNl
      have h76 : σ6.1 (b + 1) 7 = -1 := f9.trans h75
      -- the end
      have eE : fn_X4_checkEnd b σ6 = if S 1 (S 0 0 - 1) = 29 then some (1, σ6) else some (0, mte b σ6 (-7) (nI (S 0 0 - 1))) := by
        unfold fn_X4_checkEnd fn_X4_checkEnd_B39
        rw [hC6.1, show nI (S 0 0) - 1 = nI (S 0 0 - 1) from s_sub (b := 1) (by omega), cdA hC6 hn (by omega), Option.bind_some, show cdv S (S 0 0 - 1) = nI (S 1 (S 0 0 - 1)) from if_pos hNl]
        by_cases q : S 1 (S 0 0 - 1) = 29
        · rw [if_pos q, if_pos (show nI (S 1 (S 0 0 - 1)) = 29 by rw [q]; rfl)]
        · rw [if_neg q, if_neg (show ¬ nI (S 1 (S 0 0 - 1)) = 29 from fun w => q ((nI_eq (b := 29) (by omega) (by omega)).mp w))]; rfl
      have eE2 : fn_X8_read_B239 m τ6 (nI R) (nI n) = if S 1 (S 0 0 - 1) = 29 then fn_X8_read_B274 m τ6 (nI R) (nI n) else fn_X8_read_B274 m (mtM m τ6 (-7) (nI (S 0 0 - 1))) (nI R) (nI n) := by
        unfold fn_X8_read_B239
        rw [if_pos f3, hM6.1, show nI (S 0 0) - 1 = nI (S 0 0 - 1) from s_sub (b := 1) (by omega), if_pos (sg_ibN (by omega) (by decide)), sg_xN (by omega), hM6.2 _ hNl, flM0 f3, Option.bind_some]
        by_cases q : S 1 (S 0 0 - 1) = 29
        · rw [if_pos q, if_pos (show nI (S 1 (S 0 0 - 1)) = 29 by rw [q]; rfl)]
        · rw [if_neg q, if_neg (show ¬ nI (S 1 (S 0 0 - 1)) = 29 from fun w => q ((nI_eq (b := 29) (by omega) (by omega)).mp w))]
      rw [eE] at eF
      rw [eE2] at eM3
      by_cases q : S 1 (S 0 0 - 1) = 29
      · rw [if_pos q, Option.bind_some, if_neg (show ¬ (1 : Int32) = 0 by decide)] at eF
        rw [if_pos q] at eM3
        have hm26 : τ6.1 m 2 = nI R := by rw [G6 _ _ (by omega) (by omega) (by omega) (by omega) (by omega)]; exact hm2
        have hb56 : σ6.1 b 5 = nI R := by rw [F6.1 _ _ (by omega) (by omega) (by omega)]; exact hb5
        obtain ⟨τ7, g1, g2, g3, g4, g5⟩ := lt289 (m := m) (n := n) hok hR5 (by omega) 8 0 sg_N τ6 (by omega) (by decide) hM6 hm26
        refine ⟨nI R, sg_w σ6 b 5 (nI (R + 1)), τ7, ?_, ?_, JJ_new (p := -1) (ln := ln) hok hc hm hR hR5 hcE l3 (F1.tr F6) (G1.tr G6) h76 ?_ f4 (fun i hi => ⟨?_, (l7 i hi).2⟩) (fun k i hk => ?_) (fun i hi => g2 i (Nat.zero_le i) hi) g3 g4 (fun z i q1 q2 q3 => g5 z i q1 q2 q3)⟩
        · rw [eC, eF, Option.bind_some, if_neg (show ¬ (1 : Int32) = 0 by decide)]
          show some ((sg_w σ6 b 5 (σ6.1 b 5 + 1)).1 b 5 - 1, sg_w σ6 b 5 (σ6.1 b 5 + 1)) = _
          rw [hb56, nI_1, sg_wgs, nI_pred]
        · rw [eM3]
          unfold fn_X8_read_B274
          rw [if_pos f3]
          exact g1
        · rw [f10, d10]; exact h131
        · rw [f5 i, d6 i, hσ4, sg_wga (by omega)]; exact (l7 i hi).1
        · rw [f8 k i hk, hSa]
          unfold s_tg
          unfold inS at hk
          rw [if_neg (by omega)]
      · rw [if_neg q, Option.bind_some, if_pos rfl] at eF
        rw [if_neg q] at eM3
        exact hbad (-7) (nI (S 0 0 - 1)) (by decide) ⟨_, eF, mte_6, mte_7, F6.tr ⟨fun z k q1 _ _ => mte_o q1, rfl⟩⟩ ⟨_, eM3.trans (rf274 mtM_12 (by decide)), mtM_13, G6.tr gR_mt⟩
  · rw [if_neg htot, Option.bind_some, if_pos rfl] at eF
    rw [if_neg htot] at eM2
    exact hbad (-5) (nI (25 + 12 * n)) (by decide) ⟨_, eF, mte_6, mte_7, F5.tr ⟨fun z k q1 _ _ => mte_o q1, rfl⟩⟩ ⟨_, eM2.trans (rf142 mtM_12 (by decide)), mtM_13, d8.tr gR_mt⟩
