-- ===== read: an entry of the directory, both =====
def enC (b c a : Nat) (σ σ' : Sg) (f st tag L : Nat) : Prop := σ'.1 a 1 = nI 0 ∧ σ'.1 a 2 = nI tag ∧ σ'.1 a 3 = nI 0 ∧ σ'.1 a 4 = nI 0 ∧ σ'.1 c 2 = nI (f + 1) ∧ σ'.1 (b + 4) f = nI L ∧ σ'.1 (b + 1) 4 = nI (st + L) ∧ (∀ z k, z ≠ a → ¬ (z = c ∧ k = 2) → ¬ (z = b + 4 ∧ k = f) → ¬ (z = b + 1 ∧ (k = 4 ∨ k = 5)) → σ'.1 z k = σ.1 z k) ∧ σ'.2 = σ.2
theorem ent {b m c a R f st : Nat} {σ τ : Sg} {S : Sh} (hok : ps_ok S) (hC : rc_txt b σ S) (hM : rm_txt m τ S) (h0 : τ.1 m 12 = 0) (hc : b + 10 ≤ c) (hR : R < 6) (hf : f < 8) (hN : 24 + 12 * f + 12 ≤ S 0 0) (hcf : σ.1 c 2 = nI f) (ha : σ.2 (c + 2) f = a) (hca : c + 3 ≤ a) (hca2 : a < c + 147) (hst : σ.1 (b + 1) 4 = nI st) (hst2 : st < 1000000) : (∃ p, FX b c σ (-4) p (fn_X4_takeEntry b σ c (nI f)) ∧ GX m R τ (-4) p (fn_X8_readEntry m τ (nI R) (nI f) (nI st))) ∨ (∃ σ' τ' tag L, fn_X4_takeEntry b σ c (nI f) = some (1, σ') ∧ fn_X8_readEntry m τ (nI R) (nI f) (nI st) = some τ' ∧ enC b c a σ σ' f st tag L ∧ τ' = sg_w (sg_w τ (m + 4) (8 * R + f) (nI tag)) (m + 11) f (nI L) ∧ 1 ≤ tag ∧ tag ≤ 999 ∧ (if tag < 10 then 1 else 2) ≤ L ∧ L < 10000) := by
  have hn := hok.1
  have h103 : 10 ^ 3 = 1000 := by decide
  have h104 : 10 ^ 4 = 10000 := by decide
  obtain ⟨a0, ha0⟩ : ∃ z, z = 24 + 12 * f := ⟨_, rfl⟩
  have hN0 : a0 + 12 ≤ S 0 0 := by omega
  have hat : (24 : Int32) + 12 * nI f = nI a0 := by
    rw [ha0]
    show nI 24 + nI 12 * nI f = _
    rw [nI_mul, nI_add]
  have eC : fn_X4_takeEntry b σ c (nI f) = ((fn_X4_takeNumber b σ (nI a0) 3 (-4)).bind fun r2 => (if r2.1 = 0 then some (0, r2.2) else (if (r2.2.1 (b + 1) 5) = 0 then ((fn_X4_meet b r2.2 (-4) (nI a0 + 2)).bind fun r7 => (if sg_bo r7.1 then some (r7.1, r7.2) else none)) else ((fn_X0_addField b r2.2 c (r2.2.1 (b + 1) 5)).bind fun r3 => ((fn_X4_takeNumber b r3.2 (nI a0 + 3) 4 (-4)).bind fun r5 => (if r5.1 = 0 then some (0, r5.2) else ((fn_X1_isSimple b r5.2 r3.1).bind fun r6 => (if r6 = 0 then fn_X4_takeEntry_B80 b r5.2 (nI f) (nI a0) 2 (r5.2.1 (b + 1) 5) else fn_X4_takeEntry_B80 b r5.2 (nI f) (nI a0) 1 (r5.2.1 (b + 1) 5))))))))) := by
    unfold fn_X4_takeEntry
    rw [hat]; rfl
  have eM : fn_X8_readEntry m τ (nI R) (nI f) (nI st) = fn_X8_readEntry_B13 m 1000 τ (nI R) (nI f) (nI st) (nI a0) (nI (a0 + 0)) := by
    unfold fn_X8_readEntry
    rw [hat]; rfl
  have g7 : ∀ k, k < 7 → gD S (a0 + k) → gN S st a0 k := fun k hk h => by unfold gN; rw [if_pos hk]; exact h
  have g7' : ∀ k, k < 7 → gN S st a0 k → gD S (a0 + k) := fun k hk h => by unfold gN at h; rw [if_pos hk] at h; exact h
  rw [eC, eM]
  rcases tnC (b := b) (at_ := a0) (K := 3) (kind := -4) hC hok (by omega) (by omega) with ⟨a1, σ1, a2, a3, a4, a5⟩ | ⟨i, a1, a2, a3, a4, σ', a5, a6, a7, a8, a9⟩
  · have hg3 : ∀ i, i < 3 → gD S (a0 + i) := fun i hi => a1 (a0 + i) (by omega) (by omega)
    have hlt := nv_lt (S := S) (a := a0) 3 hg3
    rw [h103] at hlt
    have eR := re_R (R := R) (f := f) hok hM h0 (show st < 2 ^ 31 by omega) hN0 2 0 998 (by omega) (fun i _ hi => ⟨g7 i (by omega) (hg3 i (by omega)), by omega, by omega⟩)
    rw [show fn_X4_takeNumber b σ (nI a0) 3 (-4) = some (1, σ1) from a2, Option.bind_some, if_neg (show ¬ (1 : Int32) = 0 by decide), a3, show (1000 : Nat) = 998 + 2 from rfl, eR]
    have e2 := re_2 (g := 996) (R := R) (f := f) hok hM h0 (show st < 2 ^ 31 by omega) hN0 hR hf hg3
    generalize nv (S 1) a0 3 = tag at *
    have hF1 : fR b c σ σ1 := ⟨fun z k q1 _ _ => a4 z k (fun w => q1 w.1), a5⟩
    rcases e2 with ⟨hz, e2⟩ | ⟨hz, e2⟩
    · left
      rw [if_pos (show nI tag = 0 by rw [hz]; rfl), show nI a0 + 2 = nI (a0 + 2) from nI_add a0 2]
      refine ⟨nI (a0 + 2), ⟨mte b σ1 (-4) (nI (a0 + 2)), rfl, mte_6, mte_7, hF1.tr ⟨fun z k q1 _ _ => mte_o q1, rfl⟩⟩, ⟨_, e2, mtM_12, mtM_13, fun z k q1 q2 q3 q4 q5 => ?_⟩⟩
      rw [mtM_o q1, sg_wg, if_neg (by omega)]
    · rw [if_neg (show ¬ nI tag = 0 from fun w => hz ((nI_eq (b := 0) (by omega) (by omega)).mp w))]
      obtain ⟨ρ, r1, r2⟩ := ad_F0 (b := b) (c := c) (a := a) (f := f) (tag := tag) (σ := σ1) (by rw [a4 _ _ (by omega)]; exact hcf) hf (by rw [a5]; exact ha) (by omega)
      have hFr : fR b c σ ρ := hF1.tr ⟨fun z k q1 _ q3 => r2.2.2.2.2.2.1 z k (by omega) (by omega), r2.2.2.2.2.2.2⟩
      have hCr := fR_t hc hFr hC
      rw [r1, Option.bind_some]
      have hat3 : nI a0 + 3 = nI (a0 + 3) := nI_add a0 3
      -- the reference with the tag
      obtain ⟨τ1, hτ1⟩ : ∃ t, t = sg_w τ (m + 4) (8 * R + f) (nI tag) := ⟨_, rfl⟩
      rw [← hτ1] at e2
      have G1 : gR m R τ τ1 := fun z k q1 q2 q3 q4 q5 => by rw [hτ1, sg_wg, if_neg (by omega)]
      have hM1 := gR_t G1 hM
      have h01 : τ1.1 m 12 = 0 := by rw [hτ1, sg_wga (by omega)]; exact h0
      have ht1 : τ1.1 (m + 4) (8 * R + f) = nI tag := by rw [hτ1, sg_wgs]
      rw [show (998 : Nat) = 996 + 2 from rfl, show a0 + (0 + 2) = a0 + 2 by omega, e2]
      rcases tnC (b := b) (at_ := a0 + 3) (K := 4) (kind := -4) hCr hok (by omega) (by omega) with ⟨b1, σ2, b2, b3, b4, b5⟩ | ⟨i, b1, b2, b3, b4, σ', b5, b6, b7, b8, b9⟩
      · have hg4 : ∀ i, i < 4 → gD S (a0 + 3 + i) := fun i hi => b1 (a0 + 3 + i) (by omega) (by omega)
        have hlt4 := nv_lt (S := S) (a := a0 + 3) 4 hg4
        rw [h104] at hlt4
        have eR2 := re_R (R := R) (f := f) hok hM1 h01 (show st < 2 ^ 31 by omega) hN0 3 3 994 (by omega) (fun i h1 hi => ⟨g7 i (by omega) (by rw [show a0 + i = a0 + 3 + (i - 3) by omega]; exact hg4 (i - 3) (by omega)), by omega, by omega⟩)
        rw [show (996 + 1 : Nat) = 994 + 3 from rfl, eR2]
        have e6 := re_6 (g := 992) (R := R) (f := f) hok hM1 h01 (show st < 2 ^ 31 by omega) hN0 hR hf hg4 ht1 hlt
        have hF2 : fR b c σ σ2 := hFr.tr ⟨fun z k q1 _ _ => b4 z k (fun w => q1 w.1), b5⟩
        have hC2 := fR_t hc hF2 hC
        have et2 : σ2.1 a 2 = nI tag := by rw [b4 _ _ (by omega)]; exact r2.2.1
        rw [show fn_X4_takeNumber b ρ (nI a0 + 3) 4 (-4) = some (1, σ2) by rw [hat3]; exact b2, Option.bind_some, if_neg (show ¬ (1 : Int32) = 0 by decide)]
        rw [b3]
        generalize nv (S 1) (a0 + 3) 4 = L at *
        have h80 : ((fn_X1_isSimple b σ2 a).bind fun r6 => (if r6 = 0 then fn_X4_takeEntry_B80 b σ2 (nI f) (nI a0) 2 (nI L) else fn_X4_takeEntry_B80 b σ2 (nI f) (nI a0) 1 (nI L))) = fn_X4_takeEntry_B80 b σ2 (nI f) (nI a0) (nI (if tag < 10 then 1 else 2)) (nI L) := by
          unfold fn_X1_isSimple
          rw [et2]
          by_cases q : tag < 10
          · rw [if_neg (show ¬ (10 : Int32) ≤ nI tag from nI_ge (b := 10) q (by decide)), Option.bind_some, if_neg (show ¬ (1 : Int32) = 0 by decide), if_pos q]; rfl
          · rw [if_pos (show (10 : Int32) ≤ nI tag from nI_le (a := 10) (by omega) (by omega)), Option.bind_some, if_pos rfl, if_neg q]; rfl
        have hlo : (if tag < 10 then 1 else 2) ≤ 2 := by split <;> omega
        rw [show a0 + (3 + 3) = a0 + 6 by omega, show (994 : Nat) = 992 + 2 from rfl]
        show (∃ p, FX b c σ (-4) p ((fn_X1_isSimple b σ2 a).bind fun r6 => (if r6 = 0 then fn_X4_takeEntry_B80 b σ2 (nI f) (nI a0) 2 (nI L) else fn_X4_takeEntry_B80 b σ2 (nI f) (nI a0) 1 (nI L))) ∧ _) ∨ (∃ σ' τ' tag' L', ((fn_X1_isSimple b σ2 a).bind fun r6 => (if r6 = 0 then fn_X4_takeEntry_B80 b σ2 (nI f) (nI a0) 2 (nI L) else fn_X4_takeEntry_B80 b σ2 (nI f) (nI a0) 1 (nI L))) = some (1, σ') ∧ _)
        rw [h80]
        unfold fn_X4_takeEntry_B80
        rcases e6 with ⟨hs, e6⟩ | ⟨hs, e6⟩
        · left
          rw [e6, if_neg (nI_ge hs (by omega)), show nI a0 + 6 = nI (a0 + 6) from nI_add a0 6]
          refine ⟨nI (a0 + 6), ⟨mte b σ2 (-4) (nI (a0 + 6)), rfl, mte_6, mte_7, hF2.tr ⟨fun z k q1 _ _ => mte_o q1, rfl⟩⟩, ⟨_, rfl, mtM_12, mtM_13, fun z k q1 q2 q3 q4 q5 => ?_⟩⟩
          rw [mtM_o q1, sg_wga q2]; exact G1 z k q1 q2 q3 q4 q5
        · rw [e6, if_pos (nI_le (by omega) (by omega)), if_pos (sg_ibN hf (by decide)), sg_xN (by omega), b3]
          unfold sg_lt
          simp only []
          obtain ⟨σ3, hσ3⟩ : ∃ s, s = sg_w σ2 (b + 4) f (nI L) := ⟨_, rfl⟩
          have e34 : σ3.1 (b + 1) 4 = nI st := by
            rw [hσ3, sg_wga (by omega), b4 _ _ (by omega), r2.2.2.2.2.2.1 _ _ (by omega) (by omega), a4 _ _ (by omega)]; exact hst
          have e35 : σ3.1 (b + 1) 5 = nI L := by rw [hσ3, sg_wga (by omega)]; exact b3
          rw [← hσ3, e34, e35, nI_add]
          obtain ⟨σ4, hσ4⟩ : ∃ s, s = sg_w σ3 (b + 1) 4 (nI (st + L)) := ⟨_, rfl⟩
          rw [← hσ4]
          have hF4 : fR b c σ σ4 := hF2.tr ⟨fun z k q1 q2 _ => by rw [hσ4, sg_wga q1, hσ3, sg_wga q2], by rw [hσ4, hσ3]; rfl⟩
          have hC4 := fR_t hc hF4 hC
          -- the reference with the length
          obtain ⟨τ2, hτ2⟩ : ∃ t, t = sg_w τ1 (m + 11) f (nI L) := ⟨_, rfl⟩
          have G2 : gR m R τ τ2 := G1.tr (fun z k q1 q2 q3 q4 q5 => by rw [hτ2, sg_wga q2])
          have hM2 := gR_t G2 hM
          have h02 : τ2.1 m 12 = 0 := by rw [hτ2, sg_wga (by omega)]; exact h01
          rw [← hτ2]
          rw [show nI a0 + 7 = nI (a0 + 7) from nI_add a0 7]
          rcases exC (b := b) (due := st) (at_ := a0 + 7) (K := 5) (kind := -4) hC4 hok (by omega) (by omega) (by omega) with ⟨c1, c2⟩ | ⟨i, c1, c2, c3, c4, σ', c5, c6, c7, c8, c9⟩
          · right
            have eR3 := re_R (R := R) (f := f) hok hM2 h02 (show st < 2 ^ 31 by omega) hN0 5 7 988 (by omega) (fun i h1 hi => ⟨by unfold gN; rw [if_neg (by omega)]; exact c1 (a0 + i) (by omega) (by omega), by omega, by omega⟩)
            refine ⟨σ4, τ2, tag, L, ?_, ?_, ⟨?_, ?_, ?_, ?_, ?_, ?_, ?_, fun z k q1 q2 q3 q4 => ?_, hF4.2⟩, by rw [hτ2, hτ1], by omega, by omega, by omega, hlt4⟩
            · rw [show fn_X4_expectNumber b σ4 (nI st) (nI (a0 + 7)) 5 (-4) = some (1, σ4) from c2]; rfl
            · rw [show (992 + 1 : Nat) = 988 + 5 from rfl, eR3, show a0 + (7 + 5) = a0 + 12 by omega]
              exact re_E (g := 987) hok hN0
            · rw [hσ4, sg_wga (by omega), hσ3, sg_wga (by omega), b4 _ _ (by omega)]; exact r2.1
            · rw [hσ4, sg_wga (by omega), hσ3, sg_wga (by omega)]; exact et2
            · rw [hσ4, sg_wga (by omega), hσ3, sg_wga (by omega), b4 _ _ (by omega)]; exact r2.2.2.1
            · rw [hσ4, sg_wga (by omega), hσ3, sg_wga (by omega), b4 _ _ (by omega)]; exact r2.2.2.2.1
            · rw [hσ4, sg_wga (by omega), hσ3, sg_wga (by omega), b4 _ _ (by omega)]; exact r2.2.2.2.2.1
            · rw [hσ4, sg_wga (by omega), hσ3, sg_wgs]
            · rw [hσ4, sg_wgs]
            · rw [hσ4, sg_wg, if_neg (by omega), hσ3, sg_wg, if_neg q3, b4 z k (by omega), r2.2.2.2.2.2.1 z k q1 q2, a4 z k (by omega)]
          · left
            have eR3 := re_R (R := R) (f := f) hok hM2 h02 (show st < 2 ^ 31 by omega) hN0 (i - (a0 + 7)) 7 (993 - (i - (a0 + 7))) (by omega) (fun j h1 hj => ⟨by unfold gN; rw [if_neg (by omega)]; exact c3 (a0 + j) (by omega) (by omega), by omega, by omega⟩)
            have eB := re_B (g := 991 - (i - (a0 + 7))) (R := R) (f := f) (k := i - a0) hok hM2 h02 (show st < 2 ^ 31 by omega) (by omega) (show a0 + (i - a0) < S 0 0 by omega) (fun q => c4 (by unfold gN at q; rw [if_neg (by omega), show a0 + (i - a0) = i by omega] at q; exact q))
            refine ⟨nI i, ⟨σ', ?_, c6, c7, hF4.tr ⟨fun z k q1 _ _ => c8 z k q1, c9⟩⟩, ⟨mtM m τ2 (-4) (nI i), ?_, mtM_12, mtM_13, G2.tr gR_mt⟩⟩
            · rw [show fn_X4_expectNumber b σ4 (nI st) (nI (a0 + 7)) 5 (-4) = some (0, σ') from c5]; rfl
            · rw [show (992 + 1 : Nat) = 993 - (i - (a0 + 7)) + (i - (a0 + 7)) by omega, eR3, show a0 + (7 + (i - (a0 + 7))) = a0 + (i - a0) by omega, show 993 - (i - (a0 + 7)) = 991 - (i - (a0 + 7)) + 2 by omega, eB, show a0 + (i - a0) = i by omega]
      · left
        have eR2 := re_R (R := R) (f := f) hok hM1 h01 (show st < 2 ^ 31 by omega) hN0 (i - (a0 + 3)) 3 (997 - (i - (a0 + 3))) (by omega) (fun j h1 hj => ⟨g7 j (by omega) (b3 (a0 + j) (by omega) (by omega)), by omega, by omega⟩)
        have eB := re_B (g := 995 - (i - (a0 + 3))) (R := R) (f := f) (k := i - a0) hok hM1 h01 (show st < 2 ^ 31 by omega) (by omega) (show a0 + (i - a0) < S 0 0 by omega) (fun q => b4 (by have := g7' _ (by omega) q; rwa [show a0 + (i - a0) = i by omega] at this))
        refine ⟨nI i, ⟨σ', ?_, b6, b7, hFr.tr ⟨fun z k q1 _ _ => b8 z k q1, b9⟩⟩, ⟨mtM m τ1 (-4) (nI i), ?_, mtM_12, mtM_13, G1.tr gR_mt⟩⟩
        · rw [show fn_X4_takeNumber b ρ (nI a0 + 3) 4 (-4) = some (0, σ') by rw [hat3]; exact b5]; rfl
        · rw [show (996 + 1 : Nat) = 997 - (i - (a0 + 3)) + (i - (a0 + 3)) by omega, eR2, show a0 + (3 + (i - (a0 + 3))) = a0 + (i - a0) by omega, show 997 - (i - (a0 + 3)) = 995 - (i - (a0 + 3)) + 2 by omega, eB, show a0 + (i - a0) = i by omega]
  · left
    have eR := re_R (R := R) (f := f) hok hM h0 (show st < 2 ^ 31 by omega) hN0 (i - a0) 0 (1000 - (i - a0)) (by omega) (fun j h1 hj => ⟨g7 j (by omega) (a3 (a0 + j) (by omega) (by omega)), by omega, by omega⟩)
    have eB := re_B (g := 998 - (i - a0)) (R := R) (f := f) (k := i - a0) hok hM h0 (show st < 2 ^ 31 by omega) (by omega) (show a0 + (i - a0) < S 0 0 by omega) (fun q => a4 (by have := g7' _ (by omega) q; rwa [show a0 + (i - a0) = i by omega] at this))
    refine ⟨nI i, ⟨σ', ?_, a6, a7, ⟨fun z k q1 _ _ => a8 z k q1, a9⟩⟩, ⟨mtM m τ (-4) (nI i), ?_, mtM_12, mtM_13, gR_mt⟩⟩
    · rw [show fn_X4_takeNumber b σ (nI a0) 3 (-4) = some (0, σ') from a5]; rfl
    · rw [show (1000 : Nat) = 1000 - (i - a0) + (i - a0) by omega, eR, show a0 + (0 + (i - a0)) = a0 + (i - a0) by omega, show 1000 - (i - a0) = 998 - (i - a0) + 2 by omega, eB, show a0 + (i - a0) = i by omega]
