theorem op_mark {b m : Nat} {σ τ : Sg} (h : JJ b σ m τ) (x1 : Int32) (x2 : Int32) (x3 : Int32)  : ∃ r : Int32, fn_X7_mark b σ x1 x2 x3 = some r ∧ fn_X8_mark m τ x1 x2 x3 = some r := by
  obtain ⟨S, pl, hok, hc, hm⟩ := h
  have hn : S 2 0 ≤ 6 := hok.2.2.1
  rcases bad_or x1 (n := S 2 0) (by omega) with hb | ⟨r, hr, rfl⟩
  · refine ⟨-1, ?_, ?_⟩
    · unfold fn_X7_mark
      rw [hfC_r hc.2.1 hb]; rfl
    · unfold fn_X8_mark
      rw [hfM_r hm.2.1 hb]; rfl
  have hR := hok.2.2.2.1 r hr
  have hC := hc.2.2.1 r hr
  have hM := hm.2.2.1 r hr
  have hf8 := hR.1
  rcases bad_or x2 (n := S 4 r) (by omega) with hb | ⟨f, hf, rfl⟩
  · refine ⟨-1, ?_, ?_⟩
    · unfold fn_X7_mark
      rw [hfC_bad hc.2.1 hn hr hC.1 hb]; rfl
    · unfold fn_X8_mark
      rw [hfM_bad hm.2.1 hn hr hM.1 hb]; rfl
  have eC : fn_X7_mark b σ (nI r) (nI f) x3 = (if x3 = 0 then some (nI (S 5 (8 * r + f))) else if x3 = 1 then some (nI (S 6 (8 * r + f))) else if x3 = 2 then some (nI (S 7 (8 * r + f))) else some (-1)) := by
    unfold fn_X7_mark
    rw [hfC_ok hc.2.1 hn hr hC.1 hR.1 hf]
    simp only [Option.bind_some]
    rw [if_neg (by decide), if_pos (sg_ibN (by omega) (by omega)), if_pos (sg_ibN (by omega) (by omega)), sg_xN (by omega), sg_xN (by omega)]
    unfold sg_lt
    simp only []
    rw [(hC.2.2 f hf).1, (hC.2.2 f hf).2.1, (hC.2.2 f hf).2.2.1]
  have eM : fn_X8_mark m τ (nI r) (nI f) x3 = (if x3 < 0 then some (-1) else if x3 ≤ 2 then (if x3 = 0 then some (nI (S 5 (8 * r + f))) else if x3 = 1 then some (nI (S 6 (8 * r + f))) else some (nI (S 7 (8 * r + f)))) else some (-1)) := by
    unfold fn_X8_mark
    rw [hfM_ok hm.2.1 hn hr hM.1 hR.1 hf]
    simp only [Option.bind_some]
    rw [if_neg (by decide), nI_8r]
    unfold sg_lt
    simp only []
    rw [if_pos (sg_ibN (show 8 * r + f < 48 by omega) (by omega)), sg_xN (by omega), if_pos (sg_ibN (show 8 * r + f < 48 by omega) (by omega)), if_pos (sg_ibN (show 8 * r + f < 48 by omega) (by omega)), (hM.2.2 f hf).1, (hM.2.2 f hf).2.1, (hM.2.2 f hf).2.2.1]
  rw [eC, eM]
  by_cases h0 : x3 = 0
  · subst h0; exact ⟨_, rfl, rfl⟩
  by_cases h1 : x3 = 1
  · subst h1; exact ⟨_, rfl, rfl⟩
  by_cases h2 : x3 = 2
  · subst h2; exact ⟨_, rfl, rfl⟩
  refine ⟨-1, ?_, ?_⟩
  · rw [if_neg h0, if_neg h1, if_neg h2]
  · rcases sg_out3 h0 h1 h2 with hz | hz
    · rw [if_pos hz]
    · by_cases hq : x3 < 0
      · rw [if_pos hq]
      · rw [if_neg hq, if_neg hz]
-- subfields
theorem hsC_r {b : Nat} {σ : Sg} {n : Nat} {x y z : Int32} (hc : σ.1 b 5 = nI n) (h : bad x n) : fn_X7_hasSubfield b σ x y z = some 0 := by
  unfold fn_X7_hasSubfield
  rw [hfC_r hc h]; rfl
theorem hsM_r {m : Nat} {τ : Sg} {n : Nat} {x y z : Int32} (hc : τ.1 m 2 = nI n) (h : bad x n) : fn_X8_isSubfield m τ x y z = some 0 := by
  unfold fn_X8_isSubfield
  rw [hfM_r hc h]; rfl
theorem hsC_f {b : Nat} {σ : Sg} {n r k : Nat} {y z : Int32} (hc : σ.1 b 5 = nI n) (hn : n ≤ 6) (h : r < n) (hk : σ.1 (ad_C b r) 2 = nI k) (hy : bad y k) : fn_X7_hasSubfield b σ (nI r) y z = some 0 := by
  unfold fn_X7_hasSubfield
  rw [hfC_bad hc hn h hk hy]; rfl
theorem hsM_f {m : Nat} {τ : Sg} {n r k : Nat} {y z : Int32} (hc : τ.1 m 2 = nI n) (hn : n ≤ 6) (h : r < n) (hk : τ.1 (m + 3) r = nI k) (hy : bad y k) : fn_X8_isSubfield m τ (nI r) y z = some 0 := by
  unfold fn_X8_isSubfield
  rw [hfM_bad hc hn h hk hy]; rfl
theorem hsC_val {b : Nat} {σ : Sg} {n r k f c : Nat} {z : Int32} (hc : σ.1 b 5 = nI n) (hn : n ≤ 6) (h : r < n) (hk : σ.1 (ad_C b r) 2 = nI k) (hk8 : k ≤ 8) (hf : f < k) (hs : σ.1 (σ.2 (ad_C b r + 2) f) 1 = nI c) : fn_X7_hasSubfield b σ (nI r) (nI f) z = some (if z < 0 then 0 else if nI c ≤ z then 0 else 1) := by
  unfold fn_X7_hasSubfield
  rw [hfC_ok hc hn h hk hk8 hf]
  simp only [Option.bind_some]
  rw [if_neg (by decide)]
  by_cases h0 : z < 0
  · rw [if_pos h0, if_pos h0]
  · rw [if_neg h0, if_neg h0, if_pos (sg_ibN (by omega) (by omega)), if_pos (sg_ibN (by omega) (by omega)), sg_xN (by omega), sg_xN (by omega), hs]
    by_cases h1 : nI c ≤ z
    · rw [if_pos h1, if_pos h1]
    · rw [if_neg h1, if_neg h1]
theorem hsM_val {m : Nat} {τ : Sg} {n r k f c : Nat} {z : Int32} (hc : τ.1 m 2 = nI n) (hn : n ≤ 6) (h : r < n) (hk : τ.1 (m + 3) r = nI k) (hk8 : k ≤ 8) (hf : f < k) (hs : τ.1 (m + 7) (8 * r + f) = nI c) : fn_X8_isSubfield m τ (nI r) (nI f) z = some (if z < 0 then 0 else if nI c ≤ z then 0 else 1) := by
  unfold fn_X8_isSubfield
  rw [hfM_ok hc hn h hk hk8 hf]
  simp only [Option.bind_some]
  rw [if_neg (by decide)]
  by_cases h0 : z < 0
  · rw [if_pos h0, if_pos h0]
  · rw [if_neg h0, if_neg h0, nI_8r, if_pos (sg_ibN (by omega) (by omega)), sg_xN (by omega), hs]
    by_cases h1 : nI c ≤ z
    · rw [if_pos h1, if_pos h1]
    · rw [if_neg h1, if_neg h1]
theorem val_bad {z : Int32} {c : Nat} (h : bad z c) : (if z < 0 then (0 : Int32) else if nI c ≤ z then 0 else 1) = 0 := by
  by_cases h0 : z < 0
  · rw [if_pos h0]
  · rw [if_neg h0, if_pos (h.resolve_left h0)]
theorem val_ok {c j : Nat} (h : j < c) (hc : c < 2 ^ 31) : (if nI j < 0 then (0 : Int32) else if nI c ≤ nI j then 0 else 1) = 1 := by
  rw [if_neg (nI_pos (by omega)), if_neg (nI_ge h hc)]
theorem nI_4q (q s : Nat) : (4 * nI q) + nI s = nI (4 * q + s) := by
  rw [show (4 : Int32) = nI 4 from rfl, pk_mul, nI_add]
theorem nI_20 (q s : Nat) : (20 * nI q) + nI s = nI (20 * q + s) := by
  rw [show (20 : Int32) = nI 20 from rfl, pk_mul, nI_add]
theorem op_shown {b m : Nat} {σ τ : Sg} (h : JJ b σ m τ) (x1 : Int32) (x2 : Int32) (x3 : Int32) (x4 : Int32)  : ∃ r : Int32, fn_X7_shown b σ x1 x2 x3 x4 = some r ∧ fn_X8_shown m τ x1 x2 x3 x4 = some r := by
  obtain ⟨S, pl, hok, hc, hm⟩ := h
  have hn : S 2 0 ≤ 6 := hok.2.2.1
  rcases bad_or x1 (n := S 2 0) (by omega) with hb | ⟨r, hr, rfl⟩
  · refine ⟨-1, ?_, ?_⟩
    · unfold fn_X7_shown
      rw [hsC_r hc.2.1 hb]; rfl
    · unfold fn_X8_shown
      rw [hsM_r hm.2.1 hb]; rfl
  have hR := hok.2.2.2.1 r hr
  have hC := hc.2.2.1 r hr
  have hM := hm.2.2.1 r hr
  have hf8 := hR.1
  rcases bad_or x2 (n := S 4 r) (by omega) with hb | ⟨f, hf, rfl⟩
  · refine ⟨-1, ?_, ?_⟩
    · unfold fn_X7_shown
      rw [hsC_f hc.2.1 hn hr hC.1 hb]; rfl
    · unfold fn_X8_shown
      rw [hsM_f hm.2.1 hn hr hM.1 hb]; rfl
  have hF := hR.2.2 f hf
  have hCf := hC.2.2 f hf
  have hMf := hM.2.2 f hf
  have hs4 := hF.2.2.2.2.2.1
  rcases bad_or x3 (n := S 8 (8 * r + f)) (by omega) with hb | ⟨s, hs, rfl⟩
  · refine ⟨-1, ?_, ?_⟩
    · unfold fn_X7_shown
      rw [hsC_val hc.2.1 hn hr hC.1 hR.1 hf hCf.2.2.2.1, val_bad hb]; rfl
    · unfold fn_X8_shown
      rw [hsM_val hm.2.1 hn hr hM.1 hR.1 hf hMf.2.2.2.1, val_bad hb]; rfl
  have hSs := hF.2.2.2.2.2.2.2 s hs
  have hCs := hCf.2.2.2.2 s hs
  have hMs := hMf.2.2.2.2 s hs
  have h20 := hSs.2.1
  have eC : fn_X7_shown b σ (nI r) (nI f) (nI s) x4 = (if x4 = (-1) then some (nI (S 9 (4 * (8 * r + f) + s))) else (fn_X5_codeAt b σ (σ.2 (ad_C b r + 2) f + 2 + 4 * s) x4).bind fun r6 => some r6) := by
    unfold fn_X7_shown
    rw [hsC_val hc.2.1 hn hr hC.1 hR.1 hf hCf.2.2.2.1, val_ok hs (by omega)]
    simp only [Option.bind_some]
    rw [if_neg (by decide), if_pos (sg_ibN (by omega) (by omega)), if_pos (sg_ibN (by omega) (by omega)), if_pos (sg_ibN (by omega) (by omega)), sg_xN (by omega), sg_xN (by omega), sg_xN (by omega)]
    unfold sg_lt
    simp only []
    rw [hCs.1]
  have eM : fn_X8_shown m τ (nI r) (nI f) (nI s) x4 = (if x4 = (-1) then some (nI (S 9 (4 * (8 * r + f) + s))) else if x4 < 0 then some (-1) else if nI (S 10 (4 * (8 * r + f) + s)) ≤ x4 then some (-1) else if sg_ib (20 * nI (4 * (8 * r + f) + s) + x4) 3840 then some (τ.1 (m + 10) (sg_x (20 * nI (4 * (8 * r + f) + s) + x4))) else none) := by
    unfold fn_X8_shown
    rw [hsM_val hm.2.1 hn hr hM.1 hR.1 hf hMf.2.2.2.1, val_ok hs (by omega)]
    simp only [Option.bind_some]
    rw [if_neg (by decide), nI_8r, nI_4q]
    unfold sg_lt
    simp only []
    rw [if_pos (sg_ibN (show 4 * (8 * r + f) + s < 192 by omega) (by omega)), if_pos (sg_ibN (show 4 * (8 * r + f) + s < 192 by omega) (by omega)), sg_xN (by omega), hMs.1, hMs.2.1]
  rw [eC, eM]
  by_cases hm1 : x4 = (-1)
  · rw [if_pos hm1, if_pos hm1]; exact ⟨_, rfl, rfl⟩
  rw [if_neg hm1, if_neg hm1]
  unfold fn_X5_codeAt
  rw [hCs.2.1]
  rcases sg_ix3 x4 (n := S 10 (4 * (8 * r + f) + s)) (by omega) with h0 | h0 | ⟨j, hj, rfl⟩
  · rw [if_pos h0, if_pos h0]; exact ⟨_, rfl, rfl⟩
  · by_cases h1 : x4 < 0
    · rw [if_pos h1, if_pos h1]; exact ⟨_, rfl, rfl⟩
    · rw [if_neg h1, if_neg h1, if_pos h0, if_pos h0]; exact ⟨_, rfl, rfl⟩
  · have a1 : ¬ nI j < 0 := nI_pos (by omega)
    have a2 : ¬ nI (S 10 (4 * (8 * r + f) + s)) ≤ nI j := nI_ge hj (by omega)
    rw [if_neg a1, if_neg a1, if_neg a2, if_neg a2, if_pos (sg_ibN (by omega) (by omega)), sg_xN (by omega), hCs.2.2.1 j hj, nI_20, if_pos (sg_ibN (by omega) (by omega)), sg_xN (by omega), hMs.2.2 j hj]
    exact ⟨_, rfl, rfl⟩
-- ===== the text =====
theorem gd_l {L : List Nat} {c i : Nat} (h : i < L.length) : (L ++ [c]).getD i 0 = L.getD i 0 := by
  rw [List.getD_eq_getElem?_getD, List.getD_eq_getElem?_getD, List.getElem?_append_left h]
theorem gd_r {L : List Nat} {c : Nat} : (L ++ [c]).getD L.length 0 = c := by
  rw [List.getD_eq_getElem?_getD, List.getElem?_append_right (Nat.le_refl _), Nat.sub_self]; rfl
def tC (b : Nat) (σ : Sg) (L : List Nat) : Prop := σ.1 (b + 2) 1 = nI L.length ∧ ∀ i, i < L.length → σ.1 (b + 3) i = nI (L.getD i 0)
def tM (m : Nat) (τ : Sg) (L : List Nat) : Prop := τ.1 m 1 = nI L.length ∧ ∀ i, i < L.length → τ.1 (m + 1) i = nI (L.getD i 0)
def fC (b : Nat) (σ σ' : Sg) : Prop := (∀ a k, a ≠ b + 2 → a ≠ b + 3 → σ'.1 a k = σ.1 a k) ∧ σ'.2 = σ.2
def fM (m : Nat) (τ τ' : Sg) : Prop := ∀ a k, ¬ (a = m ∧ k = 1) → a ≠ m + 1 → τ'.1 a k = τ.1 a k
theorem fC.rf {b : Nat} {σ : Sg} : fC b σ σ := ⟨fun _ _ _ _ => rfl, rfl⟩
theorem fC.tr {b : Nat} {σ σ1 σ2 : Sg} (h : fC b σ σ1) (h2 : fC b σ1 σ2) : fC b σ σ2 := ⟨fun a k x y => (h2.1 a k x y).trans (h.1 a k x y), h2.2.trans h.2⟩
theorem fM.rf {m : Nat} {τ : Sg} : fM m τ τ := fun _ _ _ _ => rfl
theorem fM.tr {m : Nat} {τ τ1 τ2 : Sg} (h : fM m τ τ1) (h2 : fM m τ1 τ2) : fM m τ τ2 := fun a k x y => (h2 a k x y).trans (h a k x y)
theorem add_C {b : Nat} {σ : Sg} {L : List Nat} {c : Nat} (h : tC b σ L) (hl : L.length < 600) (hc : c < 65536) : ∃ σ', fn_X6_add b σ (nI c) = some σ' ∧ tC b σ' (L ++ [c]) ∧ fC b σ σ' := by
  refine ⟨sg_w (sg_w σ (b + 3) L.length (nI c)) (b + 2) 1 (nI (L.length + 1)), ?_, ⟨?_, fun i hi => ?_⟩, fun a k h1 h2 => ?_, rfl⟩
  · unfold fn_X6_add
    rw [h.1, if_neg (show ¬ (600 : Int32) ≤ nI L.length from nI_ge (b := 600) hl (by decide)), if_pos (sg_ibN hl (by decide)), sg_xN (by omega), sg_narN hc]
    unfold sg_lt
    simp only []
    rw [sg_wga (by omega), h.1, show nI L.length + 1 = nI (L.length + 1) from nI_1 _]
  · rw [sg_wgs, List.length_append]; rfl
  · rw [sg_wga (by omega)]
    rw [List.length_append] at hi
    by_cases hi2 : i < L.length
    · rw [sg_wgk (by omega), h.2 i hi2, gd_l hi2]
    · have : i = L.length := by have : i < L.length + 1 := hi; omega
      subst this
      rw [sg_wgs, gd_r]
  · rw [sg_wga h1, sg_wga h2]
theorem put_M {m : Nat} {τ : Sg} {L : List Nat} {c : Nat} (h : tM m τ L) (hl : L.length < 600) : ∃ τ', fn_X8_put m τ (nI c) = some τ' ∧ tM m τ' (L ++ [c]) ∧ fM m τ τ' := by
  refine ⟨sg_w (sg_w τ (m + 1) L.length (nI c)) m 1 (nI (L.length + 1)), ?_, ⟨?_, fun i hi => ?_⟩, fun a k h1 h2 => ?_⟩
  · unfold fn_X8_put
    rw [h.1, if_pos (sg_ibN hl (by decide)), sg_xN (by omega)]
    unfold sg_lt
    simp only []
    rw [sg_wga (by omega), h.1, show nI L.length + 1 = nI (L.length + 1) from nI_1 _]
  · rw [sg_wgs, List.length_append]; rfl
  · rw [sg_wga (by omega)]
    rw [List.length_append] at hi
    by_cases hi2 : i < L.length
    · rw [sg_wgk (by omega), h.2 i hi2, gd_l hi2]
    · have : i = L.length := by have : i < L.length + 1 := hi; omega
      subst this
      rw [sg_wgs, gd_r]
  · rw [sg_wg, if_neg h1, sg_wga h2]
