-- ===== list: the class's loops =====
theorem hcX {b a u : Nat} {c : Int32} {σ : Sg} {S : Sh} (h : σ.1 a 3 = nI (S 9 u)) : fn_X5_hasCode b σ a c = some (if c = 42 ∨ c = nI (S 9 u) then 1 else 0) := by
  unfold fn_X5_hasCode fn_X5_hasCode_B14
  rw [h]
  by_cases h1 : c = 42
  · rw [if_pos h1, if_pos (Or.inl h1)]
  · rw [if_neg h1]
    by_cases h2 : c = nI (S 9 u)
    · rw [if_pos h2, if_pos (Or.inr h2)]
    · rw [if_neg h2, if_neg (fun q => q.elim h1 h2)]
theorem aaC {b r f a : Nat} {c : Int32} {S : Sh} (hok : ps_ok S) (hr : r < S 2 0) (hf : f < S 4 r) : ∀ (d k g : Nat) (σ : Sg) (X : XH), k + d = S 8 (8 * r + f) → d < g → σ.2 (ad_C b r + 2) f = a → cA b σ S → hC b σ X → Xok S X (4 * (8 * r + f) + k) → ∃ σ', fn_X2_addAll_B13 b g σ (nI r) (nI f) c a (nI k) = some σ' ∧ hC b σ' (xsb S c (8 * r + f) k d X) ∧ fH b σ σ' := by
  have hR := hok.2.2.2.1 r hr
  have hF := hR.2.2 f hf
  have a1 := hok.2.2.1
  have a2 := hR.1
  have a3 := hF.2.2.2.2.2.1
  intro d
  induction d with
  | zero =>
    intro k g σ X hk hg ha hc hh hX
    obtain ⟨g, rfl⟩ : ∃ e, g = e + 1 := ⟨g - 1, by omega⟩
    have hCf := (hc.2.1 r hr).2.2 f hf
    rw [ha] at hCf
    refine ⟨σ, ?_, hh, fH.rf⟩
    show fn_X2_addAll_B13b b (fn_X2_addAll_B13 b g) σ (nI r) (nI f) c a (nI k) = _
    unfold fn_X2_addAll_B13b
    simp (disch := omega) only [lit, nI_add, nI_mul, s_sub, a_le, a_lt, a_eq, sg_lt, sg_xN, s_ib, Option.bind_some, not_false_eq_true, true_and, if_pos, if_neg, ↓reduceIte, Nat.zero_add, Nat.add_zero, Nat.zero_le, hCf.2.2.2.1]
  | succ d ih =>
    intro k g σ X hk hg ha hc hh hX
    obtain ⟨g, rfl⟩ : ∃ e, g = e + 1 := ⟨g - 1, by omega⟩
    have hCf := (hc.2.1 r hr).2.2 f hf
    rw [ha] at hCf
    have hCs := hCf.2.2.2.2 k (by omega)
    have hpr : pr S (4 * (8 * r + f) + k) := ⟨r, f, k, hr, hf, by omega, rfl⟩
    have e1 := hcX (b := b) (c := c) (u := 4 * (8 * r + f) + k) hCs.1
    by_cases hcd : c = 42 ∨ c = nI (S 9 (4 * (8 * r + f) + k))
    · rw [if_pos hcd] at e1
      obtain ⟨σ1, b1, b2, b3⟩ := adC hok hc (Xok_le hX (by omega)) hh hpr
      have ex : xst S c (4 * (8 * r + f) + k) X = hin S (4 * (8 * r + f) + k) X := if_pos hcd
      obtain ⟨σ2, c1, c2, c3⟩ := ih (k + 1) g σ1 (hin S (4 * (8 * r + f) + k) X) (by omega) (by omega) (by rw [b3.2]; exact ha) (cA_f hok b3 hc) b2 (hin_ok hX hpr)
      refine ⟨σ2, ?_, ?_, b3.tr c3⟩
      · rw [← c1]
        show fn_X2_addAll_B13b b (fn_X2_addAll_B13 b g) σ (nI r) (nI f) c a (nI k) = _
        unfold fn_X2_addAll_B13b fn_X2_addAll_B55
        rw [show 4 * (8 * r + f) + k = (r * 8 + f) * 4 + k by omega] at b1
        simp (disch := omega) only [lit, nI_add, nI_mul, s_sub, a_le, a_lt, a_eq, sg_lt, sg_xN, s_ib, Option.bind_some, not_false_eq_true, true_and, if_pos, if_neg, ↓reduceIte, Nat.zero_add, Nat.add_zero, Nat.zero_le, hCf.2.2.2.1, e1, b1]
      · show hC b σ2 (xsb S c (8 * r + f) (k + 1) d (xst S c (4 * (8 * r + f) + k) X))
        rw [ex]; exact c2
    · rw [if_neg hcd] at e1
      have ex : xst S c (4 * (8 * r + f) + k) X = X := if_neg hcd
      obtain ⟨σ2, c1, c2, c3⟩ := ih (k + 1) g σ X (by omega) (by omega) ha hc hh (Xok_le hX (by omega))
      refine ⟨σ2, ?_, ?_, c3⟩
      · rw [← c1]
        show fn_X2_addAll_B13b b (fn_X2_addAll_B13 b g) σ (nI r) (nI f) c a (nI k) = _
        unfold fn_X2_addAll_B13b fn_X2_addAll_B55
        simp (disch := omega) only [lit, nI_add, nI_mul, s_sub, a_le, a_lt, a_eq, sg_lt, sg_xN, s_ib, Option.bind_some, not_false_eq_true, true_and, if_pos, if_neg, ↓reduceIte, Nat.zero_add, Nat.add_zero, Nat.zero_le, hCf.2.2.2.1, e1]
      · show hC b σ2 (xsb S c (8 * r + f) (k + 1) d (xst S c (4 * (8 * r + f) + k) X))
        rw [ex]; exact c2
theorem li34 {b r : Nat} {t c : Int32} {S : Sh} {z23 : Sg → Int32 → Int32 → Int32 → Option (Int32 × Sg)} (hok : ps_ok S) (hr : r < S 2 0) : ∀ (d f g : Nat) (σ : Sg) (X : XH), f + d = S 4 r → d < g → cA b σ S → hC b σ X → Xok S X (4 * (8 * r + f)) → ∃ σ', fn_X7_list_B34 b z23 g σ t c (nI r) (nI f) = z23 σ' t c (nI (r + 1)) ∧ hC b σ' (xfl S t c (8 * r + f) d X) ∧ fH b σ σ' := by
  have hR := hok.2.2.2.1 r hr
  have a1 := hok.2.2.1
  have a2 := hR.1
  intro d
  induction d with
  | zero =>
    intro f g σ X hf hg hc hh hX
    obtain ⟨g, rfl⟩ : ∃ e, g = e + 1 := ⟨g - 1, by omega⟩
    have hCr := (hc.2.1 r hr).1
    refine ⟨σ, ?_, hh, fH.rf⟩
    show fn_X7_list_B34b b z23 (fn_X7_list_B34 b z23 g) σ t c (nI r) (nI f) = _
    unfold fn_X7_list_B34b
    simp (disch := omega) only [lit, nI_add, nI_mul, s_sub, a_le, a_lt, a_eq, sg_lt, sg_xN, s_ib, Option.bind_some, not_false_eq_true, true_and, if_pos, if_neg, ↓reduceIte, Nat.zero_add, Nat.add_zero, Nat.zero_le, hCr]
  | succ d ih =>
    intro f g σ X hf hg hc hh hX
    obtain ⟨g, rfl⟩ : ∃ e, g = e + 1 := ⟨g - 1, by omega⟩
    have hCr := (hc.2.1 r hr).1
    have hCf := (hc.2.1 r hr).2.2 f (by omega)
    have hF := hR.2.2 f (by omega)
    have a3 := hF.2.2.2.2.2.1
    have hisf : isf S (8 * r + f) := ⟨by omega, by rw [show (8 * r + f) % 8 = f by omega, show (8 * r + f) / 8 = r by omega]; omega⟩
    by_cases ht : nI (S 5 (8 * r + f)) = t
    · have ex : xq S t c (8 * r + f) X = xsb S c (8 * r + f) 0 (S 8 (8 * r + f)) X := if_pos ⟨hisf, ht⟩
      obtain ⟨σ1, b1, b2, b3⟩ := aaC (b := b) (c := c) hok hr (show f < S 4 r by omega) (S 8 (8 * r + f)) 0 sg_N σ X (by omega) (by show _ < 1000; omega) rfl hc hh hX
      obtain ⟨σ2, c1, c2, c3⟩ := ih (f + 1) g σ1 (xq S t c (8 * r + f) X) (by omega) (by omega) (cA_f hok b3 hc) (by rw [ex]; exact b2) (xq_ok hok hX)
      refine ⟨σ2, ?_, c2, b3.tr c3⟩
      rw [← c1]
      show fn_X7_list_B34b b z23 (fn_X7_list_B34 b z23 g) σ t c (nI r) (nI f) = _
      unfold fn_X7_list_B34b fn_X7_list_B82 fn_X2_addAll
      have b1' : fn_X2_addAll_B13 b sg_N σ (nI r) (nI f) c (σ.2 (b + 10 + 147 * r + 2) f) (nI 0) = some σ1 := b1
      have e5 : (σ.1 (σ.2 (b + 10 + 147 * r + 2) f) 2 = t) = True := eq_true (by rw [← ht]; exact hCf.1)
      simp (disch := omega) only [lit, nI_add, nI_mul, s_sub, a_le, a_lt, a_eq, sg_lt, sg_xN, s_ib, Option.bind_some, not_false_eq_true, true_and, if_pos, if_neg, ↓reduceIte, Nat.zero_add, Nat.add_zero, Nat.zero_le, hCr, e5, b1']
    · have ex : xq S t c (8 * r + f) X = X := if_neg (fun q => ht q.2)
      obtain ⟨σ2, c1, c2, c3⟩ := ih (f + 1) g σ X (by omega) (by omega) hc hh (Xok_le hX (by omega))
      refine ⟨σ2, ?_, ?_, c3⟩
      · rw [← c1]
        show fn_X7_list_B34b b z23 (fn_X7_list_B34 b z23 g) σ t c (nI r) (nI f) = _
        unfold fn_X7_list_B34b fn_X7_list_B82
        have e5 : (σ.1 (σ.2 (b + 10 + 147 * r + 2) f) 2 = t) = False := eq_false (fun q => ht (by rw [← q]; exact hCf.1.symm))
        simp (disch := omega) only [lit, nI_add, nI_mul, s_sub, a_le, a_lt, a_eq, sg_lt, sg_xN, s_ib, Option.bind_some, not_false_eq_true, true_and, if_pos, if_neg, ↓reduceIte, Nat.zero_add, Nat.add_zero, Nat.zero_le, hCr, e5]
      · show hC b σ2 (xfl S t c (8 * r + f + 1) d (xq S t c (8 * r + f) X))
        rw [ex]; exact c2
theorem li23 {b : Nat} {t c : Int32} {S : Sh} (hok : ps_ok S) : ∀ (d r g : Nat) (σ : Sg) (X : XH), r + d = S 2 0 → d < g → cA b σ S → hC b σ X → Xok S X (4 * (8 * r)) → ∃ σ', fn_X7_list_B23 b g σ t c (nI r) = some (nI (xfl S t c (8 * r) (8 * d) X).1, σ') ∧ hC b σ' (xfl S t c (8 * r) (8 * d) X) ∧ fH b σ σ' := by
  have a1 := hok.2.2.1
  intro d
  induction d with
  | zero =>
    intro r g σ X hr hg hc hh hX
    obtain ⟨g, rfl⟩ : ∃ e, g = e + 1 := ⟨g - 1, by omega⟩
    refine ⟨σ, ?_, hh, fH.rf⟩
    show fn_X7_list_B23b b (fn_X7_list_B23 b g) σ t c (nI r) = some (nI X.1, σ)
    unfold fn_X7_list_B23b
    simp (disch := omega) only [lit, nI_add, nI_mul, s_sub, a_le, a_lt, a_eq, sg_lt, sg_xN, s_ib, Option.bind_some, not_false_eq_true, true_and, if_pos, if_neg, ↓reduceIte, Nat.zero_add, Nat.add_zero, Nat.zero_le, hc.1, hh.1]
  | succ d ih =>
    intro r g σ X hr hg hc hh hX
    obtain ⟨g, rfl⟩ : ∃ e, g = e + 1 := ⟨g - 1, by omega⟩
    have hrl : r < S 2 0 := by omega
    have hR := hok.2.2.2.1 r hrl
    have a2 := hR.1
    obtain ⟨σ1, b1, b2, b3⟩ := li34 (b := b) (t := t) (c := c) (z23 := fn_X7_list_B23 b g) hok hrl (S 4 r) 0 sg_N σ X (by omega) (by show _ < 1000; omega) hc hh hX
    have ex : xfl S t c (8 * r) 8 X = xfl S t c (8 * r) (S 4 r) X := by
      have e8 := xfl_add (S := S) (t := t) (c := c) (S 4 r) (8 - S 4 r) (8 * r) X
      rw [show S 4 r + (8 - S 4 r) = 8 by omega] at e8
      rw [e8, xfl_id]
      intro p h1 h2 h3
      have e1 : p / 8 = r := by omega
      have e2 := h3.2
      rw [e1] at e2
      omega
    have ex2 : xfl S t c (8 * r) (8 * (d + 1)) X = xfl S t c (8 * (r + 1)) (8 * d) (xfl S t c (8 * r) (S 4 r) X) := by
      rw [show 8 * (d + 1) = 8 + 8 * d by omega, show 8 * (r + 1) = 8 * r + 8 by omega, xfl_add, ex]
    have hX1 : Xok S (xfl S t c (8 * r) (S 4 r) X) (4 * (8 * (r + 1))) := Xok_le (xfl_ok hok (S 4 r) (8 * r) X hX) (by omega)
    obtain ⟨σ2, c1, c2, c3⟩ := ih (r + 1) g σ1 (xfl S t c (8 * r) (S 4 r) X) (by omega) (by omega) (cA_f hok b3 hc) b2 hX1
    rw [ex2]
    refine ⟨σ2, ?_, c2, b3.tr c3⟩
    rw [← c1, ← b1]
    show fn_X7_list_B23b b (fn_X7_list_B23 b g) σ t c (nI r) = _
    unfold fn_X7_list_B23b
    simp (disch := omega) only [lit, nI_add, nI_mul, s_sub, a_le, a_lt, a_eq, sg_lt, sg_xN, s_ib, Option.bind_some, not_false_eq_true, true_and, if_pos, if_neg, ↓reduceIte, Nat.zero_add, Nat.add_zero, Nat.zero_le, hc.1]
-- ===== list: the reference =====
def hM (m : Nat) (τ : Sg) (X : XH) : Prop := τ.1 m 15 = nI X.1 ∧ ∀ k, k < X.1 → τ.1 (m + 12) k = nI (X.2 k)
def kM (m : Nat) (τ : Sg) (S : Sh) (X : XH) : Prop := ∀ k, k < X.1 → kyM m τ S (X.2 k)
def fHM (m : Nat) (τ τ' : Sg) : Prop := ∀ z k, z ≠ m + 12 → z ≠ m + 13 → z ≠ m + 14 → ¬ (z = m ∧ k = 15) → τ'.1 z k = τ.1 z k
theorem fHM.rf {m : Nat} {τ : Sg} : fHM m τ τ := fun _ _ _ _ _ _ => rfl
theorem fHM.tr {m : Nat} {τ τ1 τ2 : Sg} (h : fHM m τ τ1) (h2 : fHM m τ1 τ2) : fHM m τ τ2 := fun z k a c d e => (h2 z k a c d e).trans (h z k a c d e)
def mA (m : Nat) (τ : Sg) (S : Sh) : Prop := τ.1 m 2 = nI (S 2 0) ∧ ∀ r, r < S 2 0 → rm_rec m τ S r
theorem mA_f {m : Nat} {τ τ' : Sg} {S : Sh} (hf : fHM m τ τ') (h : mA m τ S) : mA m τ' S :=
  ⟨by rw [hf m 2 (by omega) (by omega) (by omega) (by omega)]; exact h.1, fun r hr => rm_rec_f (fun a k h1 h2 => hf a k (by omega) (by omega) (by omega) (by omega)) (fun _ _ _ => rfl) (h.2 r hr)⟩
theorem kyM_f {m v : Nat} {τ τ' : Sg} {S : Sh} (h20 : (kyK S v).length ≤ 20) (hf : ∀ z k, z = m + 13 ∧ 20 * v ≤ k ∧ k < 20 * v + 20 ∨ z = m + 14 ∧ k = v → τ'.1 z k = τ.1 z k) (h : kyM m τ S v) : kyM m τ' S v :=
  ⟨by rw [hf _ _ (Or.inr ⟨rfl, rfl⟩)]; exact h.1, fun i hi => by rw [hf _ _ (Or.inl ⟨rfl, by omega, by omega⟩)]; exact h.2 i hi⟩
theorem li106 {m u q : Nat} {t c x4 : Int32} {S : Sh} {X : XH} {z21 : Sg → Int32 → Int32 → Int32 → Option (Int32 × Sg)} {z64 : Sg → Int32 → Int32 → Int32 → Int32 → Int32 → Option (Int32 × Sg)} (hok : ps_ok S) (hX : Xok S X 191) (pu : pr S u) : ∀ (k g : Nat) (τ : Sg), k ≤ X.1 → k < g → hps S u X.2 k = hps S u X.2 X.1 → (∀ i, i < k → τ.1 (m + 12) i = nI (X.2 i)) → (∀ i, k < i → i ≤ X.1 → τ.1 (m + 12) i = nI (X.2 (i - 1))) → τ.1 m 15 = nI X.1 → kM m τ S X → kyM m τ S u → ∃ τ', fn_X8_list_B106 m z21 z64 g τ t c (nI q) x4 (nI u) (nI k) = z64 τ' t c (nI q) x4 (nI (u + 1)) ∧ hM m τ' (hin S u X) ∧ ∀ z j, z ≠ m + 12 → ¬ (z = m ∧ j = 15) → τ'.1 z j = τ.1 z j := by
  have hX1 := hX.1
  have hu := pr_ok hok pu
  have hend : ∀ (k : Nat) (τ : Sg), k ≤ X.1 → k = hps S u X.2 X.1 → (∀ i, i < k → τ.1 (m + 12) i = nI (X.2 i)) → (∀ i, k < i → i ≤ X.1 → τ.1 (m + 12) i = nI (X.2 (i - 1))) → τ.1 m 15 = nI X.1 → ∃ τ', fn_X8_list_B151 m z21 z64 τ t c (nI q) x4 (nI u) (nI k) = z64 τ' t c (nI q) x4 (nI (u + 1)) ∧ hM m τ' (hin S u X) ∧ ∀ z j, z ≠ m + 12 → ¬ (z = m ∧ j = 15) → τ'.1 z j = τ.1 z j := by
    intro k τ hk he hlo hhi hn
    refine ⟨sg_w (sg_w τ (m + 12) k (nI u)) m 15 (nI (X.1 + 1)), ?_, ⟨sg_wgs, fun i hi => ?_⟩, fun z j h1 h2 => ?_⟩
    · have e1 : (sg_w τ (m + 12) k (nI u)).1 m 15 = nI X.1 := by rw [sg_wga (by omega)]; exact hn
      unfold fn_X8_list_B151 fn_X8_list_B170
      simp (disch := omega) only [lit, nI_add, nI_mul, s_sub, a_le, a_lt, a_eq, sg_lt, sg_xN, s_ib, Option.bind_some, not_false_eq_true, true_and, if_pos, if_neg, ↓reduceIte, Nat.zero_add, Nat.add_zero, Nat.zero_le, e1]
    · have hi' : i < X.1 + 1 := hi
      rw [sg_wga (by omega)]
      rcases Nat.lt_trichotomy i k with w | w | w
      · rw [sg_wgk (by omega), hin_lt (by omega)]; exact hlo i w
      · rw [hin_eq (by omega), w, sg_wgs]
      · rw [sg_wgk (by omega), hin_gt (by omega)]; exact hhi i w (by omega)
    · rw [sg_wg, if_neg h2, sg_wga h1]
  intro k
  induction k with
  | zero =>
    intro g τ hkl hg he hlo hhi hn hkM hkU
    obtain ⟨g, rfl⟩ : ∃ e, g = e + 1 := ⟨g - 1, by omega⟩
    obtain ⟨τ', c1, c2, c3⟩ := hend 0 τ hkl he hlo hhi hn
    refine ⟨τ', ?_, c2, c3⟩
    rw [← c1]
    show fn_X8_list_B106b m z21 z64 (fn_X8_list_B106 m z21 z64 g) τ t c (nI q) x4 (nI u) (nI 0) = _
    unfold fn_X8_list_B106b
    rw [if_pos (show nI 0 ≤ (0 : Int32) by decide)]
  | succ k ih =>
    intro g τ hkl hg he hlo hhi hn hkM hkU
    obtain ⟨g, rfl⟩ : ∃ e, g = e + 1 := ⟨g - 1, by omega⟩
    have hv := pr_ok hok (hX.2.1 k (by omega))
    have e1 := hlo k (by omega)
    have e2 := afM hv.1 hu.1 hv.2 hu.2 (hkM k (by omega)) hkU
    by_cases hq : hk S u < hk S (X.2 k)
    · have e3 : fn_X8_isAfter m τ (nI (X.2 k)) (nI u) = some 1 := by rw [e2]; exact congrArg some (if_pos hq)
      have he' : hps S u X.2 k = hps S u X.2 X.1 := by rw [← he]; unfold hps; rw [if_pos hq]; cases k <;> rfl
      obtain ⟨τ', c1, c2, c3⟩ := ih g (sg_w τ (m + 12) (k + 1) (nI (X.2 k))) (by omega) (by omega) he' (fun i hi => by rw [sg_wgk (by omega)]; exact hlo i (by omega)) (fun i h1 h2 => by
          by_cases hi : i = k + 1
          · subst hi; rw [sg_wgs]; rfl
          · rw [sg_wgk hi]; exact hhi i (by omega) h2) (by rw [sg_wga (by omega)]; exact hn)
        (fun i hi => kyM_f (kyK_len (pr_ok hok (hX.2.1 i hi)).2) (fun z w hz => by rw [sg_wga (by omega)]) (hkM i hi))
        (kyM_f (kyK_len hu.2) (fun z w hz => by rw [sg_wga (by omega)]) hkU)
      refine ⟨τ', ?_, c2, fun z j h1 h2 => by rw [c3 z j h1 h2, sg_wga h1]⟩
      rw [← c1]
      show fn_X8_list_B106b m z21 z64 (fn_X8_list_B106 m z21 z64 g) τ t c (nI q) x4 (nI u) (nI (k + 1)) = _
      unfold fn_X8_list_B106b
      simp (disch := omega) only [lit, nI_add, nI_mul, s_sub, a_le, a_lt, a_eq, sg_lt, sg_xN, s_ib, Option.bind_some, not_false_eq_true, true_and, if_pos, if_neg, ↓reduceIte, Nat.zero_add, Nat.add_zero, Nat.zero_le, Nat.add_sub_cancel, e1, e3]
      exact congrArg _ (pk_m1 k)
    · have e3 : fn_X8_isAfter m τ (nI (X.2 k)) (nI u) = some 0 := by rw [e2]; exact congrArg some (if_neg hq)
      have he' : k + 1 = hps S u X.2 X.1 := by rw [← he]; unfold hps; rw [if_neg hq]
      obtain ⟨τ', c1, c2, c3⟩ := hend (k + 1) τ hkl he' hlo hhi hn
      refine ⟨τ', ?_, c2, c3⟩
      rw [← c1]
      show fn_X8_list_B106b m z21 z64 (fn_X8_list_B106 m z21 z64 g) τ t c (nI q) x4 (nI u) (nI (k + 1)) = _
      unfold fn_X8_list_B106b
      simp (disch := omega) only [lit, nI_add, nI_mul, s_sub, a_le, a_lt, a_eq, sg_lt, sg_xN, s_ib, Option.bind_some, not_false_eq_true, true_and, if_pos, if_neg, ↓reduceIte, Nat.zero_add, Nat.add_zero, Nat.zero_le, Nat.add_sub_cancel, e1, e3]
