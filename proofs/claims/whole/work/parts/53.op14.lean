-- ===== numbers, by omega =====
theorem lit (n : Nat) : (OfNat.ofNat n : Int32) = nI n := rfl
theorem nI_mul (a b : Nat) : nI a * nI b = nI (a * b) := (Int32.ofNat_mul a b).symm
theorem a_le {a b : Nat} (ha : a < 2 ^ 31) (hb : b < 2 ^ 31) : (nI a ≤ nI b) = (a ≤ b) := by
  by_cases h : a ≤ b
  · exact propext ⟨fun _ => h, fun _ => nI_le h hb⟩
  · exact propext ⟨fun q => absurd q (nI_ge (by omega) ha), fun q => absurd q h⟩
theorem a_lt {a b : Nat} (ha : a < 2 ^ 31) (hb : b < 2 ^ 31) : (nI a < nI b) = (a < b) := by
  by_cases h : a < b
  · exact propext ⟨fun _ => h, fun _ => nI_lt h hb⟩
  · exact propext ⟨fun q => absurd q (nI_nlt (by omega) ha), fun q => absurd q h⟩
theorem a_eq {a b : Nat} (ha : a < 2 ^ 31) (hb : b < 2 ^ 31) : (nI a = nI b) = (a = b) := propext (nI_eq ha hb)
theorem s_sub {a b : Nat} (h : b ≤ a) : nI a - nI b = nI (a - b) := pk_sub h
theorem s_ib {j n : Nat} (h : j < 2 ^ 31) : sg_ib (nI j) n = (j < n) := propext ⟨fun q => by have := q.2; rw [nI_clamp h] at this; exact this, fun q => ⟨nI_pos h, by rw [nI_clamp h]; exact q⟩⟩
-- ===== drop: the class =====
def pi_d (f n k : Nat) : Nat := if f ≤ k ∧ k + 1 < n then k + 1 else if k + 1 = n then f else k
theorem sg_rg (σ : Sg) (a k v a' k' : Nat) : (sg_r σ a k v).2 a' k' = if a' = a ∧ k' = k then v else σ.2 a' k' := by
  unfold sg_r va_up
  by_cases h : a' = a
  · by_cases h2 : k' = k
    · simp [h, h2]
    · simp [h, h2]
  · simp [h]
theorem to_C {b c a n : Nat} (hn : n ≤ 8) : ∀ (d i f : Nat) (σ : Sg), i + d + 1 = n → d < f → σ.1 c 2 = nI n → ∃ σ', fn_X0_takeOut_B9 b f σ c a (nI i) = some σ' ∧ (∀ z k, σ'.1 z k = if z = c ∧ k = 2 then nI (n - 1) else σ.1 z k) ∧ (∀ z k, z ≠ c + 2 → σ'.2 z k = σ.2 z k) ∧ ∀ k, σ'.2 (c + 2) k = if i ≤ k ∧ k + 1 < n then σ.2 (c + 2) (k + 1) else if k + 1 = n then a else σ.2 (c + 2) k := by
  intro d
  induction d with
  | zero =>
    intro i f σ hd hf h
    obtain ⟨f, rfl⟩ : ∃ g, f = g + 1 := ⟨f - 1, by omega⟩
    have e0 : fn_X0_takeOut_B9 b (f + 1) σ c a (nI i) = some (sg_r (sg_w σ c 2 (nI (n - 1))) (c + 2) (n - 1) a) := by
      show fn_X0_takeOut_B9b b _ σ c a (nI i) = _
      unfold fn_X0_takeOut_B9b
      simp (disch := omega) only [lit, nI_add, nI_mul, s_sub, a_le, a_lt, a_eq, sg_lt, sg_xN, s_ib, Option.bind_some, not_false_eq_true, true_and, if_pos, if_neg, ↓reduceIte, Nat.zero_add, Nat.add_zero, Nat.zero_le, h, sg_wgs]
    refine ⟨_, e0, fun z k => ?_, fun z k hz => ?_, fun k => ?_⟩
    · show (sg_w σ c 2 (nI (n - 1))).1 z k = _
      rw [sg_wg]
    · rw [sg_rg, if_neg (fun q => hz q.1)]; rfl
    · rw [sg_rg]
      by_cases hk : k + 1 = n
      · rw [if_pos ⟨rfl, by omega⟩, if_neg (by omega), if_pos hk]
      · rw [if_neg (by omega), if_neg (by omega), if_neg hk]; rfl
  | succ d ih =>
    intro i f σ hd hf h
    obtain ⟨f, rfl⟩ : ∃ g, f = g + 1 := ⟨f - 1, by omega⟩
    have e0 : fn_X0_takeOut_B9 b (f + 1) σ c a (nI i) = fn_X0_takeOut_B9 b f (sg_r σ (c + 2) i (σ.2 (c + 2) (i + 1))) c a (nI (i + 1)) := by
      show fn_X0_takeOut_B9b b _ σ c a (nI i) = _
      unfold fn_X0_takeOut_B9b
      simp (disch := omega) only [lit, nI_add, nI_mul, s_sub, a_le, a_lt, a_eq, sg_lt, sg_xN, s_ib, Option.bind_some, not_false_eq_true, true_and, if_pos, if_neg, ↓reduceIte, Nat.zero_add, Nat.add_zero, Nat.zero_le, h]
    rw [e0]
    obtain ⟨σ', e1, e2, e3, e4⟩ := ih (i + 1) f (sg_r σ (c + 2) i (σ.2 (c + 2) (i + 1))) (by omega) (by omega) h
    refine ⟨σ', e1, e2, fun z k hz => ?_, fun k => ?_⟩
    · rw [e3 z k hz, sg_rg, if_neg (fun q => hz q.1)]
    · rw [e4]
      by_cases h1 : i + 1 ≤ k ∧ k + 1 < n
      · rw [if_pos h1, if_pos (by omega), sg_rg, if_neg (by omega)]
      · rw [if_neg h1]
        by_cases h2 : k + 1 = n
        · rw [if_pos h2, if_neg (by omega), if_pos h2]
        · rw [if_neg h2, sg_rg]
          by_cases h3 : k = i
          · subst h3; rw [if_pos ⟨rfl, rfl⟩, if_pos (by omega)]
          · rw [if_neg (by omega), if_neg (by omega), if_neg h2]
-- ===== drop: the reference =====
def mv (m : Nat) (τ τ' : Sg) (q e : Nat) : Prop := (∀ z k, m + 4 ≤ z → z ≤ m + 7 → q ≤ k → k < e → τ'.1 z k = τ.1 z (k + 1)) ∧ (∀ z k, z = m + 8 ∨ z = m + 9 → 4 * q ≤ k → k < 4 * e → τ'.1 z k = τ.1 z (k + 4)) ∧ (∀ k, 80 * q ≤ k → k < 80 * e → τ'.1 (m + 10) k = τ.1 (m + 10) (k + 80)) ∧ ∀ z k, ¬ (m + 4 ≤ z ∧ z ≤ m + 7 ∧ q ≤ k ∧ k < e) → ¬ ((z = m + 8 ∨ z = m + 9) ∧ 4 * q ≤ k ∧ k < 4 * e) → ¬ (z = m + 10 ∧ 80 * q ≤ k ∧ k < 80 * e) → τ'.1 z k = τ.1 z k
theorem mv_tr {m q e : Nat} {τ τ1 τ2 : Sg} (h : mv m τ τ1 q (q + 1)) (h2 : mv m τ1 τ2 (q + 1) e) (hq : q + 1 ≤ e) : mv m τ τ2 q e := by
  refine ⟨fun z k g1 g2 g3 g4 => ?_, fun z k g1 g3 g4 => ?_, fun k g3 g4 => ?_, fun z k g1 g2 g3 => ?_⟩
  · by_cases hk : k = q
    · rw [h2.2.2.2 z k (by omega) (by omega) (by omega)]; exact h.1 z k g1 g2 (by omega) (by omega)
    · rw [h2.1 z k g1 g2 (by omega) g4]; exact h.2.2.2 _ _ (by omega) (by omega) (by omega)
  · by_cases hk : k < 4 * (q + 1)
    · rw [h2.2.2.2 z k (by omega) (by omega) (by omega)]; exact h.2.1 z k g1 (by omega) (by omega)
    · rw [h2.2.1 z k g1 (by omega) g4]; exact h.2.2.2 _ _ (by omega) (by omega) (by omega)
  · by_cases hk : k < 80 * (q + 1)
    · rw [h2.2.2.2 _ k (by omega) (by omega) (by omega)]; exact h.2.2.1 k (by omega) (by omega)
    · rw [h2.2.2.1 k (by omega) g4]; exact h.2.2.2 _ _ (by omega) (by omega) (by omega)
  · rw [h2.2.2.2 z k (by omega) (by omega) (by omega)]; exact h.2.2.2 _ _ (by omega) (by omega) (by omega)
theorem d150 {m q r : Nat} {z18 : Sg → Int32 → Int32 → Option (Int32 × Sg)} (hq : q + 1 < 48) : ∀ (d i f : Nat) (τ : Sg), i + d = 80 * q + 80 → d < f → ∃ τ', fn_X8_drop_B150 m z18 f τ (nI r) (nI q) (nI i) = z18 τ' (nI r) (nI (q + 1)) ∧ ∀ z k, τ'.1 z k = if z = m + 10 ∧ i ≤ k ∧ k < 80 * q + 80 then τ.1 z (k + 80) else τ.1 z k := by
  intro d
  induction d with
  | zero =>
    intro i f τ hd hf
    obtain ⟨f, rfl⟩ : ∃ g, f = g + 1 := ⟨f - 1, by omega⟩
    have e0 : fn_X8_drop_B150 m z18 (f + 1) τ (nI r) (nI q) (nI i) = z18 τ (nI r) (nI (q + 1)) := by
      show fn_X8_drop_B150b m z18 _ τ (nI r) (nI q) (nI i) = _
      unfold fn_X8_drop_B150b
      simp (disch := omega) only [lit, nI_add, nI_mul, s_sub, a_le, a_lt, a_eq, sg_lt, sg_xN, s_ib, Option.bind_some, not_false_eq_true, true_and, if_pos, if_neg, ↓reduceIte, Nat.zero_add, Nat.add_zero, Nat.zero_le]
    exact ⟨τ, e0, fun z k => by rw [if_neg (by omega)]⟩
  | succ d ih =>
    intro i f τ hd hf
    obtain ⟨f, rfl⟩ : ∃ g, f = g + 1 := ⟨f - 1, by omega⟩
    have e0 : fn_X8_drop_B150 m z18 (f + 1) τ (nI r) (nI q) (nI i) = fn_X8_drop_B150 m z18 f (sg_w τ (m + 10) i (τ.1 (m + 10) (i + 80))) (nI r) (nI q) (nI (i + 1)) := by
      show fn_X8_drop_B150b m z18 _ τ (nI r) (nI q) (nI i) = _
      unfold fn_X8_drop_B150b
      simp (disch := omega) only [lit, nI_add, nI_mul, s_sub, a_le, a_lt, a_eq, sg_lt, sg_xN, s_ib, Option.bind_some, not_false_eq_true, true_and, if_pos, if_neg, ↓reduceIte, Nat.zero_add, Nat.add_zero, Nat.zero_le]
    rw [e0]
    obtain ⟨τ', e1, e2⟩ := ih (i + 1) f (sg_w τ (m + 10) i (τ.1 (m + 10) (i + 80))) (by omega) (by omega)
    refine ⟨τ', e1, fun z k => ?_⟩
    rw [e2, sg_wg, sg_wg]
    by_cases h1 : z = m + 10 ∧ i + 1 ≤ k ∧ k < 80 * q + 80
    · simp (disch := omega) only [if_pos, if_neg]
    · rw [if_neg h1]
      by_cases h2 : z = m + 10 ∧ k = i
      · rw [if_pos h2, if_pos (by omega), h2.1, h2.2]
      · rw [if_neg h2, if_neg (by omega)]
theorem d96 {m q r : Nat} {z18 : Sg → Int32 → Int32 → Option (Int32 × Sg)} (hq : q + 1 < 48) : ∀ (d i f : Nat) (τ : Sg), i + d = 4 * q + 4 → d < f → ∃ τ', fn_X8_drop_B96 m z18 f τ (nI r) (nI q) (nI i) = z18 τ' (nI r) (nI (q + 1)) ∧ ∀ z k, τ'.1 z k = if z = m + 10 ∧ 80 * q ≤ k ∧ k < 80 * q + 80 then τ.1 z (k + 80) else if (z = m + 8 ∨ z = m + 9) ∧ i ≤ k ∧ k < 4 * q + 4 then τ.1 z (k + 4) else τ.1 z k := by
  intro d
  induction d with
  | zero =>
    intro i f τ hd hf
    obtain ⟨f, rfl⟩ : ∃ g, f = g + 1 := ⟨f - 1, by omega⟩
    have e0 : fn_X8_drop_B96 m z18 (f + 1) τ (nI r) (nI q) (nI i) = fn_X8_drop_B150 m z18 sg_N τ (nI r) (nI q) (nI (80 * q)) := by
      show fn_X8_drop_B96b m z18 _ τ (nI r) (nI q) (nI i) = _
      unfold fn_X8_drop_B96b
      simp (disch := omega) only [lit, nI_add, nI_mul, s_sub, a_le, a_lt, a_eq, sg_lt, sg_xN, s_ib, Option.bind_some, not_false_eq_true, true_and, if_pos, if_neg, ↓reduceIte, Nat.zero_add, Nat.add_zero, Nat.zero_le]
    rw [e0]
    obtain ⟨τ', e1, e2⟩ := d150 (m := m) (r := r) (z18 := z18) hq 80 (80 * q) sg_N τ (by omega) (by decide)
    refine ⟨τ', e1, fun z k => ?_⟩
    rw [e2]
    split
    · rfl
    · rw [if_neg (by omega)]
  | succ d ih =>
    intro i f τ hd hf
    obtain ⟨f, rfl⟩ : ∃ g, f = g + 1 := ⟨f - 1, by omega⟩
    have e0 : fn_X8_drop_B96 m z18 (f + 1) τ (nI r) (nI q) (nI i) = fn_X8_drop_B96 m z18 f (sg_w (sg_w τ (m + 8) i (τ.1 (m + 8) (i + 4))) (m + 9) i ((sg_w τ (m + 8) i (τ.1 (m + 8) (i + 4))).1 (m + 9) (i + 4))) (nI r) (nI q) (nI (i + 1)) := by
      show fn_X8_drop_B96b m z18 _ τ (nI r) (nI q) (nI i) = _
      unfold fn_X8_drop_B96b
      simp (disch := omega) only [lit, nI_add, nI_mul, s_sub, a_le, a_lt, a_eq, sg_lt, sg_xN, s_ib, Option.bind_some, not_false_eq_true, true_and, if_pos, if_neg, ↓reduceIte, Nat.zero_add, Nat.add_zero, Nat.zero_le]
    rw [e0]
    obtain ⟨τ', e1, e2⟩ := ih (i + 1) f (sg_w (sg_w τ (m + 8) i (τ.1 (m + 8) (i + 4))) (m + 9) i ((sg_w τ (m + 8) i (τ.1 (m + 8) (i + 4))).1 (m + 9) (i + 4))) (by omega) (by omega)
    refine ⟨τ', e1, fun z k => ?_⟩
    rw [e2]
    simp only [sg_wg]
    by_cases h0 : z = m + 10 ∧ 80 * q ≤ k ∧ k < 80 * q + 80
    · simp (disch := omega) only [if_pos, if_neg]
    · rw [if_neg h0, if_neg h0]
      by_cases h1 : (z = m + 8 ∨ z = m + 9) ∧ i + 1 ≤ k ∧ k < 4 * q + 4
      · simp (disch := omega) only [if_pos, if_neg]
      · rw [if_neg h1]
        by_cases h2 : z = m + 9 ∧ k = i
        · rw [if_pos h2, if_neg (by omega), if_pos (by omega), h2.1, h2.2]
        · rw [if_neg h2]
          by_cases h3 : z = m + 8 ∧ k = i
          · rw [if_pos h3, if_pos (by omega), h3.1, h3.2]
          · rw [if_neg h3, if_neg (by omega)]
theorem dr_M {m r n : Nat} (hr : r < 6) (hn : n ≤ 8) : ∀ (d i f : Nat) (τ : Sg), i + d + 1 = n → d < f → τ.1 (m + 3) r = nI n → ∃ τ' τ1, fn_X8_drop_B18 m f τ (nI r) (nI (8 * r + i)) = some (1, τ') ∧ mv m τ τ1 (8 * r + i) (8 * r + (n - 1)) ∧ τ' = sg_w τ1 (m + 3) r (nI (n - 1)) := by
  intro d
  induction d with
  | zero =>
    intro i f τ hd hf h
    obtain ⟨f, rfl⟩ : ∃ g, f = g + 1 := ⟨f - 1, by omega⟩
    refine ⟨sg_w τ (m + 3) r (nI (n - 1)), τ, ?_, ⟨fun z k g1 g2 g3 g4 => by omega, fun z k g1 g3 g4 => by omega, fun k g3 g4 => by omega, fun z k g1 g2 g3 => rfl⟩, rfl⟩
    show fn_X8_drop_B18b m _ τ (nI r) (nI (8 * r + i)) = _
    unfold fn_X8_drop_B18b
    simp (disch := omega) only [lit, nI_add, nI_mul, s_sub, a_le, a_lt, a_eq, sg_lt, sg_xN, s_ib, Option.bind_some, not_false_eq_true, true_and, if_pos, if_neg, ↓reduceIte, Nat.zero_add, Nat.add_zero, Nat.zero_le, h]
  | succ d ih =>
    intro i f τ hd hf h
    obtain ⟨f, rfl⟩ : ∃ g, f = g + 1 := ⟨f - 1, by omega⟩
    obtain ⟨q, hq⟩ : ∃ z, z = 8 * r + i := ⟨_, rfl⟩
    rw [← hq]
    obtain ⟨τ5, hτ5⟩ : ∃ z, z = sg_w (sg_w (sg_w (sg_w τ (m + 4) q (τ.1 (m + 4) (q + 1))) (m + 5) q (τ.1 (m + 5) (q + 1))) (m + 6) q (τ.1 (m + 6) (q + 1))) (m + 7) q (τ.1 (m + 7) (q + 1)) := ⟨_, rfl⟩
    obtain ⟨τ6, e1, e2⟩ := d96 (m := m) (r := r) (z18 := fn_X8_drop_B18 m f) (show q + 1 < 48 by omega) 4 (4 * q) sg_N τ5 (by omega) (by decide)
    have e5 : ∀ z k, τ5.1 z k = if m + 4 ≤ z ∧ z ≤ m + 7 ∧ k = q then τ.1 z (k + 1) else τ.1 z k := fun z k => by
      rw [hτ5]
      simp only [sg_wg]
      by_cases h0 : m + 4 ≤ z ∧ z ≤ m + 7 ∧ k = q
      · rw [if_pos h0, h0.2.2]
        by_cases h7 : z = m + 7
        · rw [if_pos ⟨h7, rfl⟩, h7]
        · rw [if_neg (fun q => h7 q.1)]
          by_cases h6 : z = m + 6
          · rw [if_pos ⟨h6, rfl⟩, h6]
          · rw [if_neg (fun q => h6 q.1)]
            by_cases h5 : z = m + 5
            · rw [if_pos ⟨h5, rfl⟩, h5]
            · rw [if_neg (fun q => h5 q.1), if_pos ⟨by omega, rfl⟩, show z = m + 4 by omega]
      · rw [if_neg h0, if_neg (by omega), if_neg (by omega), if_neg (by omega), if_neg (by omega)]
    have hmv : mv m τ τ6 q (q + 1) := by
      refine ⟨fun z k g1 g2 g3 g4 => ?_, fun z k g1 g3 g4 => ?_, fun k g3 g4 => ?_, fun z k g1 g2 g3 => ?_⟩
      · rw [e2, if_neg (by omega), if_neg (by omega), e5, if_pos (by omega)]
      · rw [e2, if_neg (by omega), if_pos (by omega), e5, if_neg (by omega)]
      · rw [e2, if_pos (by omega), e5, if_neg (by omega)]
      · rw [e2, if_neg (by omega), if_neg (by omega), e5, if_neg (by omega)]
    have h6 : τ6.1 (m + 3) r = nI n := by rw [hmv.2.2.2 _ _ (by omega) (by omega) (by omega)]; exact h
    obtain ⟨τ', τ1, g1, g2, g3⟩ := ih (i + 1) f τ6 (by omega) (by omega) h6
    refine ⟨τ', τ1, ?_, ?_, g3⟩
    · have e0 : fn_X8_drop_B18 m (f + 1) τ (nI r) (nI q) = fn_X8_drop_B96 m (fn_X8_drop_B18 m f) sg_N τ5 (nI r) (nI q) (nI (4 * q)) := by
        show fn_X8_drop_B18b m _ τ (nI r) (nI q) = _
        unfold fn_X8_drop_B18b
        simp (disch := omega) only [lit, nI_add, nI_mul, s_sub, a_le, a_lt, a_eq, sg_lt, sg_xN, s_ib, Option.bind_some, not_false_eq_true, true_and, if_pos, if_neg, ↓reduceIte, Nat.zero_add, Nat.add_zero, Nat.zero_le, h, hτ5, sg_wga]
      rw [e0, e1, show q + 1 = 8 * r + (i + 1) by omega]
      exact g1
    · exact mv_tr hmv (by rw [show q + 1 = 8 * r + (i + 1) by omega]; exact g2) (by omega)
