-- ===== write: the class =====
theorem fsC {b q a : Nat} {σ : Sg} {S : Sh} (h : rc_fld σ S q a) (hp : ps_fld S q) : ∀ (d k f x : Nat), k + d = S 8 q → d < f → x + 100 * d < 1000000 → fn_X1_size_B23 b σ f a (nI x) (nI k) = some (nI (x + fszl S q 2 k d)) := by
  have h4 := hp.2.2.2.2.2.1
  intro d
  induction d with
  | zero =>
    intro k f x hd hf hx
    obtain ⟨f, rfl⟩ : ∃ g, f = g + 1 := ⟨f - 1, by omega⟩
    show fn_X1_size_B23b b σ _ a (nI x) (nI k) = _
    unfold fn_X1_size_B23b
    rw [h.2.2.2.1]
    simp (disch := omega) only [lit, nI_add, nI_mul, s_sub, a_le, a_lt, a_eq, sg_lt, sg_xN, s_ib, Option.bind_some, not_false_eq_true, true_and, if_pos, if_neg, ↓reduceIte, Nat.zero_add, Nat.add_zero, Nat.zero_le, fszl]
  | succ d ih =>
    intro k f x hd hf hx
    obtain ⟨f, rfl⟩ : ∃ g, f = g + 1 := ⟨f - 1, by omega⟩
    have h20 := (hp.2.2.2.2.2.2.2 k (by omega)).2.1
    show fn_X1_size_B23b b σ _ a (nI x) (nI k) = _
    unfold fn_X1_size_B23b
    rw [h.2.2.2.1]
    simp (disch := omega) only [lit, nI_add, nI_mul, s_sub, a_le, a_lt, a_eq, sg_lt, sg_xN, s_ib, Option.bind_some, not_false_eq_true, true_and, if_pos, if_neg, ↓reduceIte, Nat.zero_add, Nat.add_zero, Nat.zero_le, fszl, (h.2.2.2.2 k (by omega)).2.1]
    rw [ih (k + 1) f (x + (2 + S 10 (4 * q + k))) (by omega) (by omega) (by omega)]
    congr 2
    omega
theorem szC {b q a : Nat} {σ : Sg} {S : Sh} (h : rc_fld σ S q a) (hp : ps_fld S q) : fn_X1_size b σ a = some (nI (fsz S q)) := by
  have h4 := hp.2.2.2.2.2.1
  have ht := hp.2.1
  have h1 := hp.2.2.2.2.1
  unfold fn_X1_size fn_X1_isSimple fsz
  rw [h.1]
  by_cases hs : S 5 q < 10
  · have e0 : σ.1 (a + 2) 2 = nI (S 10 (4 * q)) := (h.2.2.2.2 0 (by omega)).2.1
    have h20 := (hp.2.2.2.2.2.2.2 0 (by omega)).2.1
    rw [Nat.add_zero] at h20
    simp (disch := omega) only [lit, nI_add, nI_mul, s_sub, a_le, a_lt, a_eq, sg_lt, sg_xN, s_ib, Option.bind_some, not_false_eq_true, true_and, if_pos, if_neg, ↓reduceIte, Nat.zero_add, Nat.add_zero, Nat.zero_le, Nat.mul_zero, e0]
  · simp (disch := omega) only [lit, nI_add, nI_mul, s_sub, a_le, a_lt, a_eq, sg_lt, sg_xN, s_ib, Option.bind_some, not_false_eq_true, true_and, if_pos, if_neg, ↓reduceIte, Nat.zero_add, Nat.add_zero, Nat.zero_le]
    exact fsC h hp (S 8 q) 0 sg_N 3 (by omega) (by show _ < 1000; omega) (by omega)
theorem rsC {b r : Nat} {σ : Sg} {S : Sh} (h : rc_rec b σ S r) (hp : ps_rec S r) : ∀ (d f g x : Nat), f + d = S 4 r → d < g → x + 100 * d < 1000000 → fn_X0_size_B9 b σ g (ad_C b r) (nI x) (nI f) = some (nI (x + rsz S r f d)) := by
  have h8 := hp.1
  intro d
  induction d with
  | zero =>
    intro k f x hd hf hx
    obtain ⟨f, rfl⟩ : ∃ g, f = g + 1 := ⟨f - 1, by omega⟩
    show fn_X0_size_B9b b σ _ (ad_C b r) (nI x) (nI k) = _
    unfold fn_X0_size_B9b
    rw [h.1]
    simp (disch := omega) only [lit, nI_add, nI_mul, s_sub, a_le, a_lt, a_eq, sg_lt, sg_xN, s_ib, Option.bind_some, not_false_eq_true, true_and, if_pos, if_neg, ↓reduceIte, Nat.zero_add, Nat.add_zero, Nat.zero_le, rsz]
  | succ d ih =>
    intro k f x hd hf hx
    obtain ⟨f, rfl⟩ : ∃ g, f = g + 1 := ⟨f - 1, by omega⟩
    have h91 := fsz_le (hp.2.2 k (by omega))
    show fn_X0_size_B9b b σ _ (ad_C b r) (nI x) (nI k) = _
    unfold fn_X0_size_B9b
    rw [h.1]
    simp (disch := omega) only [lit, nI_add, nI_mul, s_sub, a_le, a_lt, a_eq, sg_lt, sg_xN, s_ib, Option.bind_some, not_false_eq_true, true_and, if_pos, if_neg, ↓reduceIte, Nat.zero_add, Nat.add_zero, Nat.zero_le, rsz, szC (b := b) (h.2.2 k (by omega)) (hp.2.2 k (by omega))]
    rw [ih (k + 1) f (x + fsz S (8 * r + k)) (by omega) (by omega) (by omega), Nat.add_assoc]
theorem totC {b r : Nat} {σ : Sg} {S : Sh} (h : rc_rec b σ S r) (hp : ps_rec S r) : fn_X0_size b σ (ad_C b r) = some (nI (tot S r)) := by
  have h8 := hp.1
  unfold fn_X0_size fn_X0_base tot
  rw [h.1]
  simp (disch := omega) only [lit, nI_add, nI_mul, s_sub, a_le, a_lt, a_eq, sg_lt, sg_xN, s_ib, Option.bind_some, not_false_eq_true, true_and, if_pos, if_neg, ↓reduceIte, Nat.zero_add, Nat.add_zero, Nat.zero_le]
  rw [rsC h hp (S 4 r) 0 sg_N _ (by omega) (by show _ < 1000; omega) (by omega)]
  congr 2
  omega
theorem chC {b u a : Nat} {S : Sh} (hp : ps_sub S u) (hb : b + 10 ≤ a) : ∀ (d i f : Nat) (σ : Sg) (L : List Nat), i + d = S 10 u → d < f → σ.1 a 2 = nI (S 10 u) → (∀ i, i < S 10 u → σ.1 (a + 1) i = nI (S 11 (20 * u + i))) → tC b σ L → L.length + d ≤ 600 → ∃ σ', fn_X5_putLetters_B2 b f σ a (nI i) = some σ' ∧ tC b σ' (L ++ chl S u i d) ∧ fC b σ σ' := by
  have h20 := hp.2.1
  intro d
  induction d with
  | zero =>
    intro i f σ L hd hf h1 h2 h hL
    obtain ⟨f, rfl⟩ : ∃ g, f = g + 1 := ⟨f - 1, by omega⟩
    refine ⟨σ, ?_, by rw [show chl S u i 0 = [] by cases i <;> rfl, List.append_nil]; exact h, fC.rf⟩
    show fn_X5_putLetters_B2b b _ σ a (nI i) = _
    unfold fn_X5_putLetters_B2b
    rw [h1]
    simp (disch := omega) only [lit, nI_add, nI_mul, s_sub, a_le, a_lt, a_eq, sg_lt, sg_xN, s_ib, Option.bind_some, not_false_eq_true, true_and, if_pos, if_neg, ↓reduceIte, Nat.zero_add, Nat.add_zero, Nat.zero_le]
  | succ d ih =>
    intro i f σ L hd hf h1 h2 h hL
    obtain ⟨f, rfl⟩ : ∃ g, f = g + 1 := ⟨f - 1, by omega⟩
    have hc := hp.2.2 i (by omega)
    obtain ⟨σ1, a1, a2, a3⟩ := add_C (c := S 11 (20 * u + i)) h (by omega) (by omega)
    obtain ⟨σ2, b1, b2, b3⟩ := ih (i + 1) f σ1 _ (by omega) (by omega) (by rw [a3.1 _ _ (by omega) (by omega)]; exact h1) (fun i hi => by rw [a3.1 _ _ (by omega) (by omega)]; exact h2 i hi) a2 (by rw [List.length_append]; show L.length + 1 + d ≤ 600; omega)
    refine ⟨σ2, ?_, by rw [show chl S u i (d + 1) = [S 11 (20 * u + i)] ++ chl S u (i + 1) d from rfl, ← List.append_assoc]; exact b2, a3.tr b3⟩
    show fn_X5_putLetters_B2b b _ σ a (nI i) = _
    unfold fn_X5_putLetters_B2b
    rw [h1]
    simp (disch := omega) only [lit, nI_add, nI_mul, s_sub, a_le, a_lt, a_eq, sg_lt, sg_xN, s_ib, Option.bind_some, not_false_eq_true, true_and, if_pos, if_neg, ↓reduceIte, Nat.zero_add, Nat.add_zero, Nat.zero_le, h2 i (by omega), a1]
    exact b1
theorem ltC {b u a : Nat} {σ : Sg} {S : Sh} {L : List Nat} (hp : ps_sub S u) (hb : b + 10 ≤ a) (hr : rc_sub σ S u a) (h : tC b σ L) (hL : L.length + S 10 u ≤ 600) : ∃ σ', fn_X5_putLetters b σ a = some σ' ∧ tC b σ' (L ++ chl S u 0 (S 10 u)) ∧ fC b σ σ' := chC hp hb (S 10 u) 0 sg_N σ L (by omega) (by have := hp.2.1; show _ < 1000; omega) hr.2.1 hr.2.2.1 h hL
theorem rcf_f {b q a : Nat} {σ σ' : Sg} {S : Sh} (hf : fC b σ σ') (hb : b + 10 ≤ a) (hp : ps_fld S q) (h : rc_fld σ S q a) : rc_fld σ' S q a := rc_fld_g eq_fld.rf hp (fun z k h1 h2 => hf.1 z k (by omega) (by omega)) h
theorem sbC {b q a : Nat} {S : Sh} (hp : ps_fld S q) (hb : b + 10 ≤ a) : ∀ (d k f : Nat) (σ : Sg) (L : List Nat), k + d = S 8 q → d < f → rc_fld σ S q a → tC b σ L → L.length + fszl S q 2 k d ≤ 600 → ∃ σ', fn_X1_putDivided_B18 b f σ a (nI k) = some σ' ∧ tC b σ' (L ++ subl S q k d) ∧ fC b σ σ' := by
  have h4 := hp.2.2.2.2.2.1
  intro d
  induction d with
  | zero =>
    intro k f σ L hd hf h1 h hL
    obtain ⟨f, rfl⟩ : ∃ g, f = g + 1 := ⟨f - 1, by omega⟩
    refine ⟨σ, ?_, by rw [show subl S q k 0 = [] by cases k <;> rfl, List.append_nil]; exact h, fC.rf⟩
    show fn_X1_putDivided_B18b b _ σ a (nI k) = _
    unfold fn_X1_putDivided_B18b
    rw [h1.2.2.2.1]
    simp (disch := omega) only [lit, nI_add, nI_mul, s_sub, a_le, a_lt, a_eq, sg_lt, sg_xN, s_ib, Option.bind_some, not_false_eq_true, true_and, if_pos, if_neg, ↓reduceIte, Nat.zero_add, Nat.add_zero, Nat.zero_le]
  | succ d ih =>
    intro k f σ L hd hf h1 h hL
    obtain ⟨f, rfl⟩ : ∃ g, f = g + 1 := ⟨f - 1, by omega⟩
    have hs := hp.2.2.2.2.2.2.2 k (by omega)
    have hL2 : L.length + (2 + S 10 (4 * q + k) + fszl S q 2 (k + 1) d) ≤ 600 := hL
    have h9 := hs.1
    obtain ⟨σ1, a1, a2, a3⟩ := add_C (c := 31) h (by omega) (by decide)
    have r1 := rcf_f a3 hb hp h1
    obtain ⟨σ2, b1, b2, b3⟩ := add_C (c := S 9 (4 * q + k)) a2 (by rw [List.length_append]; show L.length + 1 < 600; omega) (by omega)
    have r2 := rcf_f b3 hb hp r1
    obtain ⟨σ3, c1, c2, c3⟩ := ltC (a := a + 2 + 4 * k) hs (by omega) (r2.2.2.2.2 k (by omega)) b2 (by rw [List.length_append, List.length_append]; show L.length + 1 + 1 + _ ≤ 600; omega)
    have r3 := rcf_f c3 hb hp r2
    obtain ⟨σ4, d1, d2, d3⟩ := ih (k + 1) f σ3 _ (by omega) (by omega) r3 c2 (by rw [List.length_append, List.length_append, List.length_append, chl_len]; show L.length + 1 + 1 + _ + _ ≤ 600; omega)
    refine ⟨σ4, ?_, by rw [show subl S q k (d + 1) = [31] ++ ([S 9 (4 * q + k)] ++ (chl S (4 * q + k) 0 (S 10 (4 * q + k)) ++ subl S q (k + 1) d)) from rfl, ← List.append_assoc, ← List.append_assoc, ← List.append_assoc]; exact d2, ((a3.tr b3).tr c3).tr d3⟩
    show fn_X1_putDivided_B18b b _ σ a (nI k) = _
    unfold fn_X1_putDivided_B18b
    rw [h1.2.2.2.1, show (31 : Int32) = nI 31 from rfl, a1]
    simp (disch := omega) only [lit, nI_add, nI_mul, s_sub, a_le, a_lt, a_eq, sg_lt, sg_xN, s_ib, Option.bind_some, not_false_eq_true, true_and, if_pos, if_neg, ↓reduceIte, Nat.zero_add, Nat.add_zero, Nat.zero_le, (r1.2.2.2.2 k (by omega)).1, b1, c1]
    exact d1
theorem flC {b q a : Nat} {σ : Sg} {S : Sh} {L : List Nat} (hp : ps_fld S q) (hb : b + 10 ≤ a) (h1 : rc_fld σ S q a) (h : tC b σ L) (hL : L.length + fsz S q ≤ 600) : ∃ σ', fn_X1_putInto b σ a = some σ' ∧ tC b σ' (L ++ fldl S q) ∧ fC b σ σ' := by
  have h4 := hp.2.2.2.2.2.1
  have ht := hp.2.1
  have h11 := hp.2.2.2.2.1
  unfold fn_X1_putInto fn_X1_isSimple fldl
  unfold fsz at hL
  rw [h1.1]
  by_cases hs : S 5 q < 10
  · rw [if_pos hs] at hL
    have hsu := hp.2.2.2.2.2.2.2 0 (by omega)
    rw [Nat.add_zero] at hsu
    have e0 : rc_sub σ S (4 * q) (a + 2) := h1.2.2.2.2 0 (by omega)
    obtain ⟨σ1, a1, a2, a3⟩ := ltC hsu (by omega) e0 h (by omega)
    obtain ⟨σ2, b1, b2, b3⟩ := add_C (c := 30) a2 (by rw [List.length_append, chl_len]; omega) (by decide)
    refine ⟨σ2, ?_, by rw [if_pos hs, ← List.append_assoc]; exact b2, a3.tr b3⟩
    unfold fn_X1_putInto_B25
    simp (disch := omega) only [lit, nI_add, nI_mul, s_sub, a_le, a_lt, a_eq, sg_lt, sg_xN, s_ib, Option.bind_some, not_false_eq_true, true_and, if_pos, if_neg, ↓reduceIte, Nat.zero_add, Nat.add_zero, Nat.zero_le, Nat.mul_zero, a1, b1]
  · rw [if_neg hs] at hL
    have hi1 := hp.2.2.1
    have hi2 := hp.2.2.2.1
    obtain ⟨σ1, a1, a2, a3⟩ := add_C (c := S 6 q) h (by omega) (by omega)
    have r1 := rcf_f a3 hb hp h1
    obtain ⟨σ2, b1, b2, b3⟩ := add_C (c := S 7 q) a2 (by rw [List.length_append]; show L.length + 1 < 600; omega) (by omega)
    have r2 := rcf_f b3 hb hp r1
    obtain ⟨σ3, c1, c2, c3⟩ := sbC hp hb (S 8 q) 0 sg_N σ2 _ (by omega) (by show _ < 1000; omega) r2 b2 (by rw [List.length_append, List.length_append]; show L.length + 1 + 1 + _ ≤ 600; omega)
    obtain ⟨σ4, d1, d2, d3⟩ := add_C (c := 30) c2 (by rw [List.length_append, List.length_append, List.length_append, subl_len]; show L.length + 1 + 1 + _ < 600; omega) (by decide)
    refine ⟨σ4, ?_, by rw [if_neg hs, show S 6 q :: S 7 q :: (subl S q 0 (S 8 q) ++ [30]) = [S 6 q] ++ ([S 7 q] ++ (subl S q 0 (S 8 q) ++ [30])) from rfl, ← List.append_assoc, ← List.append_assoc, ← List.append_assoc]; exact d2, ((a3.tr b3).tr c3).tr d3⟩
    unfold fn_X1_putInto_B25 fn_X1_putDivided
    simp (disch := omega) only [lit, nI_add, nI_mul, s_sub, a_le, a_lt, a_eq, sg_lt, sg_xN, s_ib, Option.bind_some, not_false_eq_true, true_and, if_pos, if_neg, ↓reduceIte, Nat.zero_add, Nat.add_zero, Nat.zero_le, h1.2.1, a1, r1.2.2.1, b1, c1, d1]
def RC (b : Nat) (σ : Sg) (S : Sh) (r : Nat) : Prop := rc_rec b σ S r ∧ rc_row b σ
theorem RC_f {b r : Nat} {σ σ' : Sg} {S : Sh} (hf : fC b σ σ') (hr : r < 6) (hp : ps_rec S r) (h : RC b σ S r) : RC b σ' S r :=
  ⟨rc_rec_f hr h.2 (fun a k ha => hf.1 a k (by omega) (by omega)) hf.2 (fun _ _ _ => rfl) hp.1 h.1, by unfold rc_row; rw [hf.2]; exact h.2⟩
theorem RC_a {b r f : Nat} {σ : Sg} {S : Sh} (hr : r < 6) (hf : f < 8) (h : RC b σ S r) : b + 10 ≤ σ.2 (ad_C b r + 2) f := by
  obtain ⟨p, hp, e⟩ := (h.2 r hr).1 f hf
  rw [e]
  show b + 10 ≤ b + 10 + 147 * r + 3 + 18 * p
  omega
theorem flsC {b r : Nat} {S : Sh} (hr : r < 6) (hp : ps_rec S r) : ∀ (d k f : Nat) (σ : Sg) (L : List Nat), k + d = S 4 r → d < f → RC b σ S r → tC b σ L → L.length + rsz S r k d + 1 ≤ 600 → ∃ σ', fn_X0_putInto_B12 b f σ (ad_C b r) (nI k) = some σ' ∧ tC b σ' (L ++ t_f S r k d) ∧ fC b σ σ' := by
  have h8 := hp.1
  intro d
  induction d with
  | zero =>
    intro k f σ L hd hf h1 h hL
    obtain ⟨f, rfl⟩ : ∃ g, f = g + 1 := ⟨f - 1, by omega⟩
    obtain ⟨σ1, a1, a2, a3⟩ := add_C (c := 29) h (by omega) (by decide)
    refine ⟨σ1, ?_, by rw [show t_f S r k 0 = [29] by cases k <;> rfl]; exact a2, a3⟩
    show fn_X0_putInto_B12b b _ σ (ad_C b r) (nI k) = _
    unfold fn_X0_putInto_B12b
    rw [h1.1.1]
    simp (disch := omega) only [lit, nI_add, nI_mul, s_sub, a_le, a_lt, a_eq, sg_lt, sg_xN, s_ib, Option.bind_some, not_false_eq_true, true_and, if_pos, if_neg, ↓reduceIte, Nat.zero_add, Nat.add_zero, Nat.zero_le, a1]
  | succ d ih =>
    intro k f σ L hd hf h1 h hL
    obtain ⟨f, rfl⟩ : ∃ g, f = g + 1 := ⟨f - 1, by omega⟩
    have hL2 : L.length + (fsz S (8 * r + k) + rsz S r (k + 1) d) + 1 ≤ 600 := hL
    obtain ⟨σ1, a1, a2, a3⟩ := flC (hp.2.2 k (by omega)) (RC_a hr (by omega) h1) (h1.1.2.2 k (by omega)) h (by omega)
    obtain ⟨σ2, b1, b2, b3⟩ := ih (k + 1) f σ1 _ (by omega) (by omega) (RC_f a3 hr hp h1) a2 (by rw [List.length_append, fldl_len]; omega)
    refine ⟨σ2, ?_, by rw [show t_f S r k (d + 1) = fldl S (8 * r + k) ++ t_f S r (k + 1) d from by unfold t_f; show (fldl S (8 * r + k) ++ fldsl S r (k + 1) d) ++ [29] = _; rw [List.append_assoc], ← List.append_assoc]; exact b2, a3.tr b3⟩
    show fn_X0_putInto_B12b b _ σ (ad_C b r) (nI k) = _
    unfold fn_X0_putInto_B12b
    rw [h1.1.1]
    simp (disch := omega) only [lit, nI_add, nI_mul, s_sub, a_le, a_lt, a_eq, sg_lt, sg_xN, s_ib, Option.bind_some, not_false_eq_true, true_and, if_pos, if_neg, ↓reduceIte, Nat.zero_add, Nat.add_zero, Nat.zero_le, a1]
    exact b1
theorem dirC {b r : Nat} {S : Sh} (hr : r < 6) (hp : ps_rec S r) : ∀ (d k f st : Nat) (σ : Sg) (L : List Nat), k + d = S 4 r → d < f → st + 100 * d < 1000000 → RC b σ S r → tC b σ L → L.length + 12 * d + 1 ≤ 600 → ∃ σ', fn_X0_putDirectory_B4 b f σ (ad_C b r) (nI st) (nI k) = some σ' ∧ tC b σ' (L ++ (dirl S r st k d ++ [30])) ∧ fC b σ σ' := by
  have h8 := hp.1
  intro d
  induction d with
  | zero =>
    intro k f st σ L hd hf hst h1 h hL
    obtain ⟨f, rfl⟩ : ∃ g, f = g + 1 := ⟨f - 1, by omega⟩
    obtain ⟨σ1, a1, a2, a3⟩ := add_C (c := 30) h (by omega) (by decide)
    refine ⟨σ1, ?_, by rw [show dirl S r st k 0 = [] by cases k <;> cases st <;> rfl]; exact a2, a3⟩
    show fn_X0_putDirectory_B4b b _ σ (ad_C b r) (nI st) (nI k) = _
    unfold fn_X0_putDirectory_B4b
    rw [h1.1.1]
    simp (disch := omega) only [lit, nI_add, nI_mul, s_sub, a_le, a_lt, a_eq, sg_lt, sg_xN, s_ib, Option.bind_some, not_false_eq_true, true_and, if_pos, if_neg, ↓reduceIte, Nat.zero_add, Nat.add_zero, Nat.zero_le, a1]
  | succ d ih =>
    intro k f st σ L hd hf hst h1 h hL
    obtain ⟨f, rfl⟩ : ∃ g, f = g + 1 := ⟨f - 1, by omega⟩
    have hpf := hp.2.2 k (by omega)
    have h91 := fsz_le hpf
    have ht := hpf.2.1
    obtain ⟨σ1, a1, a2, a3⟩ := nuC (v := S 5 (8 * r + k)) (d := 3) (by omega) (by decide) h (by omega)
    have r1 := RC_f a3 hr hp h1
    obtain ⟨σ2, b1, b2, b3⟩ := nuC (v := fsz S (8 * r + k)) (d := 4) (by omega) (by decide) a2 (by rw [List.length_append, numl_len]; omega)
    have r2 := RC_f b3 hr hp r1
    obtain ⟨σ3, c1, c2, c3⟩ := nuC (v := st) (d := 5) (by omega) (by decide) b2 (by rw [List.length_append, List.length_append, numl_len, numl_len]; omega)
    have r3 := RC_f c3 hr hp r2
    · obtain ⟨σ4, d1, d2, d3⟩ := ih (k + 1) f (st + fsz S (8 * r + k)) σ3 _ (by omega) (by omega) (by omega) r3 c2 (by rw [List.length_append, List.length_append, List.length_append, numl_len, numl_len, numl_len]; omega)
      refine ⟨σ4, ?_, by rw [show dirl S r st k (d + 1) ++ [30] = numl (S 5 (8 * r + k)) 3 ++ (numl (fsz S (8 * r + k)) 4 ++ (numl st 5 ++ (dirl S r (st + fsz S (8 * r + k)) (k + 1) d ++ [30]))) from by show (numl (S 5 (8 * r + k)) 3 ++ (numl (fsz S (8 * r + k)) 4 ++ (numl st 5 ++ dirl S r (st + fsz S (8 * r + k)) (k + 1) d))) ++ [30] = _; rw [List.append_assoc, List.append_assoc, List.append_assoc], ← List.append_assoc, ← List.append_assoc, ← List.append_assoc]; exact d2, ((a3.tr b3).tr c3).tr d3⟩
      show fn_X0_putDirectory_B4b b _ σ (ad_C b r) (nI st) (nI k) = _
      unfold fn_X0_putDirectory_B4b
      rw [h1.1.1]
      simp (disch := omega) only [lit, nI_add, nI_mul, s_sub, a_le, a_lt, a_eq, sg_lt, sg_xN, s_ib, Option.bind_some, not_false_eq_true, true_and, if_pos, if_neg, ↓reduceIte, Nat.zero_add, Nat.add_zero, Nat.zero_le, (h1.1.2.2 k (by omega)).1, a1, szC (b := b) (r1.1.2.2 k (by omega)) hpf, b1, c1, szC (b := b) (r3.1.2.2 k (by omega)) hpf]
      exact d1
