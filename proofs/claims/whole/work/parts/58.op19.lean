-- ===== write: the reference =====
theorem lnM1 {m q : Nat} {τ : Sg} {S : Sh} (h : rm_fld m τ S q) (hp : ps_fld S q) (hq : q < 48) (hs : ¬ S 5 q < 10) : ∀ (d k f x : Nat), k + d = S 8 q → d < f → x + 100 * d < 1000000 → fn_X8_lengthOf_B21 m τ f (nI q) (nI x) (nI (4 * q + k)) = some (nI (x + fszl S q 2 k d)) := by
  have h4 := hp.2.2.2.2.2.1
  have ht := hp.2.1
  intro d
  induction d with
  | zero =>
    intro k f x hd hf hx
    obtain ⟨f, rfl⟩ : ∃ g, f = g + 1 := ⟨f - 1, by omega⟩
    show fn_X8_lengthOf_B21b m τ _ (nI q) (nI x) (nI (4 * q + k)) = _
    unfold fn_X8_lengthOf_B21b
    simp (disch := omega) only [lit, nI_add, nI_mul, s_sub, a_le, a_lt, a_eq, sg_lt, sg_xN, s_ib, Option.bind_some, not_false_eq_true, true_and, if_pos, if_neg, ↓reduceIte, Nat.zero_add, Nat.add_zero, Nat.zero_le, h.2.2.2.1, fszl]
  | succ d ih =>
    intro k f x hd hf hx
    obtain ⟨f, rfl⟩ : ∃ g, f = g + 1 := ⟨f - 1, by omega⟩
    have h20 := (hp.2.2.2.2.2.2.2 k (by omega)).2.1
    show fn_X8_lengthOf_B21b m τ _ (nI q) (nI x) (nI (4 * q + k)) = _
    unfold fn_X8_lengthOf_B21b fn_X8_lengthOf_B59
    simp (disch := omega) only [lit, nI_add, nI_mul, s_sub, a_le, a_lt, a_eq, sg_lt, sg_xN, s_ib, Option.bind_some, not_false_eq_true, true_and, if_pos, if_neg, ↓reduceIte, Nat.zero_add, Nat.add_zero, Nat.zero_le, h.2.2.2.1, h.1, fszl, (h.2.2.2.2 k (by omega)).2.1]
    rw [show 4 * q + k + 1 = 4 * q + (k + 1) by omega, ih (k + 1) f (x + S 10 (4 * q + k) + 2) (by omega) (by omega) (by omega)]
    congr 2
    omega
theorem szM {m q : Nat} {τ : Sg} {S : Sh} (h : rm_fld m τ S q) (hp : ps_fld S q) (hq : q < 48) : fn_X8_lengthOf m τ (nI q) = some (nI (fsz S q)) := by
  have h4 := hp.2.2.2.2.2.1
  have ht := hp.2.1
  have h1 := hp.2.2.2.2.1
  unfold fn_X8_lengthOf fn_X8_lengthOf_B16 fsz
  by_cases hs : S 5 q < 10
  · have h11 := hp.2.2.2.2.2.2.1 hs
    have e0 : τ.1 (m + 9) (4 * q) = nI (S 10 (4 * q)) := (h.2.2.2.2 0 (by omega)).2.1
    have h20 : S 10 (4 * q) ≤ 20 := (hp.2.2.2.2.2.2.2 0 (by omega)).2.1
    simp (disch := omega) only [lit, nI_add, nI_mul, s_sub, a_le, a_lt, a_eq, sg_lt, sg_xN, s_ib, Option.bind_some, not_false_eq_true, true_and, if_pos, if_neg, ↓reduceIte, Nat.zero_add, Nat.add_zero, Nat.zero_le, h.1]
    show fn_X8_lengthOf_B21b m τ (fn_X8_lengthOf_B21 m τ 999) (nI q) (nI 1) (nI (4 * q)) = _
    unfold fn_X8_lengthOf_B21b fn_X8_lengthOf_B59
    simp (disch := omega) only [lit, nI_add, nI_mul, s_sub, a_le, a_lt, a_eq, sg_lt, sg_xN, s_ib, Option.bind_some, not_false_eq_true, true_and, if_pos, if_neg, ↓reduceIte, Nat.zero_add, Nat.add_zero, Nat.zero_le, h.2.2.2.1, h.1, e0]
    show fn_X8_lengthOf_B21b m τ _ (nI q) (nI (1 + S 10 (4 * q))) (nI (4 * q + 1)) = _
    unfold fn_X8_lengthOf_B21b
    simp (disch := omega) only [lit, nI_add, nI_mul, s_sub, a_le, a_lt, a_eq, sg_lt, sg_xN, s_ib, Option.bind_some, not_false_eq_true, true_and, if_pos, if_neg, ↓reduceIte, Nat.zero_add, Nat.add_zero, Nat.zero_le, h.2.2.2.1, h11]
    rw [Nat.add_comm]
  · simp (disch := omega) only [lit, nI_add, nI_mul, s_sub, a_le, a_lt, a_eq, sg_lt, sg_xN, s_ib, Option.bind_some, not_false_eq_true, true_and, if_pos, if_neg, ↓reduceIte, Nat.zero_add, Nat.add_zero, Nat.zero_le, h.1]
    rw [show 4 * q = 4 * q + 0 from rfl]
    exact lnM1 h hp hq hs (S 8 q) 0 sg_N 3 (by omega) (by show _ < 1000; omega) (by omega)
theorem rmf_f {m q : Nat} {τ τ' : Sg} {S : Sh} (hf : fM m τ τ') (hp : ps_fld S q) (h : rm_fld m τ S q) : rm_fld m τ' S q := rm_fld_g eq_fld.rf hp (fun z h1 h2 => hf z _ (by omega) (by omega)) (fun z s h1 h2 => hf z _ (by omega) (by omega)) (fun i hi => hf _ _ (by omega) (by omega)) h
theorem rmr_f {m r : Nat} {τ τ' : Sg} {S : Sh} (hf : fM m τ τ') (h : rm_rec m τ S r) : rm_rec m τ' S r := rm_rec_f (fun a k h1 h2 => hf a k (by omega) (by omega)) (fun _ _ _ => rfl) h
theorem chM {m u q : Nat} {S : Sh} {y : Int32} {z45 : Sg → Int32 → Int32 → Int32 → Option (Sg)} (hp : ps_sub S u) (hu : u < 192) : ∀ (d i f : Nat) (τ : Sg) (L : List Nat), i + d = S 10 u → d < f → rm_sub m τ S u → tM m τ L → L.length + d ≤ 600 → ∃ τ', fn_X8_putField_B82 m z45 f τ (nI q) y (nI u) (nI i) = z45 τ' (nI q) y (nI (u + 1)) ∧ tM m τ' (L ++ chl S u i d) ∧ fM m τ τ' := by
  have h20 := hp.2.1
  intro d
  induction d with
  | zero =>
    intro i f τ L hd hf h1 h hL
    obtain ⟨f, rfl⟩ : ∃ g, f = g + 1 := ⟨f - 1, by omega⟩
    refine ⟨τ, ?_, by rw [show chl S u i 0 = [] by cases i <;> rfl, List.append_nil]; exact h, fM.rf⟩
    show fn_X8_putField_B82b m z45 _ τ (nI q) y (nI u) (nI i) = _
    unfold fn_X8_putField_B82b
    simp (disch := omega) only [lit, nI_add, nI_mul, s_sub, a_le, a_lt, a_eq, sg_lt, sg_xN, s_ib, Option.bind_some, not_false_eq_true, true_and, if_pos, if_neg, ↓reduceIte, Nat.zero_add, Nat.add_zero, Nat.zero_le, h1.2.1]
  | succ d ih =>
    intro i f τ L hd hf h1 h hL
    obtain ⟨f, rfl⟩ : ∃ g, f = g + 1 := ⟨f - 1, by omega⟩
    obtain ⟨τ1, a1, a2, a3⟩ := put_M (c := S 11 (20 * u + i)) h (by omega)
    have h1' : rm_sub m τ1 S u := rm_sub_g eq_sub.rf h20 (a3 _ _ (by omega) (by omega)) (a3 _ _ (by omega) (by omega)) (fun i hi => a3 _ _ (by omega) (by omega)) h1
    obtain ⟨τ2, b1, b2, b3⟩ := ih (i + 1) f τ1 _ (by omega) (by omega) h1' a2 (by rw [List.length_append]; show L.length + 1 + d ≤ 600; omega)
    refine ⟨τ2, ?_, by rw [show chl S u i (d + 1) = [S 11 (20 * u + i)] ++ chl S u (i + 1) d from rfl, ← List.append_assoc]; exact b2, a3.tr b3⟩
    show fn_X8_putField_B82b m z45 _ τ (nI q) y (nI u) (nI i) = _
    unfold fn_X8_putField_B82b
    simp (disch := omega) only [lit, nI_add, nI_mul, s_sub, a_le, a_lt, a_eq, sg_lt, sg_xN, s_ib, Option.bind_some, not_false_eq_true, true_and, if_pos, if_neg, ↓reduceIte, Nat.zero_add, Nat.add_zero, Nat.zero_le, h1.2.1, h1.2.2 i (by omega), a1]
    exact b1
theorem sbM {m q : Nat} {S : Sh} (hp : ps_fld S q) (hq : q < 48) : ∀ (d k f : Nat) (τ : Sg) (L : List Nat), k + d = S 8 q → d < f → rm_fld m τ S q → tM m τ L → L.length + fszl S q 2 k d + 1 ≤ 600 → ∃ τ', fn_X8_putField_B45 m f τ (nI q) 0 (nI (4 * q + k)) = some τ' ∧ tM m τ' (L ++ (subl S q k d ++ [30])) ∧ fM m τ τ' := by
  have h4 := hp.2.2.2.2.2.1
  intro d
  induction d with
  | zero =>
    intro k f τ L hd hf h1 h hL
    obtain ⟨f, rfl⟩ : ∃ g, f = g + 1 := ⟨f - 1, by omega⟩
    obtain ⟨τ1, a1, a2, a3⟩ := put_M (c := 30) h (by omega)
    refine ⟨τ1, ?_, by rw [show subl S q k 0 = [] by cases k <;> rfl]; exact a2, a3⟩
    show fn_X8_putField_B45b m _ τ (nI q) 0 (nI (4 * q + k)) = _
    unfold fn_X8_putField_B45b
    simp (disch := omega) only [lit, nI_add, nI_mul, s_sub, a_le, a_lt, a_eq, sg_lt, sg_xN, s_ib, Option.bind_some, not_false_eq_true, true_and, if_pos, if_neg, ↓reduceIte, Nat.zero_add, Nat.add_zero, Nat.zero_le, h1.2.2.2.1, a1]
  | succ d ih =>
    intro k f τ L hd hf h1 h hL
    obtain ⟨f, rfl⟩ : ∃ g, f = g + 1 := ⟨f - 1, by omega⟩
    have hs := hp.2.2.2.2.2.2.2 k (by omega)
    have hs20 := hs.2.1
    have hL2 : L.length + (2 + S 10 (4 * q + k) + fszl S q 2 (k + 1) d) + 1 ≤ 600 := hL
    obtain ⟨τ1, a1, a2, a3⟩ := put_M (c := 31) h (by omega)
    have r1 := rmf_f a3 hp h1
    obtain ⟨τ2, b1, b2, b3⟩ := put_M (c := S 9 (4 * q + k)) a2 (by rw [List.length_append]; show L.length + 1 < 600; omega)
    have r2 := rmf_f b3 hp r1
    obtain ⟨τ3, c1, c2, c3⟩ := chM (q := q) (y := 0) (z45 := fn_X8_putField_B45 m f) hs (by omega) (S 10 (4 * q + k)) 0 sg_N τ2 _ (by omega) (by show _ < 1000; omega) (r2.2.2.2.2 k (by omega)) b2 (by rw [List.length_append, List.length_append]; show L.length + 1 + 1 + _ ≤ 600; omega)
    have r3 := rmf_f c3 hp r2
    obtain ⟨τ4, d1, d2, d3⟩ := ih (k + 1) f τ3 _ (by omega) (by omega) r3 c2 (by rw [List.length_append, List.length_append, List.length_append, chl_len]; show L.length + 1 + 1 + _ + _ + 1 ≤ 600; omega)
    refine ⟨τ4, ?_, by rw [show subl S q k (d + 1) ++ [30] = [31] ++ ([S 9 (4 * q + k)] ++ (chl S (4 * q + k) 0 (S 10 (4 * q + k)) ++ (subl S q (k + 1) d ++ [30]))) from by rw [← List.append_assoc (chl S (4 * q + k) 0 (S 10 (4 * q + k)))]; rfl, ← List.append_assoc, ← List.append_assoc, ← List.append_assoc]; exact d2, ((a3.tr b3).tr c3).tr d3⟩
    show fn_X8_putField_B45b m _ τ (nI q) 0 (nI (4 * q + k)) = _
    unfold fn_X8_putField_B45b fn_X8_putField_B79
    rw [show (0 : Int32) = nI 0 from rfl] at c1 d1
    simp (disch := omega) only [lit, nI_add, nI_mul, s_sub, a_le, a_lt, a_eq, sg_lt, sg_xN, s_ib, Option.bind_some, not_false_eq_true, true_and, if_pos, if_neg, ↓reduceIte, Nat.zero_add, Nat.add_zero, Nat.zero_le, h1.2.2.2.1, a1, (r1.2.2.2.2 k (by omega)).1, b1]
    rw [c1]
    exact d1
theorem flM {m q : Nat} {τ : Sg} {S : Sh} {L : List Nat} (hp : ps_fld S q) (hq : q < 48) (h1 : rm_fld m τ S q) (h : tM m τ L) (hL : L.length + fsz S q ≤ 600) : ∃ τ', fn_X8_putField m τ (nI q) = some τ' ∧ tM m τ' (L ++ fldl S q) ∧ fM m τ τ' := by
  have h4 := hp.2.2.2.2.2.1
  have ht := hp.2.1
  have h11 := hp.2.2.2.2.1
  unfold fn_X8_putField fn_X8_putField_B16 fn_X8_putField_B41 fldl
  unfold fsz at hL
  by_cases hs : S 5 q < 10
  · rw [if_pos hs] at hL
    have hs1 := hp.2.2.2.2.2.2.1 hs
    have hsu : ps_sub S (4 * q) := hp.2.2.2.2.2.2.2 0 (by omega)
    have hsu20 := hsu.2.1
    obtain ⟨τ1, a1, a2, a3⟩ := chM (q := q) (y := nI 1) (z45 := fn_X8_putField_B45 m 999) hsu (by omega) (S 10 (4 * q)) 0 sg_N τ _ (by omega) (by show _ < 1000; omega) (h1.2.2.2.2 0 (by omega)) h (by omega)
    have r1 := rmf_f a3 hp h1
    obtain ⟨τ2, b1, b2, b3⟩ := put_M (c := 30) a2 (by rw [List.length_append, chl_len]; omega)
    refine ⟨τ2, ?_, by rw [if_pos hs, ← List.append_assoc]; exact b2, a3.tr b3⟩
    simp (disch := omega) only [lit, nI_add, nI_mul, s_sub, a_le, a_lt, a_eq, sg_lt, sg_xN, s_ib, Option.bind_some, not_false_eq_true, true_and, if_pos, if_neg, ↓reduceIte, Nat.zero_add, Nat.add_zero, Nat.zero_le, h1.1]
    show fn_X8_putField_B45b m (fn_X8_putField_B45 m 999) τ (nI q) (nI 1) (nI (4 * q)) = _
    unfold fn_X8_putField_B45b fn_X8_putField_B79
    simp (disch := omega) only [lit, nI_add, nI_mul, s_sub, a_le, a_lt, a_eq, sg_lt, sg_xN, s_ib, Option.bind_some, not_false_eq_true, true_and, if_pos, if_neg, ↓reduceIte, Nat.zero_add, Nat.add_zero, Nat.zero_le, h1.2.2.2.1]
    rw [a1]
    show fn_X8_putField_B45b m _ τ1 (nI q) (nI 1) (nI (4 * q + 1)) = _
    unfold fn_X8_putField_B45b
    simp (disch := omega) only [lit, nI_add, nI_mul, s_sub, a_le, a_lt, a_eq, sg_lt, sg_xN, s_ib, Option.bind_some, not_false_eq_true, true_and, if_pos, if_neg, ↓reduceIte, Nat.zero_add, Nat.add_zero, Nat.zero_le, r1.2.2.2.1, hs1, b1]
  · rw [if_neg hs] at hL
    obtain ⟨τ1, a1, a2, a3⟩ := put_M (c := S 6 q) h (by omega)
    have r1 := rmf_f a3 hp h1
    obtain ⟨τ2, b1, b2, b3⟩ := put_M (c := S 7 q) a2 (by rw [List.length_append]; show L.length + 1 < 600; omega)
    have r2 := rmf_f b3 hp r1
    obtain ⟨τ3, c1, c2, c3⟩ := sbM hp hq (S 8 q) 0 sg_N τ2 _ (by omega) (by show _ < 1000; omega) r2 b2 (by rw [List.length_append, List.length_append]; show L.length + 1 + 1 + _ + 1 ≤ 600; omega)
    refine ⟨τ3, ?_, by rw [if_neg hs, show S 6 q :: S 7 q :: (subl S q 0 (S 8 q) ++ [30]) = [S 6 q] ++ ([S 7 q] ++ (subl S q 0 (S 8 q) ++ [30])) from rfl, ← List.append_assoc, ← List.append_assoc]; exact c2, (a3.tr b3).tr c3⟩
    rw [show (0 : Int32) = nI 0 from rfl, Nat.add_zero] at c1
    simp (disch := omega) only [lit, nI_add, nI_mul, s_sub, a_le, a_lt, a_eq, sg_lt, sg_xN, s_ib, Option.bind_some, not_false_eq_true, true_and, if_pos, if_neg, ↓reduceIte, Nat.zero_add, Nat.add_zero, Nat.zero_le, h1.1, h1.2.1, a1, r1.2.2.1, b1, c1]
theorem wM254 {m r : Nat} {S : Sh} (hr : r < 6) (hp : ps_rec S r) : ∀ (d k f : Nat) (τ : Sg) (L : List Nat), k + d = S 4 r → d < f → rm_rec m τ S r → tM m τ L → L.length + rsz S r k d + 1 ≤ 600 → ∃ τ', fn_X8_write_B254 m f τ (nI r) (nI (S 4 r)) (nI (8 * r + k)) = some (nI (L ++ t_f S r k d).length, τ') ∧ tM m τ' (L ++ t_f S r k d) ∧ fM m τ τ' := by
  have h8 := hp.1
  intro d
  induction d with
  | zero =>
    intro k f τ L hd hf h1 h hL
    obtain ⟨f, rfl⟩ : ∃ g, f = g + 1 := ⟨f - 1, by omega⟩
    obtain ⟨τ1, a1, a2, a3⟩ := put_M (c := 29) h (by omega)
    rw [show t_f S r k 0 = [29] by cases k <;> rfl]
    refine ⟨τ1, ?_, a2, a3⟩
    show fn_X8_write_B254b m _ τ (nI r) (nI (S 4 r)) (nI (8 * r + k)) = _
    unfold fn_X8_write_B254b
    simp (disch := omega) only [lit, nI_add, nI_mul, s_sub, a_le, a_lt, a_eq, sg_lt, sg_xN, s_ib, Option.bind_some, not_false_eq_true, true_and, if_pos, if_neg, ↓reduceIte, Nat.zero_add, Nat.add_zero, Nat.zero_le, a1, a2.1]
  | succ d ih =>
    intro k f τ L hd hf h1 h hL
    obtain ⟨f, rfl⟩ : ∃ g, f = g + 1 := ⟨f - 1, by omega⟩
    have hL2 : L.length + (fsz S (8 * r + k) + rsz S r (k + 1) d) + 1 ≤ 600 := hL
    obtain ⟨τ1, a1, a2, a3⟩ := flM (hp.2.2 k (by omega)) (by omega) (h1.2.2 k (by omega)) h (by omega)
    obtain ⟨τ2, b1, b2, b3⟩ := ih (k + 1) f τ1 _ (by omega) (by omega) (rmr_f a3 h1) a2 (by rw [List.length_append, fldl_len]; omega)
    rw [show t_f S r k (d + 1) = fldl S (8 * r + k) ++ t_f S r (k + 1) d from by unfold t_f; show (fldl S (8 * r + k) ++ fldsl S r (k + 1) d) ++ [29] = _; rw [List.append_assoc], ← List.append_assoc]
    refine ⟨τ2, ?_, b2, a3.tr b3⟩
    show fn_X8_write_B254b m _ τ (nI r) (nI (S 4 r)) (nI (8 * r + k)) = _
    unfold fn_X8_write_B254b
    simp (disch := omega) only [lit, nI_add, nI_mul, s_sub, a_le, a_lt, a_eq, sg_lt, sg_xN, s_ib, Option.bind_some, not_false_eq_true, true_and, if_pos, if_neg, ↓reduceIte, Nat.zero_add, Nat.add_zero, Nat.zero_le, a1]
    exact b1
theorem wM184 {m r : Nat} {S : Sh} (hr : r < 6) (hp : ps_rec S r) : ∀ (d k f st : Nat) (τ : Sg) (L : List Nat), k + d = S 4 r → d < f → st + 100 * d < 1000000 → rm_rec m τ S r → tM m τ L → L.length + 12 * d + 2 + rsz S r 0 (S 4 r) ≤ 600 → ∃ τ', fn_X8_write_B184 m f τ (nI r) (nI (S 4 r)) (nI st) (nI (8 * r + k)) = some (nI (L ++ t_d S r st k d).length, τ') ∧ tM m τ' (L ++ t_d S r st k d) ∧ fM m τ τ' := by
  have h8 := hp.1
  intro d
  induction d with
  | zero =>
    intro k f st τ L hd hf hst h1 h hL
    obtain ⟨f, rfl⟩ : ∃ g, f = g + 1 := ⟨f - 1, by omega⟩
    obtain ⟨τ1, a1, a2, a3⟩ := put_M (c := 30) h (by omega)
    obtain ⟨τ2, b1, b2, b3⟩ := wM254 hr hp (S 4 r) 0 sg_N τ1 _ (by omega) (by show _ < 1000; omega) (rmr_f a3 h1) a2 (by rw [List.length_append]; show L.length + 1 + _ + 1 ≤ 600; omega)
    rw [show t_d S r st k 0 = [30] ++ t_f S r 0 (S 4 r) by cases k <;> cases st <;> rfl, ← List.append_assoc]
    refine ⟨τ2, ?_, b2, a3.tr b3⟩
    show fn_X8_write_B184b m _ τ (nI r) (nI (S 4 r)) (nI st) (nI (8 * r + k)) = _
    unfold fn_X8_write_B184b
    rw [Nat.add_zero] at b1
    simp (disch := omega) only [lit, nI_add, nI_mul, s_sub, a_le, a_lt, a_eq, sg_lt, sg_xN, s_ib, Option.bind_some, not_false_eq_true, true_and, if_pos, if_neg, ↓reduceIte, Nat.zero_add, Nat.add_zero, Nat.zero_le, a1]
    exact b1
  | succ d ih =>
    intro k f st τ L hd hf hst h1 h hL
    obtain ⟨f, rfl⟩ : ∃ g, f = g + 1 := ⟨f - 1, by omega⟩
    have hpf := hp.2.2 k (by omega)
    have h91 := fsz_le hpf
    have ht := hpf.2.1
    obtain ⟨τ1, a1, a2, a3⟩ := nuM (v := S 5 (8 * r + k)) (d := 3) (by omega) (by decide) h (by omega)
    obtain ⟨τ2, b1, b2, b3⟩ := nuM (v := fsz S (8 * r + k)) (d := 4) (by omega) (by decide) a2 (by rw [List.length_append, numl_len]; omega)
    obtain ⟨τ3, c1, c2, c3⟩ := nuM (v := st) (d := 5) (by omega) (by decide) b2 (by rw [List.length_append, List.length_append, numl_len, numl_len]; omega)
    have r3 := rmr_f ((a3.tr b3).tr c3) h1
    obtain ⟨τ4, d1, d2, d3⟩ := ih (k + 1) f (st + fsz S (8 * r + k)) τ3 _ (by omega) (by omega) (by omega) r3 c2 (by rw [List.length_append, List.length_append, List.length_append, numl_len, numl_len, numl_len]; omega)
    rw [show t_d S r st k (d + 1) = numl (S 5 (8 * r + k)) 3 ++ (numl (fsz S (8 * r + k)) 4 ++ (numl st 5 ++ t_d S r (st + fsz S (8 * r + k)) (k + 1) d)) from by unfold t_d; show (numl (S 5 (8 * r + k)) 3 ++ (numl (fsz S (8 * r + k)) 4 ++ (numl st 5 ++ dirl S r (st + fsz S (8 * r + k)) (k + 1) d))) ++ _ = _; rw [List.append_assoc, List.append_assoc, List.append_assoc], ← List.append_assoc, ← List.append_assoc, ← List.append_assoc]
    refine ⟨τ4, ?_, d2, ((a3.tr b3).tr c3).tr d3⟩
    show fn_X8_write_B184b m _ τ (nI r) (nI (S 4 r)) (nI st) (nI (8 * r + k)) = _
    unfold fn_X8_write_B184b
    simp (disch := omega) only [lit, nI_add, nI_mul, s_sub, a_le, a_lt, a_eq, sg_lt, sg_xN, s_ib, Option.bind_some, not_false_eq_true, true_and, if_pos, if_neg, ↓reduceIte, Nat.zero_add, Nat.add_zero, Nat.zero_le, szM (h1.2.2 k (by omega)) hpf (by omega), (h1.2.2 k (by omega)).1, a1, b1, c1]
    exact d1
theorem wM138 {m r : Nat} {S : Sh} (hr : r < 6) (hp : ps_rec S r) : ∀ (d k f : Nat) (τ : Sg) (L : List Nat), k + d = 8 → d < f → rm_rec m τ S r → tM m τ L → L.length + (d + 6 + 12 * S 4 r + rsz S r 0 (S 4 r)) ≤ 600 → ∃ τ', fn_X8_write_B138 m f τ (nI r) (nI (S 4 r)) (nI k) = some (nI (L ++ t_l S r k d).length, τ') ∧ tM m τ' (L ++ t_l S r k d) ∧ fM m τ τ' := by
  have h8 := hp.1
  intro d
  induction d with
  | zero =>
    intro k f τ L hd hf h1 h hL
    obtain ⟨f, rfl⟩ : ∃ g, f = g + 1 := ⟨f - 1, by omega⟩
    obtain ⟨τ1, a1, a2, a3⟩ := nuM (v := 4500) (d := 4) (by decide) (by decide) h (by omega)
    obtain ⟨τ2, b1, b2, b3⟩ := wM184 hr hp (S 4 r) 0 sg_N 0 τ1 _ (by omega) (by show _ < 1000; omega) (by omega) (rmr_f a3 h1) a2 (by rw [List.length_append, numl_len]; omega)
    rw [show t_l S r k 0 = numl 4500 4 ++ t_d S r 0 0 (S 4 r) by unfold t_l; rw [show lets S r k 0 = [] by cases k <;> rfl, List.nil_append], ← List.append_assoc]
    refine ⟨τ2, ?_, b2, a3.tr b3⟩
    show fn_X8_write_B138b m _ τ (nI r) (nI (S 4 r)) (nI k) = _
    unfold fn_X8_write_B138b
    rw [Nat.add_zero] at b1
    simp (disch := omega) only [lit, nI_add, nI_mul, s_sub, a_le, a_lt, a_eq, sg_lt, sg_xN, s_ib, Option.bind_some, not_false_eq_true, true_and, if_pos, if_neg, ↓reduceIte, Nat.zero_add, Nat.add_zero, Nat.zero_le, a1]
    exact b1
  | succ d ih =>
    intro k f τ L hd hf h1 h hL
    obtain ⟨f, rfl⟩ : ∃ g, f = g + 1 := ⟨f - 1, by omega⟩
    obtain ⟨τ1, a1, a2, a3⟩ := put_M (c := S 3 (8 * r + k)) h (by omega)
    obtain ⟨τ2, b1, b2, b3⟩ := ih (k + 1) f τ1 _ (by omega) (by omega) (rmr_f a3 h1) a2 (by rw [List.length_append]; show L.length + 1 + _ ≤ 600; omega)
    rw [show t_l S r k (d + 1) = [S 3 (8 * r + k)] ++ t_l S r (k + 1) d from rfl, ← List.append_assoc]
    refine ⟨τ2, ?_, b2, a3.tr b3⟩
    show fn_X8_write_B138b m _ τ (nI r) (nI (S 4 r)) (nI k) = _
    unfold fn_X8_write_B138b
    simp (disch := omega) only [lit, nI_add, nI_mul, s_sub, a_le, a_lt, a_eq, sg_lt, sg_xN, s_ib, Option.bind_some, not_false_eq_true, true_and, if_pos, if_neg, ↓reduceIte, Nat.zero_add, Nat.add_zero, Nat.zero_le, h1.2.1 k (by omega), a1]
    exact b1
theorem wM94 {m r : Nat} {S : Sh} (hr : r < 6) (hp : ps_rec S r) : ∀ (d k f : Nat) (τ : Sg) (L : List Nat), k + d = 5 → d < f → rm_rec m τ S r → tM m τ L → L.length + (d + 16 + 12 * S 4 r + rsz S r 0 (S 4 r)) ≤ 600 → ∃ τ', fn_X8_write_B94 m f τ (nI r) (nI (S 4 r)) (nI (25 + 12 * S 4 r)) (nI k) = some (nI (L ++ t_k S r k d).length, τ') ∧ tM m τ' (L ++ t_k S r k d) ∧ fM m τ τ' := by
  have h8 := hp.1
  intro d
  induction d with
  | zero =>
    intro k f τ L hd hf h1 h hL
    obtain ⟨f, rfl⟩ : ∃ g, f = g + 1 := ⟨f - 1, by omega⟩
    obtain ⟨τ1, a1, a2, a3⟩ := nuM (v := 22) (d := 2) (by decide) (by decide) h (by omega)
    obtain ⟨τ2, b1, b2, b3⟩ := nuM (v := 25 + 12 * S 4 r) (d := 5) (by omega) (by decide) a2 (by rw [List.length_append, numl_len]; omega)
    obtain ⟨τ3, c1, c2, c3⟩ := wM138 hr hp 3 5 sg_N τ2 _ (by omega) (by decide) (rmr_f (a3.tr b3) h1) b2 (by rw [List.length_append, List.length_append, numl_len, numl_len]; omega)
    rw [show t_k S r k 0 = numl 22 2 ++ (numl (25 + 12 * S 4 r) 5 ++ t_l S r 5 3) by unfold t_k; rw [show lets S r k 0 = [] by cases k <;> rfl, List.nil_append], ← List.append_assoc, ← List.append_assoc]
    refine ⟨τ3, ?_, c2, (a3.tr b3).tr c3⟩
    show fn_X8_write_B94b m _ τ (nI r) (nI (S 4 r)) (nI (25 + 12 * S 4 r)) (nI k) = _
    unfold fn_X8_write_B94b
    simp (disch := omega) only [lit, nI_add, nI_mul, s_sub, a_le, a_lt, a_eq, sg_lt, sg_xN, s_ib, Option.bind_some, not_false_eq_true, true_and, if_pos, if_neg, ↓reduceIte, Nat.zero_add, Nat.add_zero, Nat.zero_le, a1, b1]
    exact c1
  | succ d ih =>
    intro k f τ L hd hf h1 h hL
    obtain ⟨f, rfl⟩ : ∃ g, f = g + 1 := ⟨f - 1, by omega⟩
    obtain ⟨τ1, a1, a2, a3⟩ := put_M (c := S 3 (8 * r + k)) h (by omega)
    obtain ⟨τ2, b1, b2, b3⟩ := ih (k + 1) f τ1 _ (by omega) (by omega) (rmr_f a3 h1) a2 (by rw [List.length_append]; show L.length + 1 + _ ≤ 600; omega)
    rw [show t_k S r k (d + 1) = [S 3 (8 * r + k)] ++ t_k S r (k + 1) d from rfl, ← List.append_assoc]
    refine ⟨τ2, ?_, b2, a3.tr b3⟩
    show fn_X8_write_B94b m _ τ (nI r) (nI (S 4 r)) (nI (25 + 12 * S 4 r)) (nI k) = _
    unfold fn_X8_write_B94b
    simp (disch := omega) only [lit, nI_add, nI_mul, s_sub, a_le, a_lt, a_eq, sg_lt, sg_xN, s_ib, Option.bind_some, not_false_eq_true, true_and, if_pos, if_neg, ↓reduceIte, Nat.zero_add, Nat.add_zero, Nat.zero_le, h1.2.1 k (by omega), a1]
    exact b1
theorem wM36 {m r : Nat} {S : Sh} {τ : Sg} (hr : r < 6) (hp : ps_rec S r) (h1 : rm_rec m τ S r) : ∀ (d k f x : Nat), k + d = S 4 r → d < f → x + 100 * d < 1000000 → ∃ g, fn_X8_write_B36 m f τ (nI r) (nI (S 4 r)) (nI (25 + 12 * S 4 r)) (nI x) (nI (8 * r + k)) = fn_X8_write_B36 m (g + 1) τ (nI r) (nI (S 4 r)) (nI (25 + 12 * S 4 r)) (nI (x + rsz S r k d)) (nI (8 * r + S 4 r)) := by
  have h8 := hp.1
  intro d
  induction d with
  | zero =>
    intro k f x hd hf hx
    obtain ⟨f, rfl⟩ : ∃ g, f = g + 1 := ⟨f - 1, by omega⟩
    exact ⟨f, by rw [show k = S 4 r by omega]; rfl⟩
  | succ d ih =>
    intro k f x hd hf hx
    obtain ⟨f, rfl⟩ : ∃ g, f = g + 1 := ⟨f - 1, by omega⟩
    have hpf := hp.2.2 k (by omega)
    have h91 := fsz_le hpf
    obtain ⟨g, hg⟩ := ih (k + 1) f (x + fsz S (8 * r + k)) (by omega) (by omega) (by omega)
    refine ⟨g, ?_⟩
    rw [show rsz S r k (d + 1) = fsz S (8 * r + k) + rsz S r (k + 1) d from rfl, ← Nat.add_assoc, ← hg]
    show fn_X8_write_B36b m _ τ (nI r) (nI (S 4 r)) (nI (25 + 12 * S 4 r)) (nI x) (nI (8 * r + k)) = _
    unfold fn_X8_write_B36b
    simp (disch := omega) only [lit, nI_add, nI_mul, s_sub, a_le, a_lt, a_eq, sg_lt, sg_xN, s_ib, Option.bind_some, not_false_eq_true, true_and, if_pos, if_neg, ↓reduceIte, Nat.zero_add, Nat.add_zero, Nat.zero_le, szM (h1.2.2 k (by omega)) hpf (by omega)]
    rfl
theorem op_write {b m : Nat} {σ τ : Sg} (h : JJ b σ m τ) (x1 : Int32)  : ∃ (r : Int32) (σ' τ' : Sg), fn_X7_write b σ x1 = some (r, σ') ∧ fn_X8_write m τ x1 = some (r, τ') ∧ JJ b σ' m τ' := by
  have hJ := h
  obtain ⟨S, pl, hok, hc, hm⟩ := h
  have hn : S 2 0 ≤ 6 := hok.2.2.1
  unfold fn_X7_write fn_X8_write
  rcases bad_or x1 (n := S 2 0) (by omega) with hb | ⟨r, hr, rfl⟩
  · rw [hcC_bad hc.2.1 hb, hcM_bad hm.2.1 hb]
    exact ⟨-1, σ, τ, rfl, rfl, hJ⟩
  have hp := hok.2.2.2.1 r hr
  have hC := hc.2.2.1 r hr
  have hM := hm.2.2.1 r hr
  have h8 := hp.1
  have hrs := rsz_le hp (S 4 r) 0 (by omega)
  rw [hcC_ok hc.2.1 (by omega) hr, hcM_ok hm.2.1 (by omega) hr]
  obtain ⟨g, hg⟩ := wM36 (by omega) hp hM (S 4 r) 0 sg_N (25 + 12 * S 4 r + 1) (by omega) (by show _ < 1000; omega) (by omega)
  rw [show 8 * r + 0 = 8 * r from rfl, show 25 + 12 * S 4 r + 1 + rsz S r 0 (S 4 r) = tot S r by unfold tot; omega] at hg
  have htot : tot S r < 2 ^ 31 := by unfold tot; omega
  have hCt := totC hC hp
  rw [show ad_C b r = b + 10 + 147 * r from rfl] at hCt
  simp (disch := omega) only [lit, nI_add, nI_mul, s_sub, a_le, a_lt, a_eq, sg_lt, sg_xN, s_ib, Option.bind_some, not_false_eq_true, true_and, if_pos, if_neg, ↓reduceIte, Nat.zero_add, Nat.add_zero, Nat.zero_le, hM.1, hCt]
  rw [hg]
  show ∃ (v : Int32) (σ' τ' : Sg), _ ∧ fn_X8_write_B36b m _ τ (nI r) (nI (S 4 r)) (nI (25 + 12 * S 4 r)) (nI (tot S r)) (nI (8 * r + S 4 r)) = _ ∧ _
  unfold fn_X8_write_B36b
  by_cases hL : tot S r ≤ 600
  · have hL2 : 26 + 12 * S 4 r + rsz S r 0 (S 4 r) ≤ 600 := hL
    have hnk : fn_X6_keep b σ (nI 0) = some (sg_w σ (b + 2) 1 (nI 0)) := by
      unfold fn_X6_keep
      have h600 := hok.1
      rw [hc.1.1]
      simp (disch := omega) only [lit, nI_add, nI_mul, s_sub, a_le, a_lt, a_eq, sg_lt, sg_xN, s_ib, Option.bind_some, not_false_eq_true, true_and, if_pos, if_neg, ↓reduceIte, Nat.zero_add, Nat.add_zero, Nat.zero_le]
    have f1 : fC b σ (sg_w σ (b + 2) 1 (nI 0)) := ⟨fun a k g1 g2 => sg_wga g1, rfl⟩
    have t1 : tC b (sg_w σ (b + 2) 1 (nI 0)) [] := ⟨sg_wgs, fun i hi => absurd hi (Nat.not_lt_zero _)⟩
    obtain ⟨σ', a1, a2, a3⟩ := wrC (by omega) hp (RC_f f1 (by omega) hp ⟨hC, hc.2.2.2.2.2⟩) t1 hL
    have f2 : fM m τ (sg_w τ m 1 (nI 0)) := fun a k g1 g2 => by rw [sg_wg, if_neg g1]
    have t2 : tM m (sg_w τ m 1 (nI 0)) [] := ⟨sg_wgs, fun i hi => absurd hi (Nat.not_lt_zero _)⟩
    obtain ⟨τ1, b1, b2, b3⟩ := nuM (v := tot S r) (d := 5) htot (by decide) t2 (by show 0 + 5 ≤ 600; omega)
    rw [List.nil_append] at b2
    obtain ⟨τ2, c1, c2, c3⟩ := wM94 (show r < 6 by omega) hp 5 0 sg_N τ1 _ (by omega) (by decide) (rmr_f (f2.tr b3) hM) b2 (by rw [numl_len]; omega)
    rw [show numl (tot S r) 5 ++ t_k S r 0 5 = recl S r from rfl] at c1 c2
    refine ⟨nI (recl S r).length, σ', τ2, ?_, ?_, JJ_txt (L := recl S r) hok hc hm (by rw [recl_len]; exact hL) (fun i hi => gd_app (L := []) (M := recl S r) hi (fun i hi => absurd hi (Nat.not_lt_zero _)) (recl_al hp)) a2 (f1.tr a3) c2 ((f2.tr b3).tr c3)⟩
    · rw [show ad_C b r = b + 10 + 147 * r from rfl] at a1
      simp (disch := omega) only [lit, nI_add, nI_mul, s_sub, a_le, a_lt, a_eq, sg_lt, sg_xN, s_ib, Option.bind_some, not_false_eq_true, true_and, if_pos, if_neg, ↓reduceIte, Nat.zero_add, Nat.add_zero, Nat.zero_le, hnk, a1, a2.1]
    · simp (disch := omega) only [lit, nI_add, nI_mul, s_sub, a_le, a_lt, a_eq, sg_lt, sg_xN, s_ib, Option.bind_some, not_false_eq_true, true_and, if_pos, if_neg, ↓reduceIte, Nat.zero_add, Nat.add_zero, Nat.zero_le, b1]
      exact c1
  · refine ⟨-2, σ, τ, ?_, ?_, hJ⟩
    · simp (disch := omega) only [lit, nI_add, nI_mul, s_sub, a_le, a_lt, a_eq, sg_lt, sg_xN, s_ib, Option.bind_some, not_false_eq_true, true_and, if_pos, if_neg, ↓reduceIte, Nat.zero_add, Nat.add_zero, Nat.zero_le]
    · simp (disch := omega) only [lit, nI_add, nI_mul, s_sub, a_le, a_lt, a_eq, sg_lt, sg_xN, s_ib, Option.bind_some, not_false_eq_true, true_and, if_pos, if_neg, ↓reduceIte, Nat.zero_add, Nat.add_zero, Nat.zero_le]
