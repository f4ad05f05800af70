-- ===== write: the class, the whole =====
theorem letC {b r N : Nat} {S : Sh} (hr : r < 6) (hp : ps_rec S r) (hN : N ≤ 8) : ∀ (d k f : Nat) (σ : Sg) (L : List Nat), k + d = N → d < f → RC b σ S r → tC b σ L → L.length + d ≤ 600 → ∃ σ', fn_X0_putLetters_B3 b f σ (ad_C b r) (nI N) (nI k) = some σ' ∧ tC b σ' (L ++ lets S r k d) ∧ fC b σ σ' := by
  intro d
  induction d with
  | zero =>
    intro k f σ L hd hf h1 h hL
    obtain ⟨f, rfl⟩ : ∃ g, f = g + 1 := ⟨f - 1, by omega⟩
    refine ⟨σ, ?_, by rw [show lets S r k 0 = [] by cases k <;> rfl, List.append_nil]; exact h, fC.rf⟩
    show fn_X0_putLetters_B3b b _ σ (ad_C b r) (nI N) (nI k) = _
    unfold fn_X0_putLetters_B3b
    simp (disch := omega) only [lit, nI_add, nI_mul, s_sub, a_le, a_lt, a_eq, sg_lt, sg_xN, s_ib, Option.bind_some, not_false_eq_true, true_and, if_pos, if_neg, ↓reduceIte, Nat.zero_add, Nat.add_zero, Nat.zero_le]
  | succ d ih =>
    intro k f σ L hd hf h1 h hL
    obtain ⟨f, rfl⟩ : ∃ g, f = g + 1 := ⟨f - 1, by omega⟩
    have hc := hp.2.1 k (by omega)
    obtain ⟨σ1, a1, a2, a3⟩ := add_C (c := S 3 (8 * r + k)) h (by omega) (by omega)
    obtain ⟨σ2, b1, b2, b3⟩ := ih (k + 1) f σ1 _ (by omega) (by omega) (RC_f a3 hr hp h1) a2 (by rw [List.length_append]; show L.length + 1 + d ≤ 600; omega)
    refine ⟨σ2, ?_, by rw [show lets S r k (d + 1) = [S 3 (8 * r + k)] ++ lets S r (k + 1) d from rfl, ← List.append_assoc]; exact b2, a3.tr b3⟩
    show fn_X0_putLetters_B3b b _ σ (ad_C b r) (nI N) (nI k) = _
    unfold fn_X0_putLetters_B3b
    simp (disch := omega) only [lit, nI_add, nI_mul, s_sub, a_le, a_lt, a_eq, sg_lt, sg_xN, s_ib, Option.bind_some, not_false_eq_true, true_and, if_pos, if_neg, ↓reduceIte, Nat.zero_add, Nat.add_zero, Nat.zero_le, h1.1.2.1 k (by omega), a1]
    exact b1
theorem leadC {b r : Nat} {S : Sh} {σ : Sg} (hr : r < 6) (hp : ps_rec S r) (h1 : RC b σ S r) (h : tC b σ []) : ∃ σ', fn_X0_putLeader b σ (ad_C b r) = some σ' ∧ tC b σ' (numl (tot S r) 5 ++ lets S r 0 5 ++ numl 22 2 ++ numl (25 + 12 * S 4 r) 5 ++ lets S r 5 3 ++ numl 4500 4) ∧ fC b σ σ' := by
  have h8 := hp.1
  have hrs := rsz_le hp (S 4 r) 0 (by omega)
  have htot : tot S r < 2 ^ 31 := by unfold tot; omega
  obtain ⟨σ1, a1, a2, a3⟩ := nuC (v := tot S r) (d := 5) htot (by decide) h (by show 0 + 5 ≤ 600; omega)
  have r1 := RC_f a3 hr hp h1
  rw [List.nil_append] at a2
  obtain ⟨σ2, b1, b2, b3⟩ := letC hr hp (show 5 ≤ 8 by decide) 5 0 sg_N σ1 _ (by omega) (by decide) r1 a2 (by rw [numl_len]; omega)
  have r2 := RC_f b3 hr hp r1
  obtain ⟨σ3, c1, c2, c3⟩ := nuC (v := 22) (d := 2) (by decide) (by decide) b2 (by rw [List.length_append, numl_len, lets_len]; omega)
  have r3 := RC_f c3 hr hp r2
  obtain ⟨σ4, d1, d2, d3⟩ := nuC (v := 25 + 12 * S 4 r) (d := 5) (by omega) (by decide) c2 (by rw [List.length_append, List.length_append, numl_len, numl_len, lets_len]; omega)
  have r4 := RC_f d3 hr hp r3
  obtain ⟨σ5, e1, e2, e3⟩ := letC hr hp (show 8 ≤ 8 by decide) 3 5 sg_N σ4 _ (by omega) (by decide) r4 d2 (by rw [List.length_append, List.length_append, List.length_append, numl_len, numl_len, numl_len, lets_len]; omega)
  obtain ⟨σ6, f1, f2, f3⟩ := nuC (v := 4500) (d := 4) (by decide) (by decide) e2 (by rw [List.length_append, List.length_append, List.length_append, List.length_append, numl_len, numl_len, numl_len, lets_len, lets_len]; omega)
  refine ⟨σ6, ?_, f2, ((((a3.tr b3).tr c3).tr d3).tr e3).tr f3⟩
  unfold fn_X0_putLeader fn_X0_putLetters fn_X0_base
  simp (disch := omega) only [lit, nI_add, nI_mul, s_sub, a_le, a_lt, a_eq, sg_lt, sg_xN, s_ib, Option.bind_some, not_false_eq_true, true_and, if_pos, if_neg, ↓reduceIte, Nat.zero_add, Nat.add_zero, Nat.zero_le, totC h1.1 hp, a1, b1, c1, r3.1.1, d1, e1, f1]
theorem wrC {b r : Nat} {S : Sh} {σ : Sg} (hr : r < 6) (hp : ps_rec S r) (h1 : RC b σ S r) (h : tC b σ []) (hL : tot S r ≤ 600) : ∃ σ', fn_X0_putInto b σ (ad_C b r) = some σ' ∧ tC b σ' (recl S r) ∧ fC b σ σ' := by
  have h8 := hp.1
  have hL2 : 26 + 12 * S 4 r + rsz S r 0 (S 4 r) ≤ 600 := hL
  obtain ⟨σ1, a1, a2, a3⟩ := leadC hr hp h1 h
  have r1 := RC_f a3 hr hp h1
  obtain ⟨σ2, b1, b2, b3⟩ := dirC hr hp (S 4 r) 0 sg_N 0 σ1 _ (by omega) (by show _ < 1000; omega) (by omega) r1 a2 (by simp only [List.length_append, numl_len, lets_len]; omega)
  have r2 := RC_f b3 hr hp r1
  obtain ⟨σ3, c1, c2, c3⟩ := flsC hr hp (S 4 r) 0 sg_N σ2 _ (by omega) (by show _ < 1000; omega) r2 b2 (by simp only [List.length_append, numl_len, lets_len, dirl_len, List.length_singleton]; omega)
  refine ⟨σ3, ?_, ?_, (a3.tr b3).tr c3⟩
  · unfold fn_X0_putInto fn_X0_putDirectory
    simp (disch := omega) only [lit, nI_add, nI_mul, s_sub, a_le, a_lt, a_eq, sg_lt, sg_xN, s_ib, Option.bind_some, not_false_eq_true, true_and, if_pos, if_neg, ↓reduceIte, Nat.zero_add, Nat.add_zero, Nat.zero_le, a1, b1, c1]
  · unfold recl t_k t_l t_d
    simp only [List.append_assoc] at c2 ⊢
    exact c2
