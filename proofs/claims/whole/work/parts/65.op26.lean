-- ===== find: the reference looks =====
theorem sa_M {m u s : Nat} {τ : Sg} {S : Sh} (hu : u < 192) (pu : ps_sub S u) (hok : ps_ok S) (h : kyM m τ S u) (h2 : wM m τ S) (hs : s + (kyW S).length ≤ (kyK S u).length) : ∀ (d i f : Nat), i + d = (kyW S).length → d < f → (∀ j, j < i → (kyK S u).getD (s + j) 0 = (kyW S).getD j 0) → ∃ v, fn_X8_standsAt_B19 m τ f (nI u) (nI s) (nI i) = some v ∧ bv v (stA (kyK S u) (kyW S) s) := by
  have lA := kyK_len pu
  have lW := kyW_len hok
  have gA := (kyK_good pu).1
  have gW := (kyW_good hok).1
  intro d
  induction d with
  | zero =>
    intro i f hi hf hp
    obtain ⟨f, rfl⟩ : ∃ g, f = g + 1 := ⟨f - 1, by omega⟩
    refine ⟨1, ?_, Or.inr ⟨rfl, hs, fun j hj => hp j (by omega)⟩⟩
    show fn_X8_standsAt_B19b m τ (fn_X8_standsAt_B19 m τ f) (nI u) (nI s) (nI i) = _
    unfold fn_X8_standsAt_B19b
    rw [h2.1, if_pos (nI_le (by omega) (by omega))]
  | succ d ih =>
    intro i f hi hf hp
    obtain ⟨f, rfl⟩ : ∃ g, f = g + 1 := ⟨f - 1, by omega⟩
    have a1 := gA (s + i) (by omega)
    have a2 := gW i (by omega)
    have a3 := h.2 (s + i) (by omega)
    have a4 := h2.2 i (by omega)
    rw [show 20 * u + (s + i) = 20 * u + s + i by omega] at a3
    by_cases hxy : (kyK S u).getD (s + i) 0 = (kyW S).getD i 0
    · obtain ⟨v, v1, v2⟩ := ih (i + 1) f (by omega) (by omega) (fun j hj => by
        by_cases hq : j < i
        · exact hp j hq
        · rw [show j = i by omega]; exact hxy)
      refine ⟨v, ?_, v2⟩
      rw [← v1]
      show fn_X8_standsAt_B19b m τ (fn_X8_standsAt_B19 m τ f) (nI u) (nI s) (nI i) = _
      unfold fn_X8_standsAt_B19b
      rw [← hxy] at a4
      simp (disch := omega) only [lit, nI_add, nI_mul, s_sub, a_le, a_lt, a_eq, sg_lt, sg_xN, s_ib, Option.bind_some, not_false_eq_true, true_and, if_pos, if_neg, ↓reduceIte, Nat.zero_add, Nat.add_zero, Nat.zero_le, h2.1, a3, a4]
    · refine ⟨0, ?_, Or.inl ⟨rfl, fun q => hxy (q.2 i (by omega))⟩⟩
      show fn_X8_standsAt_B19b m τ (fn_X8_standsAt_B19 m τ f) (nI u) (nI s) (nI i) = _
      unfold fn_X8_standsAt_B19b
      simp (disch := omega) only [lit, nI_add, nI_mul, s_sub, a_le, a_lt, a_eq, sg_lt, sg_xN, s_ib, Option.bind_some, not_false_eq_true, true_and, if_pos, if_neg, ↓reduceIte, Nat.zero_add, Nat.add_zero, Nat.zero_le, h2.1, a3, a4]
theorem saM {m u s : Nat} {τ : Sg} {S : Sh} (hu : u < 192) (pu : ps_sub S u) (hok : ps_ok S) (h : kyM m τ S u) (h2 : wM m τ S) (hs : s < 1000) : ∃ v, fn_X8_standsAt m τ (nI u) (nI s) = some v ∧ bv v (stA (kyK S u) (kyW S) s) := by
  have lA := kyK_len pu
  have lW := kyW_len hok
  by_cases hl : s + (kyW S).length ≤ (kyK S u).length
  · obtain ⟨v, v1, v2⟩ := sa_M hu pu hok h h2 hl (kyW S).length 0 sg_N (by omega) (by show _ < 1000; omega) (fun j hj => absurd hj (Nat.not_lt_zero j))
    refine ⟨v, ?_, v2⟩
    rw [← v1]
    unfold fn_X8_standsAt
    simp (disch := omega) only [lit, nI_add, nI_mul, s_sub, a_le, a_lt, a_eq, sg_lt, sg_xN, s_ib, Option.bind_some, not_false_eq_true, true_and, if_pos, if_neg, ↓reduceIte, Nat.zero_add, Nat.add_zero, Nat.zero_le, h.1, h2.1]
  · refine ⟨0, ?_, Or.inl ⟨rfl, fun q => hl q.1⟩⟩
    unfold fn_X8_standsAt
    simp (disch := omega) only [lit, nI_add, nI_mul, s_sub, a_le, a_lt, a_eq, sg_lt, sg_xN, s_ib, Option.bind_some, not_false_eq_true, true_and, if_pos, if_neg, ↓reduceIte, Nat.zero_add, Nat.add_zero, Nat.zero_le, h.1, h2.1]
theorem if_M {m u : Nat} {τ : Sg} {S : Sh} (hu : u < 192) (pu : ps_sub S u) (hok : ps_ok S) (h : kyM m τ S u) (h2 : wM m τ S) (hW : 0 < (kyW S).length) : ∀ (d s f : Nat) (y : Int32), s + d = (kyK S u).length → d < f → bv y (∃ s', s' < s ∧ wd (kyK S u) (kyW S) s') → ∃ v, fn_X8_isFound_B64 m τ f (nI u) (nI (kyK S u).length) y (nI s) = some v ∧ bv v (∃ s', wd (kyK S u) (kyW S) s') := by
  have lA := kyK_len pu
  have lW := kyW_len hok
  have gA := (kyK_good pu).1
  have gW := (kyW_good hok).1
  intro d
  induction d with
  | zero =>
    intro s f y hs hf hy
    obtain ⟨f, rfl⟩ : ∃ g, f = g + 1 := ⟨f - 1, by omega⟩
    refine ⟨y, ?_, bv_iff hy ⟨fun ⟨s', _, q⟩ => ⟨s', q⟩, fun ⟨s', q⟩ => ⟨s', by have := q.1.1; omega, q⟩⟩⟩
    show fn_X8_isFound_B64b m τ (fn_X8_isFound_B64 m τ f) (nI u) (nI (kyK S u).length) y (nI s) = _
    unfold fn_X8_isFound_B64b
    rw [if_pos (nI_le (by omega) (by omega)), if_pos (bv_bo hy)]
  | succ d ih =>
    intro s f y hs hf hy
    obtain ⟨f, rfl⟩ : ∃ g, f = g + 1 := ⟨f - 1, by omega⟩
    have hyes : wd (kyK S u) (kyW S) s ∨ y = 1 → ∃ v, fn_X8_isFound_B153 m τ (fn_X8_isFound_B64 m τ f) (nI u) (nI (kyK S u).length) (nI s) = some v ∧ bv v (∃ s', wd (kyK S u) (kyW S) s') := fun hq => by
      obtain ⟨v, v1, v2⟩ := ih (s + 1) f 1 (by omega) (by omega) (Or.inr ⟨rfl, by
        rcases hq with hq | hq
        · exact ⟨s, Nat.lt_succ_self s, hq⟩
        · rcases hy with ⟨e, _⟩ | ⟨_, s', e1, e2⟩
          · rw [hq] at e; exact absurd e (by decide)
          · exact ⟨s', by omega, e2⟩⟩)
      refine ⟨v, ?_, v2⟩
      rw [← v1]
      unfold fn_X8_isFound_B153 fn_X8_isFound_B158
      exact congrArg _ (nI_1 s)
    have hno : ¬ wd (kyK S u) (kyW S) s → y = 0 → ∃ v, fn_X8_isFound_B157 m τ (fn_X8_isFound_B64 m τ f) (nI u) (nI (kyK S u).length) (nI s) = some v ∧ bv v (∃ s', wd (kyK S u) (kyW S) s') := fun hq h0 => by
      obtain ⟨v, v1, v2⟩ := ih (s + 1) f 0 (by omega) (by omega) (Or.inl ⟨rfl, fun ⟨s', e1, e2⟩ => by
        rcases hy with ⟨_, e⟩ | ⟨e, _⟩
        · by_cases es : s' = s
          · rw [es] at e2; exact hq e2
          · exact e ⟨s', by omega, e2⟩
        · rw [h0] at e; exact absurd e (by decide)⟩)
      refine ⟨v, ?_, v2⟩
      rw [← v1]
      unfold fn_X8_isFound_B157 fn_X8_isFound_B158
      exact congrArg _ (nI_1 s)
    have h99 : ∀ y0 : Int32, bv y0 (s = 0 ∨ (kyK S u).getD (s - 1) 0 = 32) → ∃ v, fn_X8_isFound_B99 m τ (fn_X8_isFound_B64 m τ f) (nI u) (nI (kyK S u).length) y (nI s) y0 = some v ∧ bv v (∃ s', wd (kyK S u) (kyW S) s') := by
      intro y0 hy0
      unfold fn_X8_isFound_B99
      unfold sg_lt
      simp only []
      rw [h2.1, nI_add]
      by_cases e : y = 0
      · rw [if_pos e]
        rcases hy0 with ⟨e0, n0⟩ | ⟨e0, p0⟩
        · rw [if_pos e0]; exact hno (fun q => n0 q.2.1) e
        · rw [if_neg (show ¬ y0 = 0 by rw [e0]; decide)]
          obtain ⟨w, w1, w2⟩ := saM (s := s) hu pu hok h h2 (by omega)
          rw [w1, Option.bind_some]
          rcases w2 with ⟨rfl, w3⟩ | ⟨rfl, w3⟩
          · rw [if_pos rfl]; exact hno (fun q => w3 q.1) e
          · rw [if_neg (show ¬ (1 : Int32) = 0 by decide)]
            have hle := w3.1
            by_cases e5 : s + (kyW S).length = (kyK S u).length
            · rw [if_pos (show nI (s + (kyW S).length) = nI (kyK S u).length by rw [e5])]
              exact hyes (Or.inl ⟨w3, p0, Or.inl e5⟩)
            · rw [if_neg (fun q => e5 ((nI_eq (by omega) (by omega)).mp q)), nI_20, if_pos (sg_ibN (by omega) (by decide)), sg_xN (by omega), h.2 (s + (kyW S).length) (by omega)]
              have a4 := gA (s + (kyW S).length) (by omega)
              by_cases e6 : (kyK S u).getD (s + (kyW S).length) 0 = 32
              · rw [if_pos (show nI ((kyK S u).getD (s + (kyW S).length) 0) = 32 by rw [e6]; rfl)]
                exact hyes (Or.inl ⟨w3, p0, Or.inr e6⟩)
              · rw [if_neg (show ¬ nI ((kyK S u).getD (s + (kyW S).length) 0) = 32 from fun q => e6 ((nI_eq (b := 32) (by omega) (by omega)).mp q))]
                exact hno (fun q => q.2.2.elim e5 e6) e
      · rw [if_neg e]
        exact hyes (Or.inr (hy.elim (fun q => absurd q.1 e) (fun q => q.1)))
    show ∃ v, fn_X8_isFound_B64b m τ (fn_X8_isFound_B64 m τ f) (nI u) (nI (kyK S u).length) y (nI s) = some v ∧ _
    unfold fn_X8_isFound_B64b fn_X8_isFound_B94
    rw [if_neg (nI_ge (by omega) (by omega))]
    by_cases e0 : s = 0
    · rw [if_pos (show nI s = 0 by rw [e0]; rfl)]
      exact h99 1 (Or.inr ⟨rfl, Or.inl e0⟩)
    · rw [if_neg (show ¬ nI s = 0 from fun q => e0 ((nI_eq (b := 0) (by omega) (by omega)).mp q)), nI_20, show nI (20 * u + s) - 1 = nI (20 * u + s - 1) from s_sub (b := 1) (by omega), if_pos (sg_ibN (by omega) (by decide)), sg_xN (by omega)]
      have a3 := h.2 (s - 1) (by omega)
      have a4 := gA (s - 1) (by omega)
      rw [show 20 * u + (s - 1) = 20 * u + s - 1 by omega] at a3
      rw [a3]
      by_cases e6 : (kyK S u).getD (s - 1) 0 = 32
      · rw [if_pos (show nI ((kyK S u).getD (s - 1) 0) = 32 by rw [e6]; rfl)]
        exact h99 1 (Or.inr ⟨rfl, Or.inr e6⟩)
      · rw [if_neg (show ¬ nI ((kyK S u).getD (s - 1) 0) = 32 from fun q => e6 ((nI_eq (b := 32) (by omega) (by omega)).mp q))]
        exact h99 0 (Or.inl ⟨rfl, fun q => q.elim e0 e6⟩)
theorem st_eq {A W : List Nat} (hl : A.length = W.length) : stA A W 0 ↔ A = W := ⟨fun q => gd_x hl (fun j hj => by have := q.2 j (by omega); rwa [Nat.zero_add] at this), fun q => ⟨by omega, fun i _ => by rw [q, Nat.zero_add]⟩⟩
theorem ifM {m u how : Nat} {τ : Sg} {S : Sh} (hh : how ≤ 2) (hu : u < 192) (pu : ps_sub S u) (hok : ps_ok S) (h : kyM m τ S u) (h2 : wM m τ S) : ∃ v, fn_X8_isFound m τ (nI u) (nI how) = some v ∧ bv v (FT how (kyK S u) (kyW S)) := by
  have lA := kyK_len pu
  have lW := kyW_len hok
  have h3 : how = 0 ∨ how = 1 ∨ how = 2 := by omega
  have h23 : ∃ v, fn_X8_isFound_B23 m τ (nI u) (nI (kyK S u).length) = some v ∧ bv v (kyK S u = kyW S) := by
    unfold fn_X8_isFound_B23
    rw [h2.1]
    by_cases e : (kyK S u).length = (kyW S).length
    · rw [if_pos (by rw [e])]
      obtain ⟨v, v1, v2⟩ := saM (s := 0) hu pu hok h h2 (by omega)
      rw [show fn_X8_standsAt m τ (nI u) 0 = some v from v1, Option.bind_some]
      rcases v2 with ⟨rfl, v3⟩ | ⟨rfl, v3⟩
      · exact ⟨0, rfl, Or.inl ⟨rfl, fun q => v3 ((st_eq e).mpr q)⟩⟩
      · exact ⟨1, rfl, Or.inr ⟨rfl, (st_eq e).mp v3⟩⟩
    · rw [if_neg (fun q => e ((nI_eq (by omega) (by omega)).mp q))]
      exact ⟨0, rfl, Or.inl ⟨rfl, fun q => e (by rw [q])⟩⟩
  unfold fn_X8_isFound fn_X8_isFound_B46
  rw [if_pos (sg_ibN hu (by decide)), sg_xN (by omega), h.1]
  unfold sg_lt
  simp only []
  rcases h3 with rfl | rfl | rfl
  · rw [if_pos (show nI 0 = 0 from rfl)]
    obtain ⟨v, v1, v2⟩ := h23
    refine ⟨v, v1, bv_iff v2 ⟨fun q => Or.inl ⟨rfl, q⟩, fun q => ?_⟩⟩
    rcases q with q | q | q
    · exact q.2
    · exact absurd q.1 (by decide)
    · exact absurd q.1 (by decide)
  · rw [if_neg (show ¬ nI 1 = 0 by decide), if_neg (show ¬ nI 1 = 2 by decide), if_pos (show nI 1 = 1 from rfl)]
    obtain ⟨v, v1, v2⟩ := saM (s := 0) hu pu hok h h2 (by omega)
    rw [show fn_X8_standsAt m τ (nI u) 0 = some v from v1, Option.bind_some, if_pos (bv_bo v2)]
    refine ⟨v, rfl, bv_iff v2 ⟨fun q => Or.inr (Or.inl ⟨rfl, q⟩), fun q => ?_⟩⟩
    rcases q with q | q | q
    · exact absurd q.1 (by decide)
    · exact q.2
    · exact absurd q.1 (by decide)
  · rw [if_neg (show ¬ nI 2 = 0 by decide), if_pos (show nI 2 = 2 from rfl), if_neg (show ¬ nI 2 = 1 by decide), h2.1]
    by_cases e : (kyW S).length = 0
    · rw [if_pos (show nI (kyW S).length = 0 by rw [e]; rfl)]
      obtain ⟨v, v1, v2⟩ := h23
      refine ⟨v, v1, bv_iff v2 ⟨fun q => Or.inr (Or.inr ⟨rfl, Or.inl ⟨e, by rw [q]; exact e⟩⟩), fun q => ?_⟩⟩
      rcases q with q | q | q
      · exact q.2
      · exact absurd q.1 (by decide)
      · rcases q.2 with k | k
        · rw [List.length_eq_zero_iff.mp k.1, List.length_eq_zero_iff.mp k.2]
        · exact absurd e k.1
    · rw [if_neg (show ¬ nI (kyW S).length = 0 from fun q => e ((nI_eq (b := 0) (by omega) (by omega)).mp q))]
      obtain ⟨v, v1, v2⟩ := if_M hu pu hok h h2 (by omega) (kyK S u).length 0 sg_N 0 (by omega) (by show _ < 1000; omega) (Or.inl ⟨rfl, fun ⟨s', q, _⟩ => by omega⟩)
      refine ⟨v, v1, bv_iff v2 ⟨fun q => Or.inr (Or.inr ⟨rfl, Or.inr ⟨e, q⟩⟩), fun q => ?_⟩⟩
      rcases q with q | q | q
      · exact absurd q.1 (by decide)
      · exact absurd q.1 (by decide)
      · rcases q.2 with k | k
        · exact absurd k.1 e
        · exact k.2
-- ===== find: the class goes through a card =====
def hit0 (S : Sh) (c : Int32) (how : Nat) (u : Nat) : Prop := u % 4 < S 8 (u / 4) ∧ (c = 42 ∨ c = nI (S 9 u)) ∧ FT how (kyK S u) (kyW S)
def hit (S : Sh) (t c : Int32) (how : Nat) (u : Nat) : Prop := isf S (u / 4) ∧ (t = 0 ∨ nI (S 5 (u / 4)) = t) ∧ hit0 S c how u
theorem ffC {b q a how : Nat} {c : Int32} {σ : Sg} {S : Sh} (hok : ps_ok S) (hh : how ≤ 2) (hF : ps_fld S q) (h : rc_fld σ S q a) (hw : kX0 σ (b + 8) (kyW S)) (ha : b + 10 ≤ a) : ∀ (d k f : Nat), k + d = S 8 q → d < f → ∃ v, fn_X1_fits_B3 b σ f a c (b + 8) (nI how) (nI k) = some v ∧ bv v (∃ u, 4 * q + k ≤ u ∧ u < 4 * q + 4 ∧ hit0 S c how u) := by
  have a3 := hF.2.2.2.2.2.1
  have lW := kyW_len hok
  have gW := (kyW_good hok).1
  have hkW : sg_kR b (b + 8) = 600 := if_pos rfl
  intro d
  induction d with
  | zero =>
    intro k f hk hf
    obtain ⟨f, rfl⟩ : ∃ g, f = g + 1 := ⟨f - 1, by omega⟩
    refine ⟨0, ?_, Or.inl ⟨rfl, fun ⟨u, q1, q2, q3⟩ => ?_⟩⟩
    · show fn_X1_fits_B3b b σ (fn_X1_fits_B3 b σ f) a c (b + 8) (nI how) (nI k) = _
      unfold fn_X1_fits_B3b
      rw [h.2.2.2.1, if_pos (nI_le (by omega) (by omega))]
    · have e := q3.1
      rw [show u / 4 = q by omega] at e
      omega
  | succ d ih =>
    intro k f hk hf
    obtain ⟨f, rfl⟩ : ∃ g, f = g + 1 := ⟨f - 1, by omega⟩
    have hs := h.2.2.2.2 k (by omega)
    have pu := hF.2.2.2.2.2.2.2 k (by omega)
    have lA := kyK_len pu
    have gA := (kyK_good pu).1
    have e1 := hcX (b := b) (c := c) (u := 4 * q + k) hs.1
    obtain ⟨v, v1, v2⟩ := ih (k + 1) f (by omega) (by omega)
    have hno : ¬ hit0 S c how (4 * q + k) → ∃ v, fn_X1_fits_B46 b σ (fn_X1_fits_B3 b σ f) a c (b + 8) (nI how) (nI k) = some v ∧ bv v (∃ u, 4 * q + k ≤ u ∧ u < 4 * q + 4 ∧ hit0 S c how u) := fun hn => by
      refine ⟨v, ?_, bv_iff v2 ⟨fun ⟨u, q1, q2⟩ => ⟨u, by omega, q2⟩, fun ⟨u, q1, q2, q3⟩ => ⟨u, ?_, q2, q3⟩⟩⟩
      · rw [← v1]
        unfold fn_X1_fits_B46
        exact congrArg _ (nI_1 k)
      · by_cases e : u = 4 * q + k
        · rw [e] at q3; exact absurd q3 hn
        · omega
    have hm4 : (4 * q + k) % 4 = k := by omega
    have hd4 : (4 * q + k) / 4 = q := by omega
    show ∃ v, fn_X1_fits_B3b b σ (fn_X1_fits_B3 b σ f) a c (b + 8) (nI how) (nI k) = some v ∧ _
    unfold fn_X1_fits_B3b
    rw [h.2.2.2.1, if_neg (nI_ge (by omega) (by omega)), if_pos (sg_ibN (by omega) (by decide)), sg_xN (by omega), e1, Option.bind_some]
    by_cases hc : c = 42 ∨ c = nI (S 9 (4 * q + k))
    · rw [if_pos hc, if_neg (show ¬ (1 : Int32) = 0 by decide), if_pos (sg_ibN (by omega) (by decide))]
      have hkA : sg_kR b (a + 2 + 4 * k + 2) = 20 := if_neg (by omega)
      obtain ⟨w, w1, w2⟩ := ftC (b := b) (x := a + 2 + 4 * k + 2) (y := b + 8) (A := kyK S (4 * q + k)) (W := kyW S) hh ⟨hs.2.2.2.1, hs.2.2.2.2.1⟩ hw (by omega) (by omega) gA gW
      rw [w1, Option.bind_some]
      rcases w2 with ⟨rfl, w3⟩ | ⟨rfl, w3⟩
      · rw [if_pos rfl]; exact hno (fun q => w3 q.2.2)
      · rw [if_neg (show ¬ (1 : Int32) = 0 by decide)]
        exact ⟨1, rfl, Or.inr ⟨rfl, 4 * q + k, Nat.le_refl _, by omega, by rw [hm4, hd4]; omega, hc, w3⟩⟩
    · rw [if_neg hc, if_pos rfl]; exact hno (fun q => hc q.2.1)
theorem fcC {b r how : Nat} {t c : Int32} {σ : Sg} {S : Sh} (hok : ps_ok S) (hh : how ≤ 2) (hr : r < S 2 0) (hcA : cA b σ S) (hw : kX0 σ (b + 8) (kyW S)) : ∀ (d f g : Nat), f + d = S 4 r → d < g → ∃ v, fn_X0_fits_B3 b σ g (ad_C b r) t c (b + 8) (nI how) (nI f) = some v ∧ bv v (∃ u, 4 * (8 * r + f) ≤ u ∧ u < 32 * (r + 1) ∧ hit S t c how u) := by
  have hR := hok.2.2.2.1 r hr
  have a1 := hok.2.2.1
  have a2 := hR.1
  have hCr := hcA.2.1 r hr
  intro d
  induction d with
  | zero =>
    intro f g hf hg
    obtain ⟨g, rfl⟩ : ∃ e, g = e + 1 := ⟨g - 1, by omega⟩
    refine ⟨0, ?_, Or.inl ⟨rfl, fun ⟨u, q1, q2, q3⟩ => ?_⟩⟩
    · show fn_X0_fits_B3b b σ (fn_X0_fits_B3 b σ g) (ad_C b r) t c (b + 8) (nI how) (nI f) = _
      unfold fn_X0_fits_B3b
      rw [hCr.1, if_pos (nI_le (by omega) (by omega))]
    · have e := q3.1.2
      rw [show u / 4 / 8 = r by omega] at e
      omega
  | succ d ih =>
    intro f g hf hg
    obtain ⟨g, rfl⟩ : ∃ e, g = e + 1 := ⟨g - 1, by omega⟩
    have hF := hR.2.2 f (by omega)
    have hCf := hCr.2.2 f (by omega)
    have ha := RC_a (b := b) (S := S) (show r < 6 by omega) (show f < 8 by omega) ⟨hCr, hcA.2.2⟩
    have hisf : isf S (8 * r + f) := ⟨by omega, by rw [show (8 * r + f) % 8 = f by omega, show (8 * r + f) / 8 = r by omega]; omega⟩
    obtain ⟨v, v1, v2⟩ := ih (f + 1) g (by omega) (by omega)
    have hno : (¬ ∃ u, 4 * (8 * r + f) ≤ u ∧ u < 4 * (8 * r + f) + 4 ∧ hit S t c how u) → ∃ v, fn_X0_fits_B61 b σ (fn_X0_fits_B3 b σ g) (ad_C b r) t c (b + 8) (nI how) (nI f) = some v ∧ bv v (∃ u, 4 * (8 * r + f) ≤ u ∧ u < 32 * (r + 1) ∧ hit S t c how u) := fun hn => by
      refine ⟨v, ?_, bv_iff v2 ⟨fun ⟨u, q1, q2⟩ => ⟨u, by omega, q2⟩, fun ⟨u, q1, q2, q3⟩ => ⟨u, ?_, q2, q3⟩⟩⟩
      · rw [← v1]
        unfold fn_X0_fits_B61
        exact congrArg _ (nI_1 f)
      · by_cases e : u < 4 * (8 * r + f) + 4
        · exact absurd ⟨u, q1, e, q3⟩ hn
        · omega
    have h30 : (t = 0 ∨ nI (S 5 (8 * r + f)) = t) → ∃ v, fn_X0_fits_B30 b σ (fn_X0_fits_B3 b σ g) (ad_C b r) t c (b + 8) (nI how) (nI f) = some v ∧ bv v (∃ u, 4 * (8 * r + f) ≤ u ∧ u < 32 * (r + 1) ∧ hit S t c how u) := fun ht => by
      obtain ⟨w, w1, w2⟩ := ffC (c := c) hok hh hF hCf hw ha (S 8 (8 * r + f)) 0 sg_N (by omega) (by have := hF.2.2.2.2.2.1; show _ < 1000; omega)
      unfold fn_X0_fits_B30 fn_X0_fits_B35 fn_X1_fits
      rw [if_neg (show ¬ (1 : Int32) = 0 by decide), if_pos (sg_ibN (by omega) (by decide)), sg_xN (by omega)]
      rw [show fn_X1_fits_B3 b σ sg_N (σ.2 (ad_C b r + 2) f) c (b + 8) (nI how) 0 = some w from w1, Option.bind_some]
      rcases w2 with ⟨rfl, w3⟩ | ⟨rfl, u, w3, w4, w5⟩
      · rw [if_pos rfl]
        exact hno (fun ⟨u, q1, q2, q3⟩ => w3 ⟨u, by omega, q2, q3.2.2⟩)
      · rw [if_neg (show ¬ (1 : Int32) = 0 by decide)]
        have e4 : u / 4 = 8 * r + f := by omega
        exact ⟨1, rfl, Or.inr ⟨rfl, u, by omega, by omega, by rw [e4]; exact hisf, by rw [e4]; exact ht, w5⟩⟩
    show ∃ v, fn_X0_fits_B3b b σ (fn_X0_fits_B3 b σ g) (ad_C b r) t c (b + 8) (nI how) (nI f) = some v ∧ _
    unfold fn_X0_fits_B3b
    rw [hCr.1, if_neg (nI_ge (by omega) (by omega))]
    by_cases ht0 : t = 0
    · rw [if_pos ht0]; exact h30 (Or.inl ht0)
    · rw [if_neg ht0, if_pos (sg_ibN (by omega) (by decide)), sg_xN (by omega), hCf.1]
      by_cases ht : nI (S 5 (8 * r + f)) = t
      · rw [if_pos ht]; exact h30 (Or.inr ht)
      · rw [if_neg ht]
        unfold fn_X0_fits_B35
        rw [if_pos rfl]
        refine hno (fun ⟨u, q1, q2, q3⟩ => ?_)
        have e := q3.2.1
        rw [show u / 4 = 8 * r + f by omega] at e
        exact e.elim ht0 ht
