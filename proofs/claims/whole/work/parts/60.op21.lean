-- ===== keys in order: as numbers =====
/-- d letters from i on, as a number -/
def kvf (g : List Nat) : Nat → Nat → Nat
  | _, 0 => 0
  | i, d + 1 => g.getD i 0 * 128 ^ d + kvf g (i + 1) d
def k128 (g : List Nat) : Prop := ∀ i, i < g.length → 32 ≤ g.getD i 0 ∧ g.getD i 0 < 128
theorem gd_0 {g : List Nat} {i : Nat} (h : g.length ≤ i) : g.getD i 0 = 0 := by
  rw [List.getD_eq_getElem?_getD, List.getElem?_eq_none h]; rfl
theorem k128_lt {g : List Nat} (h : k128 g) (i : Nat) : g.getD i 0 < 128 := by
  by_cases hi : i < g.length
  · exact (h i hi).2
  · rw [gd_0 (by omega)]; decide
theorem kvf_lt {g : List Nat} (h : k128 g) : ∀ d i, kvf g i d < 128 ^ d
  | 0, i => Nat.one_pos
  | d + 1, i => by
    have h1 := kvf_lt h d (i + 1)
    have h2 := k128_lt h i
    have h3 : g.getD i 0 * 128 ^ d ≤ 127 * 128 ^ d := Nat.mul_le_mul_right _ (by omega)
    show g.getD i 0 * 128 ^ d + kvf g (i + 1) d < 128 ^ (d + 1)
    rw [Nat.pow_succ]; omega
theorem kvf_cmp {g g2 : List Nat} (h : k128 g) (h2 : k128 g2) {i d : Nat} (hlt : g.getD i 0 < g2.getD i 0) : kvf g i (d + 1) < kvf g2 i (d + 1) := by
  have h1 := kvf_lt h d (i + 1)
  have h3 : (g.getD i 0 + 1) * 128 ^ d ≤ g2.getD i 0 * 128 ^ d := Nat.mul_le_mul_right _ hlt
  rw [Nat.succ_mul] at h3
  show g.getD i 0 * 128 ^ d + kvf g (i + 1) d < g2.getD i 0 * 128 ^ d + kvf g2 (i + 1) d
  omega
theorem kvf_eq {g g2 : List Nat} {i d : Nat} (he : g.getD i 0 = g2.getD i 0) : (kvf g i (d + 1) < kvf g2 i (d + 1)) = (kvf g (i + 1) d < kvf g2 (i + 1) d) := by
  show (g.getD i 0 * 128 ^ d + kvf g (i + 1) d < g2.getD i 0 * 128 ^ d + kvf g2 (i + 1) d) = _
  rw [he]; exact propext ⟨fun q => by omega, fun q => by omega⟩
def kv (g : List Nat) : Nat := kvf g 0 20
/-- the first difference decides -/
theorem kv_at {g g2 : List Nat} (h : k128 g) (h2 : k128 g2) {t : Nat} (hlt : g.getD t 0 < g2.getD t 0) : ∀ (d i : Nat), (∀ j, i ≤ j → j < t → g.getD j 0 = g2.getD j 0) → i ≤ t → t < i + d → kvf g i d < kvf g2 i d
  | 0, i, _, h4, h5 => absurd h5 (by omega)
  | d + 1, i, h3, h4, h5 => by
    by_cases hi : i = t
    · subst hi; exact kvf_cmp h h2 hlt
    · rw [kvf_eq (h3 i (Nat.le_refl i) (by omega))]
      exact kv_at h h2 hlt d (i + 1) (fun j a c => h3 j (by omega) c) (by omega) (by omega)
-- ===== the reference compares =====
theorem af_M {m u v : Nat} {τ : Sg} {S : Sh} (hu : u < 192) (hv : v < 192) (pu : ps_sub S u) (pv : ps_sub S v) (h : kyM m τ S u) (h2 : kyM m τ S v) : ∀ (d i f : Nat), i + d = 20 → d < f → fn_X8_isAfter_B2 m τ f (nI u) (nI v) (nI i) = some (if kvf (kyK S v) i d < kvf (kyK S u) i d then 1 else 0) := by
  have lu := kyK_len pu
  have lv := kyK_len pv
  have gu := (kyK_good pu).1
  have gv := (kyK_good pv).1
  intro d
  induction d with
  | zero =>
    intro i f hi hf
    obtain ⟨f, rfl⟩ : ∃ g, f = g + 1 := ⟨f - 1, by omega⟩
    have : i = 20 := by omega
    subst this
    rw [if_neg (show ¬ kvf (kyK S v) 20 0 < kvf (kyK S u) 20 0 from Nat.lt_irrefl 0)]
    show fn_X8_isAfter_B2b m τ _ (nI u) (nI v) (nI 20) = some 0
    unfold fn_X8_isAfter_B2b
    simp (disch := omega) only [lit, nI_add, nI_mul, s_sub, a_le, a_lt, a_eq, sg_lt, sg_xN, s_ib, Option.bind_some, not_false_eq_true, true_and, if_pos, if_neg, ↓reduceIte, Nat.zero_add, Nat.add_zero, Nat.zero_le]
  | succ d ih =>
    intro i f hi hf
    obtain ⟨f, rfl⟩ : ∃ g, f = g + 1 := ⟨f - 1, by omega⟩
    have hgo : ∀ x, x < 128 → ∀ y, y < 128 → x = (kyK S u).getD i 0 → y = (kyK S v).getD i 0 → fn_X8_isAfter_B60 m τ (fn_X8_isAfter_B2 m τ f) (nI u) (nI v) (nI i) (nI x) (nI y) = some (if kvf (kyK S v) i (d + 1) < kvf (kyK S u) i (d + 1) then 1 else 0) := by
      intro x hx y hy ex ey
      unfold fn_X8_isAfter_B60
      by_cases hxy : x = y
      · have e : kvf (kyK S v) i (d + 1) < kvf (kyK S u) i (d + 1) ↔ kvf (kyK S v) (i + 1) d < kvf (kyK S u) (i + 1) d := by rw [kvf_eq (by omega)]
        have e2 := ih (i + 1) f (by omega) (by omega)
        have e3 : fn_X8_isAfter_B60 m τ (fn_X8_isAfter_B2 m τ f) (nI u) (nI v) (nI i) (nI x) (nI y) = fn_X8_isAfter_B2 m τ f (nI u) (nI v) (nI (i + 1)) := by
          unfold fn_X8_isAfter_B60
          simp (disch := omega) only [lit, nI_add, nI_mul, s_sub, a_le, a_lt, a_eq, sg_lt, sg_xN, s_ib, Option.bind_some, not_false_eq_true, true_and, if_pos, if_neg, ↓reduceIte, Nat.zero_add, Nat.add_zero, Nat.zero_le]
        unfold fn_X8_isAfter_B60 at e3
        rw [e3, e2]
        by_cases hq : kvf (kyK S v) (i + 1) d < kvf (kyK S u) (i + 1) d
        · rw [if_pos hq, if_pos (e.mpr hq)]
        · rw [if_neg hq, if_neg (fun q => hq (e.mp q))]
      · by_cases hlt : x < y
        · have e := kvf_cmp (d := d) gu gv (i := i) (by omega)
          rw [if_neg (show ¬ kvf (kyK S v) i (d + 1) < kvf (kyK S u) i (d + 1) by omega)]
          simp (disch := omega) only [lit, nI_add, nI_mul, s_sub, a_le, a_lt, a_eq, sg_lt, sg_xN, s_ib, Option.bind_some, not_false_eq_true, true_and, if_pos, if_neg, ↓reduceIte, Nat.zero_add, Nat.add_zero, Nat.zero_le]
        · have e := kvf_cmp (d := d) gv gu (i := i) (by omega)
          rw [if_pos e]
          simp (disch := omega) only [lit, nI_add, nI_mul, s_sub, a_le, a_lt, a_eq, sg_lt, sg_xN, s_ib, Option.bind_some, not_false_eq_true, true_and, if_pos, if_neg, ↓reduceIte, Nat.zero_add, Nat.add_zero, Nat.zero_le]
    have h33 : ∀ x, x < 128 → x = (kyK S u).getD i 0 → fn_X8_isAfter_B33 m τ (fn_X8_isAfter_B2 m τ f) (nI u) (nI v) (nI i) (nI x) = some (if kvf (kyK S v) i (d + 1) < kvf (kyK S u) i (d + 1) then 1 else 0) := by
      intro x hx ex
      unfold fn_X8_isAfter_B33
      by_cases hl : i < (kyK S v).length
      · rw [← hgo x hx _ (gv i hl).2 ex rfl]
        simp (disch := omega) only [lit, nI_add, nI_mul, s_sub, a_le, a_lt, a_eq, sg_lt, sg_xN, s_ib, Option.bind_some, not_false_eq_true, true_and, if_pos, if_neg, ↓reduceIte, Nat.zero_add, Nat.add_zero, Nat.zero_le, h2.1, h2.2 i hl]
      · rw [← hgo x hx 0 (by omega) ex (gd_0 (by omega)).symm]
        simp (disch := omega) only [lit, nI_add, nI_mul, s_sub, a_le, a_lt, a_eq, sg_lt, sg_xN, s_ib, Option.bind_some, not_false_eq_true, true_and, if_pos, if_neg, ↓reduceIte, Nat.zero_add, Nat.add_zero, Nat.zero_le, h2.1]
    show fn_X8_isAfter_B2b m τ (fn_X8_isAfter_B2 m τ f) (nI u) (nI v) (nI i) = _
    unfold fn_X8_isAfter_B2b
    by_cases hl : i < (kyK S u).length
    · rw [← h33 _ (gu i hl).2 rfl]
      simp (disch := omega) only [lit, nI_add, nI_mul, s_sub, a_le, a_lt, a_eq, sg_lt, sg_xN, s_ib, Option.bind_some, not_false_eq_true, true_and, if_pos, if_neg, ↓reduceIte, Nat.zero_add, Nat.add_zero, Nat.zero_le, h.1, h.2 i hl]
    · rw [← h33 0 (by omega) (gd_0 (by omega)).symm]
      simp (disch := omega) only [lit, nI_add, nI_mul, s_sub, a_le, a_lt, a_eq, sg_lt, sg_xN, s_ib, Option.bind_some, not_false_eq_true, true_and, if_pos, if_neg, ↓reduceIte, Nat.zero_add, Nat.add_zero, Nat.zero_le, h.1]
theorem afM {m u v : Nat} {τ : Sg} {S : Sh} (hu : u < 192) (hv : v < 192) (pu : ps_sub S u) (pv : ps_sub S v) (h : kyM m τ S u) (h2 : kyM m τ S v) : fn_X8_isAfter m τ (nI u) (nI v) = some (if kv (kyK S v) < kv (kyK S u) then 1 else 0) := af_M hu hv pu pv h h2 20 0 sg_N (by omega) (by show _ < 1000; omega)
-- ===== the class compares =====
theorem sb_pos {x y : Nat} (hx : x < 65536) (hy : y < 65536) : ((0 : Int32) < nI x - nI y ↔ y < x) ∧ (nI x - nI y = 0 ↔ x = y) := by
  have e : (nI x - nI y).toInt = (x : Int) - (y : Int) := by
    rw [Int32.toInt_sub, nI_toInt (by omega), nI_toInt (by omega)]
    rw [Int.bmod_eq_of_le] <;> omega
  have e0 : (0 : Int32).toInt = 0 := by decide
  refine ⟨?_, ?_⟩
  · rw [Int32.lt_iff_toInt_lt, e, e0]; omega
  · rw [← Int32.toInt_inj, e, e0]; omega
def kX0 (σ : Sg) (x : Nat) (A : List Nat) : Prop := σ.1 x 1 = nI A.length ∧ ∀ i, i < A.length → σ.1 (x + 1) i = nI (A.getD i 0)
/-- what against says of two keys -/
def agv (A B : List Nat) (r : Int32) : Prop := (A = B ∧ r = 0) ∨ (∃ t, (∀ j, j < t → A.getD j 0 = B.getD j 0) ∧ B.getD t 0 < A.getD t 0 ∧ (0 : Int32) < r) ∨ (∃ t, (∀ j, j < t → A.getD j 0 = B.getD j 0) ∧ A.getD t 0 < B.getD t 0 ∧ ¬ (0 : Int32) < r ∧ r ≠ 0)
theorem gd_x {A B : List Nat} (hl : A.length = B.length) (h : ∀ j, j < A.length → A.getD j 0 = B.getD j 0) : A = B := by
  apply List.ext_getElem hl
  intro i h1 h2
  rw [← gd_e h1, ← gd_e h2]; exact h i h1
theorem ag_C {b x y M : Nat} {σ : Sg} {A B : List Nat} (h : kX0 σ x A) (h2 : kX0 σ y B) (lA : A.length ≤ sg_kR b x) (lB : B.length ≤ sg_kR b y) (gA : k128 A) (gB : k128 B) (hM : M = if B.length < A.length then B.length else A.length) : ∀ (d i f : Nat), i + d = M → d < f → (∀ j, j < i → A.getD j 0 = B.getD j 0) → ∃ r, fn_X3_against_B14 b σ f x y (nI M) (nI i) = some r ∧ agv A B r := by
  have k1 := kR_le b x
  have k2 := kR_le b y
  have hMA : M ≤ A.length := by rw [hM]; split <;> omega
  have hMB : M ≤ B.length := by rw [hM]; split <;> omega
  have hMe : M = A.length ∨ M = B.length := by rw [hM]; split <;> omega
  intro d
  induction d with
  | zero =>
    intro i f hi hf hpre
    obtain ⟨f, rfl⟩ : ∃ g, f = g + 1 := ⟨f - 1, by omega⟩
    have hi' : i = M := by omega
    subst hi'
    refine ⟨nI A.length - nI B.length, ?_, ?_⟩
    · show fn_X3_against_B14b b σ _ x y (nI i) (nI i) = _
      unfold fn_X3_against_B14b
      rw [if_pos (nI_le (Nat.le_refl i) (by omega)), h.1, h2.1]
    · obtain ⟨p1, p2⟩ := sb_pos (x := A.length) (y := B.length) (by omega) (by omega)
      by_cases e1 : A.length = B.length
      · exact Or.inl ⟨gd_x e1 (fun j hj => hpre j (by omega)), p2.mpr e1⟩
      · by_cases e2 : B.length < A.length
        · have := gA i (by omega)
          exact Or.inr (Or.inl ⟨i, hpre, by rw [gd_0 (g := B) (by omega)]; omega, p1.mpr e2⟩)
        · have := gB i (by omega)
          exact Or.inr (Or.inr ⟨i, hpre, by rw [gd_0 (g := A) (by omega)]; omega, fun q => e2 (p1.mp q), fun q => e1 (p2.mp q)⟩)
  | succ d ih =>
    intro i f hi hf hpre
    obtain ⟨f, rfl⟩ : ∃ g, f = g + 1 := ⟨f - 1, by omega⟩
    have a1 := gA i (by omega)
    have a2 := gB i (by omega)
    have a3 := h.2 i (by omega)
    have a4 := h2.2 i (by omega)
    by_cases hxy : A.getD i 0 = B.getD i 0
    · obtain ⟨r, r1, r2⟩ := ih (i + 1) f (by omega) (by omega) (fun j hj => by
        by_cases hq : j < i
        · exact hpre j hq
        · rw [show j = i by omega]; exact hxy)
      refine ⟨r, ?_, r2⟩
      rw [← r1]
      show fn_X3_against_B14b b σ (fn_X3_against_B14 b σ f) x y (nI M) (nI i) = _
      unfold fn_X3_against_B14b
      rw [← hxy] at a4
      simp (disch := omega) only [lit, nI_add, nI_mul, s_sub, a_le, a_lt, a_eq, sg_lt, sg_xN, s_ib, Option.bind_some, not_false_eq_true, true_and, if_pos, if_neg, ↓reduceIte, Nat.zero_add, Nat.add_zero, Nat.zero_le, a3, a4]
    · refine ⟨nI (A.getD i 0) - nI (B.getD i 0), ?_, ?_⟩
      · show fn_X3_against_B14b b σ (fn_X3_against_B14 b σ f) x y (nI M) (nI i) = _
        unfold fn_X3_against_B14b
        rw [if_neg (nI_ge (by omega) (by omega)), if_pos (sg_ibN (by omega) (by omega)), if_pos (sg_ibN (by omega) (by omega)), sg_xN (by omega), a3, a4, if_neg (fun q => hxy ((nI_eq (by omega) (by omega)).mp q)), if_pos (sg_ibN (by omega) (by omega)), if_pos (sg_ibN (by omega) (by omega))]
      · obtain ⟨p1, p2⟩ := sb_pos (x := A.getD i 0) (y := B.getD i 0) (by omega) (by omega)
        by_cases e2 : B.getD i 0 < A.getD i 0
        · exact Or.inr (Or.inl ⟨i, hpre, e2, p1.mpr e2⟩)
        · exact Or.inr (Or.inr ⟨i, hpre, by omega, fun q => e2 (p1.mp q), fun q => hxy (p2.mp q)⟩)
theorem agC {b x y : Nat} {σ : Sg} {A B : List Nat} (h : kX0 σ x A) (h2 : kX0 σ y B) (lA : A.length ≤ sg_kR b x) (lB : B.length ≤ sg_kR b y) (gA : k128 A) (gB : k128 B) : ∃ r, fn_X3_against b σ x y = some r ∧ agv A B r := by
  have k1 := kR_le b x
  have k2 := kR_le b y
  obtain ⟨M, hM⟩ : ∃ M, M = if B.length < A.length then B.length else A.length := ⟨_, rfl⟩
  have hM6 : M ≤ 600 := by rw [hM]; split <;> omega
  obtain ⟨r, r1, r2⟩ := ag_C h h2 lA lB gA gB hM M 0 sg_N (by omega) (by show _ < 1000; omega) (fun j hj => absurd hj (Nat.not_lt_zero j))
  refine ⟨r, ?_, r2⟩
  unfold fn_X3_against
  rw [h.1, h2.1]
  rw [show (if nI B.length < nI A.length then nI B.length else nI A.length) = nI M by
    rw [hM]
    by_cases q : B.length < A.length
    · rw [if_pos q, if_pos (nI_lt q (by omega))]
    · rw [if_neg q, if_neg (nI_nlt (by omega) (by omega))]]
  exact r1
theorem ag_kv {A B : List Nat} {r : Int32} (h : agv A B r) (gA : k128 A) (gB : k128 B) (lA : A.length ≤ 20) (lB : B.length ≤ 20) : (0 : Int32) < r ↔ kv B < kv A := by
  rcases h with ⟨rfl, rfl⟩ | ⟨t, h1, h2, h3⟩ | ⟨t, h1, h2, h3, h4⟩
  · exact ⟨fun q => absurd q (by decide), fun q => absurd q (Nat.lt_irrefl _)⟩
  · have ht : t < 20 := by
      by_cases q : t < A.length
      · omega
      · rw [gd_0 (g := A) (by omega)] at h2; omega
    have := kv_at gB gA h2 20 0 (fun j _ hj => (h1 j hj).symm) (Nat.zero_le t) (by omega)
    exact ⟨fun _ => this, fun _ => h3⟩
  · have ht : t < 20 := by
      by_cases q : t < B.length
      · omega
      · rw [gd_0 (g := B) (by omega)] at h2; omega
    have := kv_at gA gB h2 20 0 (fun j _ hj => h1 j hj) (Nat.zero_le t) (by omega)
    refine ⟨fun q => absurd q h3, fun q => ?_⟩
    exfalso
    unfold kv at q
    omega
