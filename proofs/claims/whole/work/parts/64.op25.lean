-- ===== find: the wanted key =====
def kyW (S : Sh) : List Nat := (ky_of (ps_text S)).1
theorem ps_text_al {S : Sh} (hok : ps_ok S) : al (ps_text S) := by
  intro c hc
  unfold ps_text at hc
  obtain ⟨i, hi, rfl⟩ := List.mem_map.mp hc
  exact hok.2.1 i (List.mem_range.mp hi)
theorem kyW_good {S : Sh} (hok : ps_ok S) : kgood (kyW S) := kg_of (ps_text_al hok)
theorem kyW_len {S : Sh} (hok : ps_ok S) : (kyW S).length ≤ 600 := by
  have h1 := ky_len (ps_text S)
  rw [ps_text_len] at h1
  have h2 := hok.1
  unfold ky_w at h1
  show (ky_of (ps_text S)).1.length ≤ 600
  omega
def wM (m : Nat) (τ : Sg) (S : Sh) : Prop := τ.1 m 20 = nI (kyW S).length ∧ ∀ i, i < (kyW S).length → τ.1 (m + 15) i = nI ((kyW S).getD i 0)
def fW (m : Nat) (τ τ' : Sg) : Prop := ∀ z k, z ≠ m + 15 → ¬ (z = m ∧ k = 20) → τ'.1 z k = τ.1 z k
theorem mw_M {m : Nat} {S : Sh} (hok : ps_ok S) : ∀ (d i f : Nat) (τ : Sg), i + d = S 0 0 → d < f → rm_txt m τ S → (∀ j, j < (ky_r (ky_of ((ps_text S).take i))).length → τ.1 (m + 15) j = nI ((ky_r (ky_of ((ps_text S).take i))).getD j 0)) → ∃ τ', fn_X8_makeWanted_B4 m f τ (nI (ky_r (ky_of ((ps_text S).take i))).length) (nI i) = some τ' ∧ wM m τ' S ∧ fW m τ τ' := by
  have h600 := hok.1
  have hal := ps_text_al hok
  intro d
  induction d with
  | zero =>
    intro i f τ hi hf hr hL
    obtain ⟨f, rfl⟩ : ∃ g, f = g + 1 := ⟨f - 1, by omega⟩
    have hi' : i = S 0 0 := by omega
    have ht : (ps_text S).take i = ps_text S := List.take_of_length_le (by rw [ps_text_len]; omega)
    rw [ht] at hL ⊢
    have hg := kg_of hal
    have hw := ky_len (ps_text S)
    rw [ps_text_len, ← ky_rl] at hw
    have h128 := ky_rn hg
    have hrg := @ky_rg (ky_of (ps_text S))
    have hfin := ky_fin hg
    show ∃ τ', fn_X8_makeWanted_B4b m _ τ _ (nI i) = some τ' ∧ _
    generalize hP : ky_r (ky_of (ps_text S)) = L at *
    have hend : fn_X8_makeWanted_B4b m (fn_X8_makeWanted_B4 m f) τ (nI L.length) (nI i) = some (sg_w τ m 20 (nI (kyW S).length)) := by
      unfold fn_X8_makeWanted_B4b fn_X8_makeWanted_B97 fn_X8_makeWanted_B98
      rcases hfin with ⟨a1, a2⟩ | ⟨a1, a2, a3⟩ | ⟨a1, a2, a3⟩
      · rw [show (kyW S).length = 0 from a2, a1]
        simp (disch := omega) only [lit, nI_add, nI_mul, s_sub, a_le, a_lt, a_eq, sg_lt, sg_xN, s_ib, Option.bind_some, not_false_eq_true, true_and, if_pos, if_neg, ↓reduceIte, Nat.zero_add, Nat.add_zero, Nat.zero_le, hr.1]
      · rw [show (kyW S).length = L.length - 1 from a3]
        have e1 := hL (L.length - 1) (by omega)
        rw [a2] at e1
        simp (disch := omega) only [lit, nI_add, nI_mul, s_sub, a_le, a_lt, a_eq, sg_lt, sg_xN, s_ib, Option.bind_some, not_false_eq_true, true_and, if_pos, if_neg, ↓reduceIte, Nat.zero_add, Nat.add_zero, Nat.zero_le, hr.1, e1]
      · rw [show (kyW S).length = L.length from a3]
        have e1 := hL (L.length - 1) (by omega)
        have e2 := h128 (L.length - 1) (by omega)
        simp (disch := omega) only [lit, nI_add, nI_mul, s_sub, a_le, a_lt, a_eq, sg_lt, sg_xN, s_ib, Option.bind_some, not_false_eq_true, true_and, if_pos, if_neg, ↓reduceIte, Nat.zero_add, Nat.add_zero, Nat.zero_le, hr.1, e1]
    refine ⟨_, hend, ⟨sg_wgs, fun j hj => ?_⟩, fun z k h1 h2 => by rw [sg_wg, if_neg h2]⟩
    rw [sg_wga (by omega)]
    have hj2 : j < (ky_of (ps_text S)).1.length := hj
    rw [hL j (by omega), hrg j hj]
    rfl
  | succ d ih =>
    intro i f τ hi hf hr hL
    obtain ⟨f, rfl⟩ : ∃ g, f = g + 1 := ⟨f - 1, by omega⟩
    have hil : i < (ps_text S).length := by rw [ps_text_len]; omega
    have hg := kg_of (al_tk hal i)
    have hw := ky_len ((ps_text S).take i)
    rw [List.length_take, ← ky_rl] at hw
    have hc := al_gd hal hil
    have hst := ky_rs hg hc
    have hnx : ky_of ((ps_text S).take (i + 1)) = ky_st (ky_of ((ps_text S).take i)) ((ps_text S).getD i 0) := by rw [tk_s hil, ky_snoc]
    have h128 := ky_rn hg
    have hch : τ.1 (m + 1) i = nI ((ps_text S).getD i 0) := by rw [ps_text_get (by omega)]; exact hr.2 i (by omega)
    have hih := fun τ => ih (i + 1) f τ (by omega) (by omega)
    rw [hnx] at hih
    show ∃ τ', fn_X8_makeWanted_B4b m _ τ _ (nI i) = some τ' ∧ _
    generalize (ps_text S).getD i 0 = c at *
    have hfo := ky_foE c hc
    have hf1 := ky_fo1 c hc
    generalize ky_fo c = v at *
    generalize ky_of ((ps_text S).take i) = p at *
    generalize ky_r (ky_st p c) = L2 at *
    generalize ky_r p = L at *
    have hLi : L.length ≤ i := by omega
    rcases hst with ⟨a1, a2, rfl⟩ | ⟨a1, rfl⟩
    · have e0 : fn_X8_makeWanted_B4b m (fn_X8_makeWanted_B4 m f) τ (nI L2.length) (nI i) = fn_X8_makeWanted_B4 m f τ (nI L2.length) (nI (i + 1)) := by
        unfold fn_X8_makeWanted_B4b fn_X8_makeWanted_B45 fn_X8_makeWanted_B49 fn_X8_makeWanted_B50 fn_X8_makeWanted_B67
        rw [a1] at hfo
        by_cases h0 : L2.length = 0
        · rw [h0]
          simp (disch := omega) only [lit, nI_add, nI_mul, s_sub, a_le, a_lt, a_eq, sg_lt, sg_xN, s_ib, Option.bind_some, not_false_eq_true, true_and, if_pos, if_neg, ↓reduceIte, Nat.zero_add, Nat.add_zero, Nat.zero_le, hr.1, hch, hfo]
        · have e2 := a2.resolve_left h0
          have e1 := hL (L2.length - 1) (by omega)
          rw [e2] at e1
          simp (disch := omega) only [lit, nI_add, nI_mul, s_sub, a_le, a_lt, a_eq, sg_lt, sg_xN, s_ib, Option.bind_some, not_false_eq_true, true_and, if_pos, if_neg, ↓reduceIte, Nat.zero_add, Nat.add_zero, Nat.zero_le, hr.1, hch, hfo, e1]
      rw [e0]
      exact hih τ hr hL
    · have e0 : fn_X8_makeWanted_B4b m (fn_X8_makeWanted_B4 m f) τ (nI L.length) (nI i) = fn_X8_makeWanted_B4 m f (sg_w τ (m + 15) L.length (nI v)) (nI (L ++ [v]).length) (nI (i + 1)) := by
        rw [List.length_append]
        show _ = fn_X8_makeWanted_B4 m f _ (nI (L.length + 1)) (nI (i + 1))
        unfold fn_X8_makeWanted_B4b fn_X8_makeWanted_B45 fn_X8_makeWanted_B49 fn_X8_makeWanted_B50 fn_X8_makeWanted_B67
        by_cases hv : v = 32
        · have hn : ¬ (L.length = 0 ∨ L.getD (L.length - 1) 0 = 32) := fun q => a1 ⟨hv, q⟩
          have e1 := hL (L.length - 1) (by omega)
          have e2 := h128 (L.length - 1) (by omega)
          simp (disch := omega) only [lit, nI_add, nI_mul, s_sub, a_le, a_lt, a_eq, sg_lt, sg_xN, s_ib, Option.bind_some, not_false_eq_true, true_and, if_pos, if_neg, ↓reduceIte, Nat.zero_add, Nat.add_zero, Nat.zero_le, hr.1, hch, hfo, e1]
        · simp (disch := omega) only [lit, nI_add, nI_mul, s_sub, a_le, a_lt, a_eq, sg_lt, sg_xN, s_ib, Option.bind_some, not_false_eq_true, true_and, if_pos, if_neg, ↓reduceIte, Nat.zero_add, Nat.add_zero, Nat.zero_le, hr.1, hch, hfo]
      rw [e0]
      obtain ⟨τ', b1, b2, b3⟩ := hih (sg_w τ (m + 15) L.length (nI v)) ⟨by rw [sg_wga (by omega)]; exact hr.1, fun j hj => by rw [sg_wga (by omega)]; exact hr.2 j hj⟩ (fun j hj => by
        rw [List.length_append] at hj
        have hj2 : j < L.length + 1 := hj
        by_cases h1 : j < L.length
        · rw [sg_wgk (by omega), gd_l h1]; exact hL j h1
        · have : j = L.length := by omega
          subst this
          rw [sg_wgs, gd_r])
      refine ⟨τ', b1, b2, fun z k h1 h2 => ?_⟩
      rw [b3 z k h1 h2, sg_wg, if_neg (by omega)]
theorem mwM {m : Nat} {τ : Sg} {S : Sh} (hok : ps_ok S) (hr : rm_txt m τ S) : ∃ τ', fn_X8_makeWanted m τ = some τ' ∧ wM m τ' S ∧ fW m τ τ' :=
  mw_M hok (S 0 0) 0 sg_N τ (by omega) (by have := hok.1; show _ < 1000; omega) hr (fun j hj => absurd hj (Nat.not_lt_zero j))
/-- the class takes the text letter by letter, and goes on -/
theorem wa_C {b : Nat} {t c h : Int32} {S : Sh} (hok : ps_ok S) : ∀ (d i f : Nat) (σ : Sg), i + d = S 0 0 → d < f → rc_txt b σ S → rc_key σ (b + 8) (ky_of ((ps_text S).take i)) → ∃ σ', fn_X7_find_B32 b f σ t c h (nI i) = fn_X7_find_B73 b sg_N σ' t c h 0 0 ∧ kX0 σ' (b + 8) (kyW S) ∧ fK (b + 8) σ σ' := by
  have h600 := hok.1
  have hal := ps_text_al hok
  intro d
  induction d with
  | zero =>
    intro i f σ hi hf hr hk
    obtain ⟨f, rfl⟩ : ∃ g, f = g + 1 := ⟨f - 1, by omega⟩
    have ht : (ps_text S).take i = ps_text S := List.take_of_length_le (by rw [ps_text_len]; omega)
    rw [ht] at hk
    refine ⟨σ, ?_, ⟨hk.1, hk.2.1⟩, ⟨fun _ _ _ _ => rfl, rfl⟩⟩
    show fn_X7_find_B32b b (fn_X7_find_B32 b f) σ t c h (nI i) = _
    unfold fn_X7_find_B32b
    rw [hr.1, if_pos (nI_le (by omega) (by omega))]
  | succ d ih =>
    intro i f σ hi hf hr hk
    obtain ⟨f, rfl⟩ : ∃ g, f = g + 1 := ⟨f - 1, by omega⟩
    have hil : i < (ps_text S).length := by rw [ps_text_len]; omega
    have hw := ky_len ((ps_text S).take i)
    rw [List.length_take] at hw
    have hkR : sg_kR b (b + 8) = 600 := if_pos rfl
    have hch : σ.1 (b + 3) i = nI ((ps_text S).getD i 0) := by rw [ps_text_get (by omega)]; exact hr.2 i (by omega)
    obtain ⟨σ1, b1, b2, b3⟩ := tk (b := b) hk (by omega) (al_gd hal hil)
    rw [← ky_snoc, ← tk_s hil] at b2
    obtain ⟨σ2, c1, c2, c3⟩ := ih (i + 1) f σ1 (by omega) (by omega) ⟨by rw [b3.1 _ _ (by omega) (by omega)]; exact hr.1, fun j hj => by rw [b3.1 _ _ (by omega) (by omega)]; exact hr.2 j hj⟩ b2
    refine ⟨σ2, ?_, c2, b3.tr c3⟩
    rw [← c1]
    show fn_X7_find_B32b b (fn_X7_find_B32 b f) σ t c h (nI i) = _
    unfold fn_X7_find_B32b
    simp (disch := omega) only [lit, nI_add, nI_mul, s_sub, a_le, a_lt, a_eq, sg_lt, sg_xN, s_ib, Option.bind_some, not_false_eq_true, true_and, if_pos, if_neg, ↓reduceIte, Nat.zero_add, Nat.add_zero, Nat.zero_le, hr.1, hch, b1]
-- ===== find: what fits =====
def bv (v : Int32) (P : Prop) : Prop := (v = 0 ∧ ¬ P) ∨ (v = 1 ∧ P)
theorem bv_bo {v : Int32} {P : Prop} (h : bv v P) : sg_bo v := h.elim (fun q => Or.inl q.1) (fun q => Or.inr q.1)
theorem bv_iff {v : Int32} {P Q : Prop} (h : bv v P) (e : P ↔ Q) : bv v Q := h.elim (fun q => Or.inl ⟨q.1, fun k => q.2 (e.mpr k)⟩) (fun q => Or.inr ⟨q.1, e.mp q.2⟩)
def stA (A W : List Nat) (s : Nat) : Prop := s + W.length ≤ A.length ∧ ∀ i, i < W.length → A.getD (s + i) 0 = W.getD i 0
def wd (A W : List Nat) (s : Nat) : Prop := stA A W s ∧ (s = 0 ∨ A.getD (s - 1) 0 = 32) ∧ (s + W.length = A.length ∨ A.getD (s + W.length) 0 = 32)
def FT (how : Nat) (A W : List Nat) : Prop := (how = 0 ∧ A = W) ∨ (how = 1 ∧ stA A W 0) ∨ (how = 2 ∧ ((W.length = 0 ∧ A.length = 0) ∨ (W.length ≠ 0 ∧ ∃ s, wd A W s)))
theorem ha_C {b x y s : Nat} {σ : Sg} {A W : List Nat} (h : kX0 σ x A) (h2 : kX0 σ y W) (lA : A.length ≤ sg_kR b x) (lW : W.length ≤ sg_kR b y) (gA : k128 A) (gW : k128 W) (hs : s + W.length ≤ A.length) : ∀ (d i f : Nat), i + d = W.length → d < f → (∀ j, j < i → A.getD (s + j) 0 = W.getD j 0) → ∃ v, fn_X3_hasAt_B17 b σ f x (nI s) y (nI i) = some v ∧ bv v (stA A W s) := by
  have k1 := kR_le b x
  have k2 := kR_le b y
  intro d
  induction d with
  | zero =>
    intro i f hi hf hp
    obtain ⟨f, rfl⟩ : ∃ g, f = g + 1 := ⟨f - 1, by omega⟩
    refine ⟨1, ?_, Or.inr ⟨rfl, hs, fun j hj => hp j (by omega)⟩⟩
    show fn_X3_hasAt_B17b b σ (fn_X3_hasAt_B17 b σ f) x (nI s) y (nI i) = _
    unfold fn_X3_hasAt_B17b
    rw [h2.1, if_pos (nI_le (by omega) (by omega))]
  | succ d ih =>
    intro i f hi hf hp
    obtain ⟨f, rfl⟩ : ∃ g, f = g + 1 := ⟨f - 1, by omega⟩
    have a1 := gA (s + i) (by omega)
    have a2 := gW i (by omega)
    have a3 := h.2 (s + i) (by omega)
    have a4 := h2.2 i (by omega)
    by_cases hxy : A.getD (s + i) 0 = W.getD i 0
    · obtain ⟨v, v1, v2⟩ := ih (i + 1) f (by omega) (by omega) (fun j hj => by
        by_cases hq : j < i
        · exact hp j hq
        · rw [show j = i by omega]; exact hxy)
      refine ⟨v, ?_, v2⟩
      rw [← v1]
      show fn_X3_hasAt_B17b b σ (fn_X3_hasAt_B17 b σ f) x (nI s) y (nI i) = _
      unfold fn_X3_hasAt_B17b
      rw [← hxy] at a4
      simp (disch := omega) only [lit, nI_add, nI_mul, s_sub, a_le, a_lt, a_eq, sg_lt, sg_xN, s_ib, Option.bind_some, not_false_eq_true, true_and, if_pos, if_neg, ↓reduceIte, Nat.zero_add, Nat.add_zero, Nat.zero_le, h2.1, a3, a4]
    · refine ⟨0, ?_, Or.inl ⟨rfl, fun q => hxy (q.2 i (by omega))⟩⟩
      show fn_X3_hasAt_B17b b σ (fn_X3_hasAt_B17 b σ f) x (nI s) y (nI i) = _
      unfold fn_X3_hasAt_B17b
      simp (disch := omega) only [lit, nI_add, nI_mul, s_sub, a_le, a_lt, a_eq, sg_lt, sg_xN, s_ib, Option.bind_some, not_false_eq_true, true_and, if_pos, if_neg, ↓reduceIte, Nat.zero_add, Nat.add_zero, Nat.zero_le, h2.1, a3, a4]
theorem haC {b x y s : Nat} {σ : Sg} {A W : List Nat} (h : kX0 σ x A) (h2 : kX0 σ y W) (lA : A.length ≤ sg_kR b x) (lW : W.length ≤ sg_kR b y) (gA : k128 A) (gW : k128 W) (hs : s < 1000) : ∃ v, fn_X3_hasAt b σ x (nI s) y = some v ∧ bv v (stA A W s) := by
  have k1 := kR_le b x
  have k2 := kR_le b y
  by_cases hl : s + W.length ≤ A.length
  · obtain ⟨v, v1, v2⟩ := ha_C h h2 lA lW gA gW hl W.length 0 sg_N (by omega) (by show _ < 1000; omega) (fun j hj => absurd hj (Nat.not_lt_zero j))
    refine ⟨v, ?_, v2⟩
    rw [← v1]
    unfold fn_X3_hasAt
    simp (disch := omega) only [lit, nI_add, nI_mul, s_sub, a_le, a_lt, a_eq, sg_lt, sg_xN, s_ib, Option.bind_some, not_false_eq_true, true_and, if_pos, if_neg, ↓reduceIte, Nat.zero_add, Nat.add_zero, Nat.zero_le, h.1, h2.1]
  · refine ⟨0, ?_, Or.inl ⟨rfl, fun q => hl q.1⟩⟩
    unfold fn_X3_hasAt
    simp (disch := omega) only [lit, nI_add, nI_mul, s_sub, a_le, a_lt, a_eq, sg_lt, sg_xN, s_ib, Option.bind_some, not_false_eq_true, true_and, if_pos, if_neg, ↓reduceIte, Nat.zero_add, Nat.add_zero, Nat.zero_le, h.1, h2.1]
theorem hw_C {b x y : Nat} {σ : Sg} {A W : List Nat} (h : kX0 σ x A) (h2 : kX0 σ y W) (lA : A.length ≤ sg_kR b x) (lW : W.length ≤ sg_kR b y) (gA : k128 A) (gW : k128 W) (hW : 0 < W.length) : ∀ (d s f : Nat), s + d = A.length + 1 → d < f → ∃ v, fn_X3_hasWords_B22 b σ f x y (nI s) = some v ∧ bv v (∃ s', s ≤ s' ∧ wd A W s') := by
  have k1 := kR_le b x
  have k2 := kR_le b y
  intro d
  induction d with
  | zero =>
    intro s f hs hf
    obtain ⟨f, rfl⟩ : ∃ g, f = g + 1 := ⟨f - 1, by omega⟩
    refine ⟨0, ?_, Or.inl ⟨rfl, fun ⟨s', q1, q2⟩ => by have := q2.1.1; omega⟩⟩
    show fn_X3_hasWords_B22b b σ (fn_X3_hasWords_B22 b σ f) x y (nI s) = _
    unfold fn_X3_hasWords_B22b
    simp (disch := omega) only [lit, nI_add, nI_mul, s_sub, a_le, a_lt, a_eq, sg_lt, sg_xN, s_ib, Option.bind_some, not_false_eq_true, true_and, if_pos, if_neg, ↓reduceIte, Nat.zero_add, Nat.add_zero, Nat.zero_le, h.1, h2.1]
  | succ d ih =>
    intro s f hs hf
    obtain ⟨f, rfl⟩ : ∃ g, f = g + 1 := ⟨f - 1, by omega⟩
    by_cases hl : A.length < s + W.length
    · refine ⟨0, ?_, Or.inl ⟨rfl, fun ⟨s', q1, q2⟩ => by have := q2.1.1; omega⟩⟩
      show fn_X3_hasWords_B22b b σ (fn_X3_hasWords_B22 b σ f) x y (nI s) = _
      unfold fn_X3_hasWords_B22b
      simp (disch := omega) only [lit, nI_add, nI_mul, s_sub, a_le, a_lt, a_eq, sg_lt, sg_xN, s_ib, Option.bind_some, not_false_eq_true, true_and, if_pos, if_neg, ↓reduceIte, Nat.zero_add, Nat.add_zero, Nat.zero_le, h.1, h2.1]
    · obtain ⟨v, v1, v2⟩ := ih (s + 1) f (by omega) (by omega)
      have hno : ¬ wd A W s → ∃ v, some v = fn_X3_hasWords_B22 b σ f x y (nI (s + 1)) ∧ bv v (∃ s', s ≤ s' ∧ wd A W s') := fun hn => by
        refine ⟨v, v1.symm, bv_iff v2 ⟨fun ⟨s', q1, q2⟩ => ⟨s', by omega, q2⟩, fun ⟨s', q1, q2⟩ => ?_⟩⟩
        by_cases e : s' = s
        · subst e; exact absurd q2 hn
        · exact ⟨s', by omega, q2⟩
      have hE1 : fn_X3_isEdge b σ x (nI s - 1) = some (if s = 0 ∨ A.getD (s - 1) 0 = 32 then 1 else 0) := by
        unfold fn_X3_isEdge fn_X3_isEdge_B23
        by_cases h0 : s = 0
        · rw [if_pos (Or.inl h0), h0, if_pos (show nI 0 - 1 < (0 : Int32) by decide)]
        · have a3 := h.2 (s - 1) (by omega)
          have a4 := gA (s - 1) (by omega)
          by_cases h1 : A.getD (s - 1) 0 = 32
          · rw [if_pos (Or.inr h1)]
            rw [h1] at a3
            simp (disch := omega) only [lit, nI_add, nI_mul, s_sub, a_le, a_lt, a_eq, sg_lt, sg_xN, s_ib, Option.bind_some, not_false_eq_true, true_and, if_pos, if_neg, ↓reduceIte, Nat.zero_add, Nat.add_zero, Nat.zero_le, h.1, a3]
          · rw [if_neg (show ¬ (s = 0 ∨ A.getD (s - 1) 0 = 32) from fun q => q.elim h0 h1)]
            simp (disch := omega) only [lit, nI_add, nI_mul, s_sub, a_le, a_lt, a_eq, sg_lt, sg_xN, s_ib, Option.bind_some, not_false_eq_true, true_and, if_pos, if_neg, ↓reduceIte, Nat.zero_add, Nat.add_zero, Nat.zero_le, h.1, a3]
      have hE2 : fn_X3_isEdge b σ x (nI s + nI W.length) = some (if s + W.length = A.length ∨ A.getD (s + W.length) 0 = 32 then 1 else 0) := by
        unfold fn_X3_isEdge fn_X3_isEdge_B23
        by_cases h0 : s + W.length = A.length
        · rw [if_pos (Or.inl h0)]
          simp (disch := omega) only [lit, nI_add, nI_mul, s_sub, a_le, a_lt, a_eq, sg_lt, sg_xN, s_ib, Option.bind_some, not_false_eq_true, true_and, if_pos, if_neg, ↓reduceIte, Nat.zero_add, Nat.add_zero, Nat.zero_le, h.1]
        · have a3 := h.2 (s + W.length) (by omega)
          have a4 := gA (s + W.length) (by omega)
          by_cases h1 : A.getD (s + W.length) 0 = 32
          · rw [if_pos (Or.inr h1)]
            rw [h1] at a3
            simp (disch := omega) only [lit, nI_add, nI_mul, s_sub, a_le, a_lt, a_eq, sg_lt, sg_xN, s_ib, Option.bind_some, not_false_eq_true, true_and, if_pos, if_neg, ↓reduceIte, Nat.zero_add, Nat.add_zero, Nat.zero_le, h.1, a3]
          · rw [if_neg (show ¬ (s + W.length = A.length ∨ A.getD (s + W.length) 0 = 32) from fun q => q.elim h0 h1)]
            simp (disch := omega) only [lit, nI_add, nI_mul, s_sub, a_le, a_lt, a_eq, sg_lt, sg_xN, s_ib, Option.bind_some, not_false_eq_true, true_and, if_pos, if_neg, ↓reduceIte, Nat.zero_add, Nat.add_zero, Nat.zero_le, h.1, a3]
      show ∃ v, fn_X3_hasWords_B22b b σ (fn_X3_hasWords_B22 b σ f) x y (nI s) = some v ∧ _
      unfold fn_X3_hasWords_B22b fn_X3_hasWords_B62 fn_X3_hasWords_B63 fn_X3_hasWords_B79
      rw [h.1, h2.1, nI_add, if_neg (nI_nlt (by omega) (by omega)), hE1, Option.bind_some]
      rw [← nI_add, hE2]
      by_cases e1 : s = 0 ∨ A.getD (s - 1) 0 = 32
      · rw [if_pos e1, if_neg (show ¬ (1 : Int32) = 0 by decide), Option.bind_some]
        by_cases e2 : s + W.length = A.length ∨ A.getD (s + W.length) 0 = 32
        · rw [if_pos e2, if_neg (show ¬ (1 : Int32) = 0 by decide), if_neg (show ¬ (1 : Int32) = 0 by decide)]
          obtain ⟨w, w1, w2⟩ := haC (s := s) h h2 lA lW gA gW (by omega)
          rw [w1, Option.bind_some]
          rcases w2 with ⟨rfl, w3⟩ | ⟨rfl, w3⟩
          · rw [if_pos rfl]
            obtain ⟨v', q1, q2⟩ := hno (fun q => w3 q.1)
            exact ⟨v', by rw [q1]; exact congrArg _ (nI_1 s), q2⟩
          · rw [if_neg (show ¬ (1 : Int32) = 0 by decide)]
            exact ⟨1, rfl, Or.inr ⟨rfl, s, Nat.le_refl s, w3, e1, e2⟩⟩
        · rw [if_neg e2, if_pos (show (0 : Int32) = 0 from rfl), if_pos (show (0 : Int32) = 0 from rfl)]
          obtain ⟨v', q1, q2⟩ := hno (fun q => e2 q.2.2)
          exact ⟨v', by rw [q1]; exact congrArg _ (nI_1 s), q2⟩
      · rw [if_neg e1, if_pos (show (0 : Int32) = 0 from rfl), if_pos (show (0 : Int32) = 0 from rfl)]
        obtain ⟨v', q1, q2⟩ := hno (fun q => e1 q.2.1)
        exact ⟨v', by rw [q1]; exact congrArg _ (nI_1 s), q2⟩
theorem ftC {b x y how : Nat} {σ : Sg} {A W : List Nat} (hh : how ≤ 2) (h : kX0 σ x A) (h2 : kX0 σ y W) (lA : A.length ≤ sg_kR b x) (lW : W.length ≤ sg_kR b y) (gA : k128 A) (gW : k128 W) : ∃ v, fn_X3_fits b σ x y (nI how) = some v ∧ bv v (FT how A W) := by
  have k1 := kR_le b x
  have k2 := kR_le b y
  have h3 : how = 0 ∨ how = 1 ∨ how = 2 := by omega
  unfold fn_X3_fits
  rcases h3 with rfl | rfl | rfl
  · rw [if_pos (show nI 0 = 0 from rfl)]
    obtain ⟨r, r1, r2⟩ := agC (b := b) h h2 lA lW gA gW
    rw [r1, Option.bind_some]
    have hr : r = 0 ↔ A = W := by
      rcases r2 with ⟨e1, e2⟩ | ⟨t, e1, e2, e3⟩ | ⟨t, e1, e2, e3, e4⟩
      · exact ⟨fun _ => e1, fun _ => e2⟩
      · exact ⟨fun q => absurd e3 (by rw [q]; decide), fun q => by rw [q] at e2; omega⟩
      · exact ⟨fun q => absurd q e4, fun q => by rw [q] at e2; omega⟩
    by_cases e : r = 0
    · rw [if_pos e]; exact ⟨1, rfl, Or.inr ⟨rfl, Or.inl ⟨rfl, hr.mp e⟩⟩⟩
    · rw [if_neg e]
      refine ⟨0, rfl, Or.inl ⟨rfl, fun q => ?_⟩⟩
      rcases q with q | q | q
      · exact e (hr.mpr q.2)
      · exact absurd q.1 (by decide)
      · exact absurd q.1 (by decide)
  · rw [if_neg (show ¬ nI 1 = 0 by decide), if_pos (show nI 1 = 1 from rfl)]
    obtain ⟨v, v1, v2⟩ := haC (s := 0) h h2 lA lW gA gW (by omega)
    rw [show fn_X3_hasAt b σ x 0 y = some v from v1, Option.bind_some, if_pos (bv_bo v2)]
    refine ⟨v, rfl, bv_iff v2 ⟨fun q => Or.inr (Or.inl ⟨rfl, q⟩), fun q => ?_⟩⟩
    rcases q with q | q | q
    · exact absurd q.1 (by decide)
    · exact q.2
    · exact absurd q.1 (by decide)
  · rw [if_neg (show ¬ nI 2 = 0 by decide), if_neg (show ¬ nI 2 = 1 by decide)]
    have hgo : ∃ v, fn_X3_hasWords b σ x y = some v ∧ bv v ((W.length = 0 ∧ A.length = 0) ∨ (W.length ≠ 0 ∧ ∃ s, wd A W s)) := by
      unfold fn_X3_hasWords
      rw [h.1, h2.1]
      by_cases e : W.length = 0
      · rw [if_pos (show nI W.length = 0 by rw [e]; rfl)]
        by_cases e2 : A.length = 0
        · rw [if_pos (show nI A.length = 0 by rw [e2]; rfl)]
          exact ⟨1, rfl, Or.inr ⟨rfl, Or.inl ⟨e, e2⟩⟩⟩
        · rw [if_neg (show ¬ nI A.length = 0 from fun q => e2 ((nI_eq (b := 0) (by omega) (by omega)).mp q))]
          exact ⟨0, rfl, Or.inl ⟨rfl, fun q => q.elim (fun k => e2 k.2) (fun k => k.1 e)⟩⟩
      · rw [if_neg (show ¬ nI W.length = 0 from fun q => e ((nI_eq (b := 0) (by omega) (by omega)).mp q))]
        obtain ⟨v, v1, v2⟩ := hw_C h h2 lA lW gA gW (by omega) (A.length + 1) 0 sg_N (by omega) (by show _ < 1000; omega)
        exact ⟨v, v1, bv_iff v2 ⟨fun ⟨s, _, q⟩ => Or.inr ⟨e, s, q⟩, fun q => q.elim (fun k => absurd k.1 e) (fun ⟨_, s, k⟩ => ⟨s, Nat.zero_le s, k⟩)⟩⟩
    obtain ⟨v, v1, v2⟩ := hgo
    rw [v1, Option.bind_some, if_pos (bv_bo v2)]
    refine ⟨v, rfl, bv_iff v2 ⟨fun q => Or.inr (Or.inr ⟨rfl, q⟩), fun q => ?_⟩⟩
    rcases q with q | q | q
    · exact absurd q.1 (by decide)
    · exact absurd q.1 (by decide)
    · exact q.2
