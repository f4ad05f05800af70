-- ===== keys, as the reference makes them =====
def kyK (S : Sh) (u : Nat) : List Nat := (ky_of (ps_chars S u)).1
def ky_r (p : List Nat × Bool) : List Nat := if p.2 = true ∧ p.1 ≠ [] then p.1 ++ [32] else p.1
theorem ky_rl (p : List Nat × Bool) : (ky_r p).length = ky_w p := by
  unfold ky_r ky_w
  by_cases h : p.2 = true ∧ p.1 ≠ []
  · rw [if_pos h, if_pos h, List.length_append]; rfl
  · rw [if_neg h, if_neg h]; rfl
def ky_fo (c : Nat) : Nat := if ky_al c then ky_lo c else 32
theorem ky_foE : ∀ c, c < 128 → fn_X8_folded (nI c) = some (nI (ky_fo c)) := by decide +kernel
theorem ky_fo1 : ∀ c, c < 128 → 32 ≤ ky_fo c ∧ ky_fo c < 128 ∧ (ky_fo c = 32 ↔ ¬ (ky_al c = true)) := by decide +kernel
def kgood (K : List Nat) : Prop := (∀ i, i < K.length → 32 ≤ K.getD i 0 ∧ K.getD i 0 < 128) ∧ ∀ n, K.length = n + 1 → K.getD n 0 ≠ 32
theorem kg_app {K : List Nat} {c : Nat} (h : ∀ i, i < K.length → 32 ≤ K.getD i 0 ∧ K.getD i 0 < 128) (hc : 32 ≤ c ∧ c < 128) : ∀ i, i < (K ++ [c]).length → 32 ≤ (K ++ [c]).getD i 0 ∧ (K ++ [c]).getD i 0 < 128 := by
  intro i hi
  rw [List.length_append] at hi
  have hi2 : i < K.length + 1 := hi
  by_cases h1 : i < K.length
  · rw [gd_l h1]; exact h i h1
  · have : i = K.length := by omega
    subst this
    rw [gd_r]; exact hc
theorem kg_st {p : List Nat × Bool} {c : Nat} (h : kgood p.1) (hc : c < 128) : kgood (ky_st p c).1 := by
  unfold ky_st
  by_cases ha : ky_al c = true
  · rw [if_pos ha]
    have h1 := ky_fo1 c hc
    have h2 : ky_fo c = ky_lo c := by unfold ky_fo; rw [if_pos ha]
    rw [h2] at h1
    have hb : ∀ L : List Nat, (∀ i, i < L.length → 32 ≤ L.getD i 0 ∧ L.getD i 0 < 128) → kgood (L ++ [ky_lo c]) := fun L hL => ⟨kg_app hL ⟨h1.1, h1.2.1⟩, fun n hn => by
      rw [List.length_append] at hn
      have hn2 : L.length = n := Nat.succ.inj hn
      subst hn2
      rw [gd_r]
      exact fun q => (h1.2.2.mp q) ha⟩
    by_cases hg : p.2 = true ∧ p.1 ≠ []
    · show kgood ((if p.2 = true ∧ p.1 ≠ [] then p.1 ++ [32] else p.1) ++ [ky_lo c])
      rw [if_pos hg]
      exact hb _ (kg_app h.1 ⟨by omega, by omega⟩)
    · show kgood ((if p.2 = true ∧ p.1 ≠ [] then p.1 ++ [32] else p.1) ++ [ky_lo c])
      rw [if_neg hg]
      exact hb _ h.1
  · rw [if_neg ha]; exact h
theorem kg_fo : ∀ (cs : List Nat) (p : List Nat × Bool), kgood p.1 → al cs → kgood (cs.foldl ky_st p).1
  | [], _, h, _ => h
  | c :: cs, p, h, ha => kg_fo cs (ky_st p c) (kg_st h (ha c (List.mem_cons_self ..))) (fun d hd => ha d (List.mem_cons_of_mem _ hd))
theorem kg_of {cs : List Nat} (h : al cs) : kgood (ky_of cs).1 := kg_fo cs ([], false) ⟨fun i hi => absurd hi (Nat.not_lt_zero i), fun n hn => nomatch hn⟩ h
theorem ky_rs {p : List Nat × Bool} {c : Nat} (h : kgood p.1) (hc : c < 128) : (ky_fo c = 32 ∧ ((ky_r p).length = 0 ∨ (ky_r p).getD ((ky_r p).length - 1) 0 = 32) ∧ ky_r (ky_st p c) = ky_r p) ∨ (¬ (ky_fo c = 32 ∧ ((ky_r p).length = 0 ∨ (ky_r p).getD ((ky_r p).length - 1) 0 = 32)) ∧ ky_r (ky_st p c) = ky_r p ++ [ky_fo c]) := by
  have h1 := ky_fo1 c hc
  by_cases ha : ky_al c = true
  · right
    have h2 : ky_fo c = ky_lo c := by unfold ky_fo; rw [if_pos ha]
    refine ⟨fun q => (h1.2.2.mp q.1) ha, ?_⟩
    unfold ky_st
    rw [if_pos ha, h2]
    unfold ky_r
    rw [if_neg (fun q => nomatch q.1)]
  · have h2 : ky_fo c = 32 := h1.2.2.mpr ha
    have h3 : ky_st p c = (p.1, true) := by unfold ky_st; rw [if_neg ha]
    rw [h3, h2]
    by_cases he : p.1 = []
    · left
      have h4 : ky_r p = [] := by unfold ky_r; rw [if_neg (fun q => q.2 he), he]
      refine ⟨rfl, Or.inl (by rw [h4]; rfl), ?_⟩
      rw [h4]; unfold ky_r; rw [if_neg (fun q => q.2 he), he]
    · have h5 : ky_r (p.1, true) = p.1 ++ [32] := by unfold ky_r; rw [if_pos ⟨rfl, he⟩]
      by_cases hg : p.2 = true
      · left
        have h4 : ky_r p = p.1 ++ [32] := by unfold ky_r; rw [if_pos ⟨hg, he⟩]
        refine ⟨rfl, Or.inr ?_, ?_⟩
        · rw [h4, List.length_append]
          show (p.1 ++ [32]).getD (p.1.length + 1 - 1) 0 = 32
          rw [Nat.add_sub_cancel, gd_r]
        · rw [h5, h4]
      · right
        have h4 : ky_r p = p.1 := by unfold ky_r; rw [if_neg (fun q => hg q.1)]
        rw [h4, h5]
        have hl : p.1.length ≠ 0 := fun q => he (List.length_eq_zero_iff.mp q)
        refine ⟨fun q => q.2.elim hl (h.2 (p.1.length - 1) (by omega)), rfl⟩
theorem ky_fin {p : List Nat × Bool} (h : kgood p.1) : ((ky_r p).length = 0 ∧ p.1.length = 0) ∨ (0 < (ky_r p).length ∧ (ky_r p).getD ((ky_r p).length - 1) 0 = 32 ∧ p.1.length = (ky_r p).length - 1) ∨ (0 < (ky_r p).length ∧ (ky_r p).getD ((ky_r p).length - 1) 0 ≠ 32 ∧ p.1.length = (ky_r p).length) := by
  by_cases hg : p.2 = true ∧ p.1 ≠ []
  · have h4 : ky_r p = p.1 ++ [32] := by unfold ky_r; rw [if_pos hg]
    right; left
    rw [h4, List.length_append]
    refine ⟨Nat.succ_pos _, ?_, rfl⟩
    show (p.1 ++ [32]).getD (p.1.length + 1 - 1) 0 = 32
    rw [Nat.add_sub_cancel, gd_r]
  · have h4 : ky_r p = p.1 := by unfold ky_r; rw [if_neg hg]
    rw [h4]
    by_cases hl : p.1.length = 0
    · exact Or.inl ⟨hl, hl⟩
    · exact Or.inr (Or.inr ⟨by omega, h.2 _ (by omega), rfl⟩)
theorem ky_rg {p : List Nat × Bool} (i : Nat) (h : i < p.1.length) : (ky_r p).getD i 0 = p.1.getD i 0 := by
  unfold ky_r
  by_cases hg : p.2 = true ∧ p.1 ≠ []
  · rw [if_pos hg, gd_l h]
  · rw [if_neg hg]
theorem ky_rn {p : List Nat × Bool} (h : kgood p.1) : ∀ i, i < (ky_r p).length → (ky_r p).getD i 0 < 128 := by
  unfold ky_r
  by_cases hg : p.2 = true ∧ p.1 ≠ []
  · rw [if_pos hg]; exact fun i hi => (kg_app h.1 ⟨by omega, by omega⟩ i hi).2
  · rw [if_neg hg]; exact fun i hi => (h.1 i hi).2
theorem gd_e {cs : List Nat} {i : Nat} (h : i < cs.length) : cs.getD i 0 = cs[i] := by
  rw [List.getD_eq_getElem?_getD, List.getElem?_eq_getElem h]; rfl
theorem tk_s {cs : List Nat} {i : Nat} (h : i < cs.length) : cs.take (i + 1) = cs.take i ++ [cs.getD i 0] := by
  rw [List.take_succ, List.getElem?_eq_getElem h, gd_e h]; rfl
theorem al_tk {cs : List Nat} (h : al cs) (i : Nat) : al (cs.take i) := fun c hc => h c (List.mem_of_mem_take hc)
theorem al_gd {cs : List Nat} (h : al cs) {i : Nat} (hi : i < cs.length) : cs.getD i 0 < 128 := by
  rw [gd_e hi]; exact h _ (List.getElem_mem hi)
theorem ps_chars_get {S : Sh} {u i : Nat} (h : i < S 10 u) : (ps_chars S u).getD i 0 = S 11 (20 * u + i) := by
  unfold ps_chars
  rw [gd_e (by rw [List.length_map, List.length_range]; exact h), List.getElem_map, List.getElem_range]
theorem ps_chars_al {S : Sh} {u : Nat} (h : ps_sub S u) : al (ps_chars S u) := by
  intro c hc
  unfold ps_chars at hc
  obtain ⟨i, hi, rfl⟩ := List.mem_map.mp hc
  exact h.2.2 i (List.mem_range.mp hi)
theorem kyK_good {S : Sh} {u : Nat} (h : ps_sub S u) : kgood (kyK S u) := kg_of (ps_chars_al h)
theorem kyK_len {S : Sh} {u : Nat} (h : ps_sub S u) : (kyK S u).length ≤ 20 := by
  have h1 := ky_len (ps_chars S u)
  rw [ps_chars_len] at h1
  have h2 := h.2.1
  unfold ky_w at h1
  show (ky_of (ps_chars S u)).1.length ≤ 20
  omega
/-- the reference holds the key of u -/
def kyM (m : Nat) (τ : Sg) (S : Sh) (u : Nat) : Prop := τ.1 (m + 14) u = nI (kyK S u).length ∧ ∀ i, i < (kyK S u).length → τ.1 (m + 13) (20 * u + i) = nI ((kyK S u).getD i 0)
def fY (m u : Nat) (τ τ' : Sg) : Prop := ∀ z k, ¬ (z = m + 13 ∧ 20 * u ≤ k ∧ k < 20 * u + 20) → ¬ (z = m + 14 ∧ k = u) → τ'.1 z k = τ.1 z k
theorem fY.tr {m u : Nat} {τ τ1 τ2 : Sg} (h : fY m u τ τ1) (h2 : fY m u τ1 τ2) : fY m u τ τ2 := fun z k a c => (h2 z k a c).trans (h z k a c)
theorem mk_M {m u : Nat} {S : Sh} (hu : u < 192) (hp : ps_sub S u) : ∀ (d i f : Nat) (τ : Sg), i + d = S 10 u → d < f → rm_sub m τ S u → (∀ j, j < (ky_r (ky_of ((ps_chars S u).take i))).length → τ.1 (m + 13) (20 * u + j) = nI ((ky_r (ky_of ((ps_chars S u).take i))).getD j 0)) → ∃ τ', fn_X8_makeKey_B4 m f τ (nI u) (nI (ky_r (ky_of ((ps_chars S u).take i))).length) (nI i) = some τ' ∧ kyM m τ' S u ∧ fY m u τ τ' := by
  have h20 := hp.2.1
  intro d
  induction d with
  | zero =>
    intro i f τ hi hf hr hL
    obtain ⟨f, rfl⟩ : ∃ g, f = g + 1 := ⟨f - 1, by omega⟩
    have hi' : i = S 10 u := by omega
    have ht : (ps_chars S u).take i = ps_chars S u := List.take_of_length_le (by rw [ps_chars_len]; omega)
    rw [ht] at hL ⊢
    have hg := kg_of (ps_chars_al hp)
    have hw := ky_len (ps_chars S u)
    rw [ps_chars_len, ← ky_rl] at hw
    have h128 := ky_rn hg
    have hrg := @ky_rg (ky_of (ps_chars S u))
    have hfin := ky_fin hg
    show ∃ τ', fn_X8_makeKey_B4b m _ τ (nI u) _ (nI i) = some τ' ∧ _
    generalize hP : ky_r (ky_of (ps_chars S u)) = L at *
    have hend : fn_X8_makeKey_B4b m (fn_X8_makeKey_B4 m f) τ (nI u) (nI L.length) (nI i) = some (sg_w τ (m + 14) u (nI (kyK S u).length)) := by
      unfold fn_X8_makeKey_B4b fn_X8_makeKey_B126 fn_X8_makeKey_B127
      rcases hfin with ⟨a1, a2⟩ | ⟨a1, a2, a3⟩ | ⟨a1, a2, a3⟩
      · rw [show (kyK S u).length = 0 from a2, a1]
        simp (disch := omega) only [lit, nI_add, nI_mul, s_sub, a_le, a_lt, a_eq, sg_lt, sg_xN, s_ib, Option.bind_some, not_false_eq_true, true_and, if_pos, if_neg, ↓reduceIte, Nat.zero_add, Nat.add_zero, Nat.zero_le, hr.2.1]
      · rw [show (kyK S u).length = L.length - 1 from a3]
        have e1 := hL (L.length - 1) (by omega)
        rw [a2, show 20 * u + (L.length - 1) = 20 * u + L.length - 1 by omega] at e1
        simp (disch := omega) only [lit, nI_add, nI_mul, s_sub, a_le, a_lt, a_eq, sg_lt, sg_xN, s_ib, Option.bind_some, not_false_eq_true, true_and, if_pos, if_neg, ↓reduceIte, Nat.zero_add, Nat.add_zero, Nat.zero_le, hr.2.1, e1]
      · rw [show (kyK S u).length = L.length from a3]
        have e1 := hL (L.length - 1) (by omega)
        have e2 := h128 (L.length - 1) (by omega)
        rw [show 20 * u + (L.length - 1) = 20 * u + L.length - 1 by omega] at e1
        simp (disch := omega) only [lit, nI_add, nI_mul, s_sub, a_le, a_lt, a_eq, sg_lt, sg_xN, s_ib, Option.bind_some, not_false_eq_true, true_and, if_pos, if_neg, ↓reduceIte, Nat.zero_add, Nat.add_zero, Nat.zero_le, hr.2.1, e1]
    refine ⟨_, hend, ⟨sg_wgs, fun j hj => ?_⟩, fun z k h1 h2 => by rw [sg_wg, if_neg h2]⟩
    rw [sg_wga (by omega)]
    have hj2 : j < (ky_of (ps_chars S u)).1.length := hj
    rw [hL j (by omega), hrg j hj]
    rfl
  | succ d ih =>
    intro i f τ hi hf hr hL
    obtain ⟨f, rfl⟩ : ∃ g, f = g + 1 := ⟨f - 1, by omega⟩
    have hil : i < (ps_chars S u).length := by rw [ps_chars_len]; omega
    have hg := kg_of (al_tk (ps_chars_al hp) i)
    have hw := ky_len ((ps_chars S u).take i)
    rw [List.length_take, ← ky_rl] at hw
    have hc := al_gd (ps_chars_al hp) hil
    have hst := ky_rs hg hc
    have hnx : ky_of ((ps_chars S u).take (i + 1)) = ky_st (ky_of ((ps_chars S u).take i)) ((ps_chars S u).getD i 0) := by rw [tk_s hil, ky_snoc]
    have h128 := ky_rn hg
    have hch : τ.1 (m + 10) (20 * u + i) = nI ((ps_chars S u).getD i 0) := by rw [ps_chars_get (by omega)]; exact hr.2.2 i (by omega)
    have hih := fun τ => ih (i + 1) f τ (by omega) (by omega)
    rw [hnx] at hih
    show ∃ τ', fn_X8_makeKey_B4b m _ τ (nI u) _ (nI i) = some τ' ∧ _
    generalize (ps_chars S u).getD i 0 = c at *
    have hfo := ky_foE c hc
    have hf1 := ky_fo1 c hc
    generalize ky_fo c = v at *
    generalize ky_of ((ps_chars S u).take i) = p at *
    generalize ky_r (ky_st p c) = L2 at *
    generalize ky_r p = L at *
    have hLi : L.length ≤ i := by omega
    rcases hst with ⟨a1, a2, rfl⟩ | ⟨a1, rfl⟩
    · have e0 : fn_X8_makeKey_B4b m (fn_X8_makeKey_B4 m f) τ (nI u) (nI L2.length) (nI i) = fn_X8_makeKey_B4 m f τ (nI u) (nI L2.length) (nI (i + 1)) := by
        unfold fn_X8_makeKey_B4b fn_X8_makeKey_B59 fn_X8_makeKey_B63 fn_X8_makeKey_B64 fn_X8_makeKey_B87
        rw [a1] at hfo
        by_cases h0 : L2.length = 0
        · rw [h0]
          simp (disch := omega) only [lit, nI_add, nI_mul, s_sub, a_le, a_lt, a_eq, sg_lt, sg_xN, s_ib, Option.bind_some, not_false_eq_true, true_and, if_pos, if_neg, ↓reduceIte, Nat.zero_add, Nat.add_zero, Nat.zero_le, hr.2.1, hch, hfo]
        · have e2 := a2.resolve_left h0
          have e1 := hL (L2.length - 1) (by omega)
          rw [e2, show 20 * u + (L2.length - 1) = 20 * u + L2.length - 1 by omega] at e1
          simp (disch := omega) only [lit, nI_add, nI_mul, s_sub, a_le, a_lt, a_eq, sg_lt, sg_xN, s_ib, Option.bind_some, not_false_eq_true, true_and, if_pos, if_neg, ↓reduceIte, Nat.zero_add, Nat.add_zero, Nat.zero_le, hr.2.1, hch, hfo, e1]
      rw [e0]
      exact hih τ hr hL
    · have e0 : fn_X8_makeKey_B4b m (fn_X8_makeKey_B4 m f) τ (nI u) (nI L.length) (nI i) = fn_X8_makeKey_B4 m f (sg_w τ (m + 13) (20 * u + L.length) (nI v)) (nI u) (nI (L ++ [v]).length) (nI (i + 1)) := by
        rw [List.length_append]
        show _ = fn_X8_makeKey_B4 m f _ (nI u) (nI (L.length + 1)) (nI (i + 1))
        unfold fn_X8_makeKey_B4b fn_X8_makeKey_B59 fn_X8_makeKey_B63 fn_X8_makeKey_B64 fn_X8_makeKey_B87
        by_cases hv : v = 32
        · have hn : ¬ (L.length = 0 ∨ L.getD (L.length - 1) 0 = 32) := fun q => a1 ⟨hv, q⟩
          have e1 := hL (L.length - 1) (by omega)
          have e2 := h128 (L.length - 1) (by omega)
          rw [show 20 * u + (L.length - 1) = 20 * u + L.length - 1 by omega] at e1
          simp (disch := omega) only [lit, nI_add, nI_mul, s_sub, a_le, a_lt, a_eq, sg_lt, sg_xN, s_ib, Option.bind_some, not_false_eq_true, true_and, if_pos, if_neg, ↓reduceIte, Nat.zero_add, Nat.add_zero, Nat.zero_le, hr.2.1, hch, hfo, e1]
        · simp (disch := omega) only [lit, nI_add, nI_mul, s_sub, a_le, a_lt, a_eq, sg_lt, sg_xN, s_ib, Option.bind_some, not_false_eq_true, true_and, if_pos, if_neg, ↓reduceIte, Nat.zero_add, Nat.add_zero, Nat.zero_le, hr.2.1, hch, hfo]
      rw [e0]
      obtain ⟨τ', b1, b2, b3⟩ := hih (sg_w τ (m + 13) (20 * u + L.length) (nI v)) ⟨by rw [sg_wga (by omega)]; exact hr.1, by rw [sg_wga (by omega)]; exact hr.2.1, fun j hj => by rw [sg_wga (by omega)]; exact hr.2.2 j hj⟩ (fun j hj => by
        rw [List.length_append] at hj
        have hj2 : j < L.length + 1 := hj
        by_cases h1 : j < L.length
        · rw [sg_wgk (by omega), gd_l h1]; exact hL j h1
        · have : j = L.length := by omega
          subst this
          rw [sg_wgs, gd_r])
      refine ⟨τ', b1, b2, fun z k h1 h2 => ?_⟩
      rw [b3 z k h1 h2, sg_wg, if_neg (by omega)]
theorem mkM {m u : Nat} {τ : Sg} {S : Sh} (hu : u < 192) (hp : ps_sub S u) (hr : rm_sub m τ S u) : ∃ τ', fn_X8_makeKey m τ (nI u) = some τ' ∧ kyM m τ' S u ∧ fY m u τ τ' :=
  mk_M hu hp (S 10 u) 0 sg_N τ (by omega) (by have := hp.2.1; show _ < 1000; omega) hr (fun j hj => absurd hj (Nat.not_lt_zero j))
