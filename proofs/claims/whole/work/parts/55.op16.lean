-- ===== digits and pieces of a written record =====
theorem s_div {a b : Nat} (ha : a < 2 ^ 31) (h0 : 0 < b) (hb : b < 2 ^ 31) : nI a / nI b = nI (a / b) := pk_div ha h0 hb
theorem s_rem {a b : Nat} (ha : a < 2 ^ 31) (h0 : 0 < b) (hb : b < 2 ^ 31) : nI a - nI a / nI b * nI b = nI (a % b) := pk_rem ha h0 hb
def dg (v : Nat) : Nat → Nat
  | 0 => v % 10
  | k + 1 => dg (v / 10) k
theorem dg_lt : ∀ (k v : Nat), dg v k < 10
  | 0, v => Nat.mod_lt _ (by decide)
  | k + 1, v => dg_lt k (v / 10)
theorem dg_C {K : Nat} (hK : K < 100) : ∀ (d i f v : Nat), i + d = K → d < f → v < 2 ^ 31 → fn_X7_digitBefore_B4 f (nI K) (nI v) (nI i) = some (nI (48 + dg v d)) := by
  intro d
  induction d with
  | zero =>
    intro i f v hd hf hv
    obtain ⟨f, rfl⟩ : ∃ g, f = g + 1 := ⟨f - 1, by omega⟩
    show fn_X7_digitBefore_B4b _ (nI K) (nI v) (nI i) = _
    unfold fn_X7_digitBefore_B4b
    rw [show nI v - nI v / 10 * 10 = nI (v % 10) from s_rem (b := 10) hv (by decide) (by decide)]
    simp (disch := omega) only [lit, nI_add, nI_mul, s_sub, a_le, a_lt, a_eq, sg_lt, sg_xN, s_ib, Option.bind_some, not_false_eq_true, true_and, if_pos, if_neg, ↓reduceIte, Nat.zero_add, Nat.add_zero, Nat.zero_le, dg]
  | succ d ih =>
    intro i f v hd hf hv
    obtain ⟨f, rfl⟩ : ∃ g, f = g + 1 := ⟨f - 1, by omega⟩
    show fn_X7_digitBefore_B4b _ (nI K) (nI v) (nI i) = _
    unfold fn_X7_digitBefore_B4b
    simp (disch := omega) only [lit, nI_add, nI_mul, s_sub, a_le, a_lt, a_eq, sg_lt, sg_xN, s_ib, Option.bind_some, not_false_eq_true, true_and, if_pos, if_neg, ↓reduceIte, Nat.zero_add, Nat.add_zero, Nat.zero_le, s_div, dg]
    exact ih (i + 1) f (v / 10) (by omega) (by omega) (by omega)
theorem dg_M {K : Nat} (hK : K < 100) : ∀ (d i f v : Nat), i + d = K → d < f → v < 2 ^ 31 → fn_X8_digitOf_B7 f (nI K) (nI v) (nI i) = some (nI (dg v d)) := by
  intro d
  induction d with
  | zero =>
    intro i f v hd hf hv
    obtain ⟨f, rfl⟩ : ∃ g, f = g + 1 := ⟨f - 1, by omega⟩
    show fn_X8_digitOf_B7b _ (nI K) (nI v) (nI i) = _
    unfold fn_X8_digitOf_B7b
    rw [show nI v - nI v / 10 * 10 = nI (v % 10) from s_rem (b := 10) hv (by decide) (by decide)]
    simp (disch := omega) only [lit, nI_add, nI_mul, s_sub, a_le, a_lt, a_eq, sg_lt, sg_xN, s_ib, Option.bind_some, not_false_eq_true, true_and, if_pos, if_neg, ↓reduceIte, Nat.zero_add, Nat.add_zero, Nat.zero_le, dg]
  | succ d ih =>
    intro i f v hd hf hv
    obtain ⟨f, rfl⟩ : ∃ g, f = g + 1 := ⟨f - 1, by omega⟩
    show fn_X8_digitOf_B7b _ (nI K) (nI v) (nI i) = _
    unfold fn_X8_digitOf_B7b
    simp (disch := omega) only [lit, nI_add, nI_mul, s_sub, a_le, a_lt, a_eq, sg_lt, sg_xN, s_ib, Option.bind_some, not_false_eq_true, true_and, if_pos, if_neg, ↓reduceIte, Nat.zero_add, Nat.add_zero, Nat.zero_le, s_div, dg]
    exact ih (i + 1) f (v / 10) (by omega) (by omega) (by omega)
theorem dC {k v : Nat} (hk : k < 100) (hv : v < 2 ^ 31) : fn_X7_digitBefore (nI k) (nI v) = some (nI (48 + dg v k)) := dg_C hk k 0 sg_N v (by omega) (by show _ < 1000; omega) hv
theorem dM {K i v : Nat} (hK : K < 100) (hi : i < K) (hv : v < 2 ^ 31) : fn_X8_digitOf (nI v) (nI K) (nI i) = some (nI (dg v (K - 1 - i))) := by
  unfold fn_X8_digitOf sg_lt
  rw [show nI i + 1 = nI (i + 1) from nI_1 i]
  exact dg_M hK _ (i + 1) sg_N v (by omega) (by show _ < 1000; omega) hv
def numl (v : Nat) : Nat → List Nat
  | 0 => []
  | d + 1 => (48 + dg v d) :: numl v d
theorem numl_len (v : Nat) : ∀ d, (numl v d).length = d
  | 0 => rfl
  | d + 1 => congrArg (· + 1) (numl_len v d)
def al (L : List Nat) : Prop := ∀ c ∈ L, c < 128
theorem al_nil : al [] := fun _ h => nomatch h
theorem al_cons {c : Nat} {L : List Nat} (h : c < 128) (h2 : al L) : al (c :: L) := fun d hd => by
  rcases List.mem_cons.mp hd with e | e
  · subst e; exact h
  · exact h2 d e
theorem al_app {L M : List Nat} (h : al L) (h2 : al M) : al (L ++ M) := fun d hd => (List.mem_append.mp hd).elim (h d) (h2 d)
theorem numl_al (v : Nat) : ∀ d, al (numl v d)
  | 0 => al_nil
  | d + 1 => al_cons (by have := dg_lt d v; omega) (numl_al v d)
theorem num_C {b v : Nat} (hv : v < 2 ^ 31) : ∀ (d f : Nat) (σ : Sg) (L : List Nat), d < f → d < 100 → tC b σ L → L.length + d ≤ 600 → ∃ σ', fn_X6_addNumber_B4 b f σ (nI v) (nI d - 1) = some σ' ∧ tC b σ' (L ++ numl v d) ∧ fC b σ σ' := by
  intro d
  induction d with
  | zero =>
    intro f σ L hf h9 h hL
    obtain ⟨f, rfl⟩ : ∃ g, f = g + 1 := ⟨f - 1, by omega⟩
    refine ⟨σ, ?_, by rw [show numl v 0 = [] from rfl, List.append_nil]; exact h, fC.rf⟩
    show fn_X6_addNumber_B4b b _ σ (nI v) (nI 0 - 1) = _
    unfold fn_X6_addNumber_B4b
    rw [if_pos (by decide)]
  | succ d ih =>
    intro f σ L hf h9 h hL
    obtain ⟨f, rfl⟩ : ∃ g, f = g + 1 := ⟨f - 1, by omega⟩
    have hd := dg_lt d v
    obtain ⟨σ1, a1, a2, a3⟩ := add_C (c := 48 + dg v d) h (by omega) (by omega)
    obtain ⟨σ2, b1, b2, b3⟩ := ih f σ1 _ (by omega) (by omega) a2 (by rw [List.length_append]; show L.length + 1 + d ≤ 600; omega)
    refine ⟨σ2, ?_, by rw [show numl v (d + 1) = [48 + dg v d] ++ numl v d from rfl, ← List.append_assoc]; exact b2, a3.tr b3⟩
    show fn_X6_addNumber_B4b b _ σ (nI v) (nI (d + 1) - 1) = _
    unfold fn_X6_addNumber_B4b
    rw [nI_pred, if_neg (nI_pos (by omega)), dC (by omega) hv, Option.bind_some, sg_icN (by omega), a1, Option.bind_some]
    unfold sg_lt
    rw [nI_s1]
    exact b1
theorem nuC {b v d : Nat} {σ : Sg} {L : List Nat} (hv : v < 2 ^ 31) (h9 : d < 100) (h : tC b σ L) (hL : L.length + d ≤ 600) : ∃ σ', fn_X6_addNumber b σ (nI v) (nI d) = some σ' ∧ tC b σ' (L ++ numl v d) ∧ fC b σ σ' := num_C hv d sg_N σ L (by show _ < 1000; omega) h9 h hL
theorem num_M {m v K : Nat} (hv : v < 2 ^ 31) (hK : K < 100) : ∀ (d i f : Nat) (τ : Sg) (L : List Nat), i + d = K → d < f → tM m τ L → L.length + d ≤ 600 → ∃ τ', fn_X8_putNumber_B2 m f τ (nI v) (nI K) (nI i) = some τ' ∧ tM m τ' (L ++ numl v d) ∧ fM m τ τ' := by
  intro d
  induction d with
  | zero =>
    intro i f τ L hi hf h hL
    obtain ⟨f, rfl⟩ : ∃ g, f = g + 1 := ⟨f - 1, by omega⟩
    refine ⟨τ, ?_, by rw [show numl v 0 = [] from rfl, List.append_nil]; exact h, fM.rf⟩
    show fn_X8_putNumber_B2b m _ τ (nI v) (nI K) (nI i) = _
    unfold fn_X8_putNumber_B2b
    simp (disch := omega) only [lit, nI_add, nI_mul, s_sub, a_le, a_lt, a_eq, sg_lt, sg_xN, s_ib, Option.bind_some, not_false_eq_true, true_and, if_pos, if_neg, ↓reduceIte, Nat.zero_add, Nat.add_zero, Nat.zero_le]
  | succ d ih =>
    intro i f τ L hi hf h hL
    obtain ⟨f, rfl⟩ : ∃ g, f = g + 1 := ⟨f - 1, by omega⟩
    obtain ⟨τ1, a1, a2, a3⟩ := put_M (c := 48 + dg v d) h (by omega)
    obtain ⟨τ2, b1, b2, b3⟩ := ih (i + 1) f τ1 _ (by omega) (by omega) a2 (by rw [List.length_append]; show L.length + 1 + d ≤ 600; omega)
    refine ⟨τ2, ?_, by rw [show numl v (d + 1) = [48 + dg v d] ++ numl v d from rfl, ← List.append_assoc]; exact b2, a3.tr b3⟩
    show fn_X8_putNumber_B2b m _ τ (nI v) (nI K) (nI i) = _
    unfold fn_X8_putNumber_B2b
    simp (disch := omega) only [lit, nI_add, nI_mul, s_sub, a_le, a_lt, a_eq, sg_lt, sg_xN, s_ib, Option.bind_some, not_false_eq_true, true_and, if_pos, if_neg, ↓reduceIte, Nat.zero_add, Nat.add_zero, Nat.zero_le, dM hK (show i < K by omega) hv, show K - 1 - i = d by omega, a1]
    exact b1
theorem nuM {m v d : Nat} {τ : Sg} {L : List Nat} (hv : v < 2 ^ 31) (h9 : d < 100) (h : tM m τ L) (hL : L.length + d ≤ 600) : ∃ τ', fn_X8_putNumber m τ (nI v) (nI d) = some τ' ∧ tM m τ' (L ++ numl v d) ∧ fM m τ τ' := num_M hv h9 d 0 sg_N τ L (by omega) (by show _ < 1000; omega) h hL
-- the pieces
def chl (S : Sh) (u : Nat) : Nat → Nat → List Nat
  | _, 0 => []
  | i, d + 1 => S 11 (20 * u + i) :: chl S u (i + 1) d
theorem chl_len (S : Sh) (u : Nat) : ∀ d i, (chl S u i d).length = d
  | 0, _ => rfl
  | d + 1, i => congrArg (· + 1) (chl_len S u d (i + 1))
theorem chl_al {S : Sh} {u : Nat} (h : ps_sub S u) : ∀ d i, i + d ≤ S 10 u → al (chl S u i d)
  | 0, _, _ => al_nil
  | d + 1, i, hi => al_cons (h.2.2 i (by omega)) (chl_al h d (i + 1) (by omega))
def subl (S : Sh) (q : Nat) : Nat → Nat → List Nat
  | _, 0 => []
  | k, d + 1 => 31 :: S 9 (4 * q + k) :: (chl S (4 * q + k) 0 (S 10 (4 * q + k)) ++ subl S q (k + 1) d)
def fszl (S : Sh) (q e : Nat) : Nat → Nat → Nat
  | _, 0 => 0
  | k, d + 1 => e + S 10 (4 * q + k) + fszl S q e (k + 1) d
theorem subl_len (S : Sh) (q : Nat) : ∀ d k, (subl S q k d).length = fszl S q 2 k d
  | 0, _ => rfl
  | d + 1, k => by
    show ((chl S (4 * q + k) 0 (S 10 (4 * q + k)) ++ subl S q (k + 1) d).length + 1) + 1 = 2 + S 10 (4 * q + k) + fszl S q 2 (k + 1) d
    rw [List.length_append, chl_len, subl_len S q d (k + 1)]
    omega
theorem subl_al {S : Sh} {q : Nat} (h : ∀ s, s < S 8 q → ps_sub S (4 * q + s)) : ∀ d k, k + d ≤ S 8 q → al (subl S q k d)
  | 0, _, _ => al_nil
  | d + 1, k, hk => al_cons (by decide) (al_cons (h k (by omega)).1 (al_app (chl_al (h k (by omega)) _ _ (by omega)) (subl_al h d (k + 1) (by omega))))
theorem fszl_le {S : Sh} {q e : Nat} (h : ∀ s, s < S 8 q → ps_sub S (4 * q + s)) (he : e ≤ 2) : ∀ d k, k + d ≤ S 8 q → fszl S q e k d ≤ 22 * d
  | 0, _, _ => by show 0 ≤ _; omega
  | d + 1, k, hk => by
    have h1 := fszl_le h he d (k + 1) (by omega)
    have h2 := (h k (by omega)).2.1
    show e + S 10 (4 * q + k) + fszl S q e (k + 1) d ≤ _
    omega
def fldl (S : Sh) (q : Nat) : List Nat := if S 5 q < 10 then chl S (4 * q) 0 (S 10 (4 * q)) ++ [30] else S 6 q :: S 7 q :: (subl S q 0 (S 8 q) ++ [30])
def fsz (S : Sh) (q : Nat) : Nat := if S 5 q < 10 then S 10 (4 * q) + 1 else 3 + fszl S q 2 0 (S 8 q)
theorem fldl_len (S : Sh) (q : Nat) : (fldl S q).length = fsz S q := by
  unfold fldl fsz
  split
  · rw [List.length_append, chl_len]; rfl
  · show ((subl S q 0 (S 8 q) ++ [30]).length + 1) + 1 = _
    rw [List.length_append, subl_len]
    show fszl S q 2 0 (S 8 q) + 1 + 1 + 1 = _
    omega
theorem fldl_al {S : Sh} {q : Nat} (h : ps_fld S q) : al (fldl S q) := by
  unfold fldl
  have hs := h.2.2.2.2.2.2.2
  split
  · exact al_app (chl_al (hs 0 (by have := h.2.2.2.2.1; omega)) _ _ (by show 0 + S 10 (4 * q) ≤ S 10 (4 * q + 0); rw [Nat.add_zero]; omega)) (al_cons (by decide) al_nil)
  · exact al_cons h.2.2.1 (al_cons h.2.2.2.1 (al_app (subl_al hs _ _ (by omega)) (al_cons (by decide) al_nil)))
theorem fsz_le {S : Sh} {q : Nat} (h : ps_fld S q) : fsz S q ≤ 91 := by
  unfold fsz
  have hs := h.2.2.2.2.2.2.2
  have h4 := h.2.2.2.2.2.1
  split
  · have := (hs 0 (by have := h.2.2.2.2.1; omega)).2.1
    rw [Nat.add_zero] at this
    omega
  · have := fszl_le hs (Nat.le_refl 2) (S 8 q) 0 (by omega)
    omega
def fldsl (S : Sh) (r : Nat) : Nat → Nat → List Nat
  | _, 0 => []
  | f, d + 1 => fldl S (8 * r + f) ++ fldsl S r (f + 1) d
def rsz (S : Sh) (r : Nat) : Nat → Nat → Nat
  | _, 0 => 0
  | f, d + 1 => fsz S (8 * r + f) + rsz S r (f + 1) d
theorem fldsl_len (S : Sh) (r : Nat) : ∀ d f, (fldsl S r f d).length = rsz S r f d
  | 0, _ => rfl
  | d + 1, f => by
    show (fldl S (8 * r + f) ++ fldsl S r (f + 1) d).length = fsz S (8 * r + f) + rsz S r (f + 1) d
    rw [List.length_append, fldl_len, fldsl_len S r d (f + 1)]
theorem fldsl_al {S : Sh} {r : Nat} (h : ps_rec S r) : ∀ d f, f + d ≤ S 4 r → al (fldsl S r f d)
  | 0, _, _ => al_nil
  | d + 1, f, hf => al_app (fldl_al (h.2.2 f (by omega))) (fldsl_al h d (f + 1) (by omega))
theorem rsz_le {S : Sh} {r : Nat} (h : ps_rec S r) : ∀ d f, f + d ≤ S 4 r → rsz S r f d ≤ 91 * d
  | 0, _, _ => by show 0 ≤ _; omega
  | d + 1, f, hf => by
    have h1 := rsz_le h d (f + 1) (by omega)
    have h2 := fsz_le (h.2.2 f (by omega))
    show fsz S (8 * r + f) + rsz S r (f + 1) d ≤ _
    omega
def dirl (S : Sh) (r : Nat) : Nat → Nat → Nat → List Nat
  | _, _, 0 => []
  | st, f, d + 1 => numl (S 5 (8 * r + f)) 3 ++ (numl (fsz S (8 * r + f)) 4 ++ (numl st 5 ++ dirl S r (st + fsz S (8 * r + f)) (f + 1) d))
theorem dirl_len (S : Sh) (r : Nat) : ∀ d st f, (dirl S r st f d).length = 12 * d
  | 0, _, _ => rfl
  | d + 1, st, f => by
    show (numl (S 5 (8 * r + f)) 3 ++ (numl (fsz S (8 * r + f)) 4 ++ (numl st 5 ++ dirl S r (st + fsz S (8 * r + f)) (f + 1) d))).length = _
    rw [List.length_append, List.length_append, List.length_append, numl_len, numl_len, numl_len, dirl_len S r d]
    omega
theorem dirl_al (S : Sh) (r : Nat) : ∀ d st f, al (dirl S r st f d)
  | 0, _, _ => al_nil
  | d + 1, st, f => al_app (numl_al _ _) (al_app (numl_al _ _) (al_app (numl_al _ _) (dirl_al S r d _ _)))
def lets (S : Sh) (r : Nat) : Nat → Nat → List Nat
  | _, 0 => []
  | i, d + 1 => S 3 (8 * r + i) :: lets S r (i + 1) d
theorem lets_len (S : Sh) (r : Nat) : ∀ d i, (lets S r i d).length = d
  | 0, _ => rfl
  | d + 1, i => congrArg (· + 1) (lets_len S r d (i + 1))
theorem lets_al {S : Sh} {r : Nat} (h : ps_rec S r) : ∀ d i, i + d ≤ 8 → al (lets S r i d)
  | 0, _, _ => al_nil
  | d + 1, i, hi => al_cons (h.2.1 i (by omega)) (lets_al h d (i + 1) (by omega))
def t_f (S : Sh) (r f d : Nat) : List Nat := fldsl S r f d ++ [29]
def t_d (S : Sh) (r st f d : Nat) : List Nat := dirl S r st f d ++ ([30] ++ t_f S r 0 (S 4 r))
def t_l (S : Sh) (r i d : Nat) : List Nat := lets S r i d ++ (numl 4500 4 ++ t_d S r 0 0 (S 4 r))
def t_k (S : Sh) (r i d : Nat) : List Nat := lets S r i d ++ (numl 22 2 ++ (numl (25 + 12 * S 4 r) 5 ++ t_l S r 5 3))
def tot (S : Sh) (r : Nat) : Nat := 26 + 12 * S 4 r + rsz S r 0 (S 4 r)
def recl (S : Sh) (r : Nat) : List Nat := numl (tot S r) 5 ++ t_k S r 0 5
theorem t_f_len (S : Sh) (r f d : Nat) : (t_f S r f d).length = rsz S r f d + 1 := by
  unfold t_f
  rw [List.length_append, fldsl_len]; rfl
theorem t_d_len (S : Sh) (r st f d : Nat) : (t_d S r st f d).length = 12 * d + 2 + rsz S r 0 (S 4 r) := by
  unfold t_d
  rw [List.length_append, List.length_append, dirl_len, t_f_len]
  show 12 * d + (1 + _) = _
  omega
theorem t_l_len (S : Sh) (r i d : Nat) : (t_l S r i d).length = d + 6 + 12 * S 4 r + rsz S r 0 (S 4 r) := by
  unfold t_l
  rw [List.length_append, List.length_append, lets_len, numl_len, t_d_len]
  omega
theorem t_k_len (S : Sh) (r i d : Nat) : (t_k S r i d).length = d + 16 + 12 * S 4 r + rsz S r 0 (S 4 r) := by
  unfold t_k
  rw [List.length_append, List.length_append, List.length_append, lets_len, numl_len, numl_len, t_l_len]
  omega
theorem recl_len (S : Sh) (r : Nat) : (recl S r).length = tot S r := by
  unfold recl tot
  rw [List.length_append, numl_len, t_k_len]
  omega
theorem recl_al {S : Sh} {r : Nat} (h : ps_rec S r) : al (recl S r) :=
  al_app (numl_al _ _) (al_app (lets_al h _ _ (by omega)) (al_app (numl_al _ _) (al_app (numl_al _ _) (al_app (lets_al h _ _ (by omega)) (al_app (numl_al _ _) (al_app (dirl_al S r _ _ _) (al_app (al_cons (by decide) al_nil) (al_app (fldsl_al h _ _ (by omega)) (al_cons (by decide) al_nil)))))))))
