-- ===== find: the set of records =====
theorem sh_1 : ∀ r, r < 6 → (1 : Int32) <<< (nI r &&& 31) = nI (2 ^ r) := by decide +kernel
theorem or_1 : ∀ y, y < 64 → ∀ r, r < 6 → nI y ||| nI (2 ^ r) = nI (y ||| 2 ^ r) := by decide +kernel
theorem fi73 {b how : Nat} {t c : Int32} {σ : Sg} {S : Sh} (hok : ps_ok S) (hh : how ≤ 2) (hcA : cA b σ S) (hw : kX0 σ (b + 8) (kyW S)) : ∀ (d r g y : Nat), r + d = S 2 0 → d < g → y < 2 ^ r → (∀ i, i < r → (y.testBit i = true ↔ ∃ u, u / 32 = i ∧ hit S t c how u)) → ∃ y', fn_X7_find_B73 b g σ t c (nI how) (nI y) (nI r) = some (nI y', σ) ∧ y' < 2 ^ S 2 0 ∧ ∀ i, i < S 2 0 → (y'.testBit i = true ↔ ∃ u, u / 32 = i ∧ hit S t c how u) := by
  have a1 := hok.2.2.1
  intro d
  induction d with
  | zero =>
    intro r g y hr hg hy hb
    obtain ⟨g, rfl⟩ : ∃ e, g = e + 1 := ⟨g - 1, by omega⟩
    have hr' : r = S 2 0 := by omega
    rw [hr'] at hy hb
    refine ⟨y, ?_, hy, hb⟩
    show fn_X7_find_B73b b (fn_X7_find_B73 b g) σ t c (nI how) (nI y) (nI r) = _
    unfold fn_X7_find_B73b
    rw [hcA.1, if_pos (nI_le (by omega) (by omega))]
  | succ d ih =>
    intro r g y hr hg hy hb
    obtain ⟨g, rfl⟩ : ∃ e, g = e + 1 := ⟨g - 1, by omega⟩
    have hr2 : r < S 2 0 := by omega
    have h8 := (hok.2.2.2.1 r hr2).1
    obtain ⟨v, v1, v2⟩ := fcC (t := t) (c := c) hok hh hr2 hcA hw (S 4 r) 0 sg_N (by omega) (by show _ < 1000; omega)
    have hv : bv v (∃ u, u / 32 = r ∧ hit S t c how u) := bv_iff v2 ⟨fun ⟨u, q1, q2, q3⟩ => ⟨u, by omega, q3⟩, fun ⟨u, q1, q2⟩ => ⟨u, by omega, by omega, q2⟩⟩
    have e1 : fn_X0_fits b σ (b + 10 + 147 * r) t c (b + 8) (nI how) = some v := v1
    have e0 : ∀ w : Int32, fn_X7_find_B111 b (fn_X7_find_B73 b g) σ t c (nI how) w (nI r) = fn_X7_find_B73 b g σ t c (nI how) w (nI (r + 1)) := fun w => by
      unfold fn_X7_find_B111
      exact congrArg _ (nI_1 r)
    show ∃ y', fn_X7_find_B73b b (fn_X7_find_B73 b g) σ t c (nI how) (nI y) (nI r) = some (nI y', σ) ∧ _
    unfold fn_X7_find_B73b
    rw [hcA.1, if_neg (nI_ge hr2 (by omega)), if_pos (sg_ibN (by omega) (by decide)), sg_xN (by omega), e1, Option.bind_some]
    rcases hv with ⟨rfl, hv⟩ | ⟨rfl, hv⟩
    · rw [if_pos rfl, e0]
      refine ih (r + 1) g y (by omega) (by omega) (Nat.lt_of_lt_of_le hy (Nat.pow_le_pow_right (by omega) (by omega))) (fun i hi => ?_)
      by_cases e : i = r
      · rw [e, Nat.testBit_lt_two_pow hy]
        exact ⟨fun q => absurd q (by decide), fun q => absurd q hv⟩
      · exact hb i (by omega)
    · rw [if_neg (show ¬ (1 : Int32) = 0 by decide), sh_1 r (by omega)]
      unfold sg_lt
      simp only []
      rw [nI_add, e0]
      refine ih (r + 1) g (y + 2 ^ r) (by omega) (by omega) (by rw [Nat.pow_succ]; omega) (fun i hi => ?_)
      rw [Nat.add_comm y]
      by_cases e : i = r
      · rw [e, Nat.testBit_two_pow_add_eq, Nat.testBit_lt_two_pow hy]
        exact ⟨fun _ => hv, fun _ => rfl⟩
      · rw [Nat.testBit_two_pow_add_gt (by omega)]
        exact hb i (by omega)
def bsM (S : Sh) (t c : Int32) (how y U : Nat) : Prop := y < 64 ∧ ∀ i, i < 6 → (y.testBit i = true ↔ ∃ u, u < U ∧ u / 32 = i ∧ hit S t c how u)
theorem bsM_no {S : Sh} {t c : Int32} {how y U V : Nat} (h : bsM S t c how y U) (hU : U ≤ V) (hn : ∀ u, U ≤ u → u < V → ¬ hit S t c how u) : bsM S t c how y V :=
  ⟨h.1, fun i hi => ⟨fun q => let ⟨u, q1, q2⟩ := (h.2 i hi).mp q; ⟨u, by omega, q2⟩, fun ⟨u, q1, q2, q3⟩ => (h.2 i hi).mpr ⟨u, by
    by_cases e : u < U
    · exact e
    · exact absurd q3 (hn u (by omega) q1), q2, q3⟩⟩⟩
theorem bsM_yes {S : Sh} {t c : Int32} {how y u : Nat} (h : bsM S t c how y u) (hu : u < 192) (hy : hit S t c how u) : bsM S t c how (y ||| 2 ^ (u / 32)) (u + 1) := by
  refine ⟨Nat.or_lt_two_pow (n := 6) h.1 (Nat.lt_of_le_of_lt (Nat.pow_le_pow_right (by omega) (show u / 32 ≤ 5 by omega)) (by decide)), fun i hi => ?_⟩
  rw [Nat.testBit_or, Nat.testBit_two_pow, Bool.or_eq_true, decide_eq_true_iff, h.2 i hi]
  constructor
  · rintro (⟨w, q1, q2⟩ | q)
    · exact ⟨w, by omega, q2⟩
    · exact ⟨u, by omega, q, hy⟩
  · rintro ⟨w, q1, q2, q3⟩
    by_cases e : w = u
    · right; omega
    · exact Or.inl ⟨w, by omega, q2, q3⟩
def fF (m : Nat) (τ τ' : Sg) : Prop := ∀ z k, z ≠ m + 13 → z ≠ m + 14 → τ'.1 z k = τ.1 z k
theorem fF.rf {m : Nat} {τ : Sg} : fF m τ τ := fun _ _ _ _ => rfl
theorem fF.tr {m : Nat} {τ τ1 τ2 : Sg} (h : fF m τ τ1) (h2 : fF m τ1 τ2) : fF m τ τ2 := fun z k a c => (h2 z k a c).trans (h z k a c)
theorem fF_HM {m : Nat} {τ τ' : Sg} (h : fF m τ τ') : fHM m τ τ' := fun z k _ a b _ => h z k a b
theorem fF_W {m : Nat} {τ τ' : Sg} {S : Sh} (h : fF m τ τ') (hw : wM m τ S) : wM m τ' S := ⟨by rw [h _ _ (by omega) (by omega)]; exact hw.1, fun i hi => by rw [h _ _ (by omega) (by omega)]; exact hw.2 i hi⟩
theorem fi84 {m q how : Nat} {t c : Int32} {S : Sh} {z32 : Sg → Int32 → Int32 → Int32 → Int32 → Int32 → Option (Int32 × Sg)} (hok : ps_ok S) (hh : how ≤ 2) (hq48 : q < 48) (hq : isf S q) (ht : t = 0 ∨ nI (S 5 q) = t) : ∀ (d k g : Nat) (τ : Sg) (y : Nat), k + d = S 8 q → d < g → mA m τ S → wM m τ S → bsM S t c how y (4 * q + k) → ∃ τ' y', fn_X8_find_B84 m z32 g τ t c (nI how) (nI y) (nI q) 1 (nI (4 * q + k)) = z32 τ' t c (nI how) (nI y') (nI (q + 1)) ∧ bsM S t c how y' (4 * (q + 1)) ∧ fF m τ τ' := by
  have hF := isf_fld hok hq
  have a3 := hF.2.2.2.2.2.1
  intro d
  induction d with
  | zero =>
    intro k g τ y hk hg hm hw hb
    obtain ⟨g, rfl⟩ : ∃ e, g = e + 1 := ⟨g - 1, by omega⟩
    have h7 := (mA_fld hm hq).2.2.2.1
    refine ⟨τ, y, ?_, bsM_no hb (by omega) (fun u q1 q2 q3 => ?_), fF.rf⟩
    · show fn_X8_find_B84b m z32 (fn_X8_find_B84 m z32 g) τ t c (nI how) (nI y) (nI q) 1 (nI (4 * q + k)) = _
      unfold fn_X8_find_B84b fn_X8_find_B167
      simp (disch := omega) only [lit, nI_add, nI_mul, s_sub, a_le, a_lt, a_eq, sg_lt, sg_xN, s_ib, Option.bind_some, not_false_eq_true, true_and, if_pos, if_neg, ↓reduceIte, Nat.zero_add, Nat.add_zero, Nat.zero_le, h7]
    · have e := q3.2.2.1
      rw [show u / 4 = q by omega] at e
      omega
  | succ d ih =>
    intro k g τ y hk hg hm hw hb
    obtain ⟨g, rfl⟩ : ∃ e, g = e + 1 := ⟨g - 1, by omega⟩
    have h7 := (mA_fld hm hq).2.2.2.1
    have hs := (mA_fld hm hq).2.2.2.2 k (by omega)
    have hsb := hF.2.2.2.2.2.2.2 k (by omega)
    have hu : 4 * q + k < 192 := by omega
    obtain ⟨τ1, b1, b2, b3⟩ := mkM hu hsb hs
    have f1 : fF m τ τ1 := fun z w h1 h2 => b3 z w (by omega) (by omega)
    have hm1 := mA_f (fF_HM f1) hm
    have hw1 := fF_W f1 hw
    have hs1 := (mA_fld hm1 hq).2.2.2.2 k (by omega)
    have e1 := hcY (c := c) hu hs1.1
    have hd4 : (4 * q + k) / 4 = q := by omega
    have hm4 : (4 * q + k) % 4 = k := by omega
    have hno : ¬ hit S t c how (4 * q + k) → ∃ τ' y', fn_X8_find_B136 m z32 (fn_X8_find_B84 m z32 g) τ1 t c (nI how) (nI y) (nI q) 1 (nI (4 * q + k)) = z32 τ' t c (nI how) (nI y') (nI (q + 1)) ∧ bsM S t c how y' (4 * (q + 1)) ∧ fF m τ τ' := fun hn => by
      obtain ⟨τ2, y2, c1, c2, c3⟩ := ih (k + 1) g τ1 y (by omega) (by omega) hm1 hw1 (bsM_no hb (by omega) (fun u q1 q2 => by rw [show u = 4 * q + k by omega]; exact hn))
      refine ⟨τ2, y2, ?_, c2, f1.tr c3⟩
      rw [← c1]
      unfold fn_X8_find_B136 fn_X8_find_B137 fn_X8_find_B159
      rw [if_pos rfl]
      exact congrArg _ (nI_1 (4 * q + k))
    have hyes : hit S t c how (4 * q + k) → ∃ τ' y', fn_X8_find_B137 m z32 (fn_X8_find_B84 m z32 g) τ1 t c (nI how) (nI y) (nI q) 1 (nI (4 * q + k)) 1 = z32 τ' t c (nI how) (nI y') (nI (q + 1)) ∧ bsM S t c how y' (4 * (q + 1)) ∧ fF m τ τ' := fun hn => by
      obtain ⟨τ2, y2, c1, c2, c3⟩ := ih (k + 1) g τ1 (y ||| 2 ^ ((4 * q + k) / 32)) (by omega) (by omega) hm1 hw1 (bsM_yes hb hu hn)
      refine ⟨τ2, y2, ?_, c2, f1.tr c3⟩
      rw [← c1]
      unfold fn_X8_find_B137 fn_X8_find_B159
      rw [if_neg (show ¬ (1 : Int32) = 0 by decide), show nI q / 8 = nI (q / 8) from s_div (b := 8) (by omega) (by omega) (by omega), sh_1 (q / 8) (by omega), or_1 y hb.1 (q / 8) (by omega), show (4 * q + k) / 32 = q / 8 by omega]
      exact congrArg _ (nI_1 (4 * q + k))
    show ∃ τ' y', fn_X8_find_B84b m z32 (fn_X8_find_B84 m z32 g) τ t c (nI how) (nI y) (nI q) 1 (nI (4 * q + k)) = z32 τ' t c (nI how) (nI y') (nI (q + 1)) ∧ _
    unfold fn_X8_find_B84b
    rw [if_neg (show ¬ (1 : Int32) = 0 by decide), if_pos (sg_ibN (by omega) (by decide)), sg_xN (by omega), h7, nI_4q, if_neg (nI_ge (by omega) (by omega)), b1, Option.bind_some, e1, Option.bind_some]
    by_cases hc : c = 42 ∨ c = nI (S 9 (4 * q + k))
    · rw [if_pos hc, if_neg (show ¬ (1 : Int32) = 0 by decide)]
      obtain ⟨w, w1, w2⟩ := ifM hh hu hsb hok b2 hw1
      rw [w1, Option.bind_some]
      rcases w2 with ⟨rfl, w3⟩ | ⟨rfl, w3⟩
      · rw [if_pos rfl]; exact hno (fun q => w3 q.2.2.2.2)
      · rw [if_neg (show ¬ (1 : Int32) = 0 by decide)]
        exact hyes ⟨by rw [hd4]; exact hq, by rw [hd4]; exact ht, by rw [hm4, hd4]; omega, hc, w3⟩
    · rw [if_neg hc, if_pos rfl]; exact hno (fun q => hc q.2.2.2.1)
theorem fi76 {m q : Nat} {τ : Sg} {t c h y : Int32} {z32 : Sg → Int32 → Int32 → Int32 → Int32 → Int32 → Option (Int32 × Sg)} : fn_X8_find_B75 m z32 τ t c h y (nI q) = z32 τ t c h y (nI (q + 1)) := by
  show fn_X8_find_B84b m z32 (fn_X8_find_B84 m z32 999) τ t c h y (nI q) 0 (4 * nI q) = _
  unfold fn_X8_find_B84b fn_X8_find_B167
  rw [if_pos rfl]
  exact congrArg _ (nI_1 q)
theorem fi32 {m how : Nat} {t c : Int32} {S : Sh} (hok : ps_ok S) (hh : how ≤ 2) : ∀ (d q g : Nat) (τ : Sg) (y : Nat), q + d = 48 → d < g → mA m τ S → wM m τ S → bsM S t c how y (4 * q) → ∃ τ' y', fn_X8_find_B32 m g τ t c (nI how) (nI y) (nI q) = some (nI y', τ') ∧ bsM S t c how y' 192 ∧ fF m τ τ' := by
  intro d
  induction d with
  | zero =>
    intro q g τ y hq hg hm hw hb
    obtain ⟨g, rfl⟩ : ∃ e, g = e + 1 := ⟨g - 1, by omega⟩
    have hq' : q = 48 := by omega
    refine ⟨τ, y, ?_, by rw [hq'] at hb; exact hb, fF.rf⟩
    show fn_X8_find_B32b m (fn_X8_find_B32 m g) τ t c (nI how) (nI y) (nI q) = _
    unfold fn_X8_find_B32b
    rw [if_pos (show (48 : Int32) ≤ nI q by rw [hq']; decide)]
  | succ d ih =>
    intro q g τ y hq hg hm hw hb
    obtain ⟨g, rfl⟩ : ∃ e, g = e + 1 := ⟨g - 1, by omega⟩
    have e1 := isfM (m := m) hok (show q < 48 by omega) hm
    have hno : (¬ (isf S q ∧ (t = 0 ∨ nI (S 5 q) = t))) → ∃ τ' y', fn_X8_find_B75 m (fn_X8_find_B32 m g) τ t c (nI how) (nI y) (nI q) = some (nI y', τ') ∧ bsM S t c how y' 192 ∧ fF m τ τ' := fun hn => by
      rw [fi76]
      refine ih (q + 1) g τ y (by omega) (by omega) hm hw (bsM_no hb (by omega) (fun u q1 q2 q3 => hn ?_))
      have a := q3.1
      have b := q3.2.1
      rw [show u / 4 = q by omega] at a b
      exact ⟨a, b⟩
    have hyes : isf S q → (t = 0 ∨ nI (S 5 q) = t) → ∃ τ' y', fn_X8_find_B71 m (fn_X8_find_B32 m g) τ t c (nI how) (nI y) (nI q) = some (nI y', τ') ∧ bsM S t c how y' 192 ∧ fF m τ τ' := fun hf ht => by
      have h8 := (isf_fld hok hf).2.2.2.2.2.1
      obtain ⟨τ1, y1, b1, b2, b3⟩ := fi84 (z32 := fn_X8_find_B32 m g) (c := c) hok hh (show q < 48 by omega) hf ht (S 8 q) 0 sg_N τ y (by omega) (by show _ < 1000; omega) hm hw hb
      obtain ⟨τ2, y2, c1, c2, c3⟩ := ih (q + 1) g τ1 y1 (by omega) (by omega) (mA_f (fF_HM b3) hm) (fF_W b3 hw) b2
      refine ⟨τ2, y2, ?_, c2, b3.tr c3⟩
      rw [← c1, ← b1]
      show fn_X8_find_B84 m (fn_X8_find_B32 m g) sg_N τ t c (nI how) (nI y) (nI q) 1 (nI 4 * nI q) = _
      rw [nI_mul]; rfl
    show ∃ τ' y', fn_X8_find_B32b m (fn_X8_find_B32 m g) τ t c (nI how) (nI y) (nI q) = some (nI y', τ') ∧ _
    unfold fn_X8_find_B32b
    rw [if_neg (show ¬ (48 : Int32) ≤ nI q from nI_ge (b := 48) (by omega) (by decide)), e1, Option.bind_some]
    by_cases hf : q / 8 < S 2 0 ∧ q % 8 < S 4 (q / 8)
    · rw [if_pos hf, if_neg (show ¬ (1 : Int32) = 0 by decide)]
      by_cases h0 : t = 0
      · rw [if_pos h0]; exact hyes hf (Or.inl h0)
      · rw [if_neg h0, if_pos (sg_ibN (by omega) (by decide)), sg_xN (by omega), (mA_fld hm hf).1]
        by_cases ht : nI (S 5 q) = t
        · rw [if_pos ht]; exact hyes hf (Or.inr ht)
        · rw [if_neg ht]; exact hno (fun k => k.2.elim h0 ht)
    · rw [if_neg hf, if_pos rfl]; exact hno (fun k => hf k.1)
/-- what find leaves behind is scratch -/
theorem JJ_sc {b m : Nat} {σ σ' τ τ' : Sg} {S : Sh} {pl : Int32} (hok : ps_ok S) (hc : rc_all b σ S pl) (hm : rm_all m τ S pl) (h1 : ∀ z k, z ≠ b + 8 → z ≠ b + 9 → σ'.1 z k = σ.1 z k) (h2 : σ'.2 = σ.2) (h4 : ∀ z k, z ≠ m + 13 → z ≠ m + 14 → z ≠ m + 15 → ¬ (z = m ∧ k = 20) → τ'.1 z k = τ.1 z k) : JJ b σ' m τ' := by
  have hn := hok.2.2.1
  refine ⟨S, pl, hok, ⟨⟨?_, ?_⟩, ?_, ?_, ⟨?_, ?_⟩, ?_, ?_⟩, ⟨⟨?_, ?_⟩, ?_, ?_, ⟨?_, ?_⟩, ?_⟩⟩
  · rw [h1 _ _ (by omega) (by omega)]; exact hc.1.1
  · intro i hi; rw [h1 _ _ (by omega) (by omega)]; exact hc.1.2 i hi
  · rw [h1 _ _ (by omega) (by omega)]; exact hc.2.1
  · exact fun r hr => rc_rec_f (by omega) hc.2.2.2.2.2 (fun a k ha => h1 a k (by omega) (by omega)) h2 (fun _ _ _ => rfl) (hok.2.2.2.1 r hr).1 (hc.2.2.1 r hr)
  · rw [h1 _ _ (by omega) (by omega)]; exact hc.2.2.2.1.1
  · intro k hk; rw [h1 _ _ (by omega) (by omega)]; exact hc.2.2.2.1.2 k hk
  · rw [h1 _ _ (by omega) (by omega)]; exact hc.2.2.2.2.1
  · have := hc.2.2.2.2.2
    unfold rc_row at this ⊢
    rw [h2]; exact this
  · rw [h4 _ _ (by omega) (by omega) (by omega) (by omega)]; exact hm.1.1
  · intro i hi; rw [h4 _ _ (by omega) (by omega) (by omega) (by omega)]; exact hm.1.2 i hi
  · rw [h4 _ _ (by omega) (by omega) (by omega) (by omega)]; exact hm.2.1
  · exact fun r hr => rm_rec_f (fun a k h5 h6 => h4 a k (by omega) (by omega) (by omega) (by omega)) (fun _ _ _ => rfl) (hm.2.2.1 r hr)
  · rw [h4 _ _ (by omega) (by omega) (by omega) (by omega)]; exact hm.2.2.2.1.1
  · intro k hk; rw [h4 _ _ (by omega) (by omega) (by omega) (by omega)]; exact hm.2.2.2.1.2 k hk
  · rw [h4 _ _ (by omega) (by omega) (by omega) (by omega)]; exact hm.2.2.2.2
theorem op_find {b m : Nat} {σ τ : Sg} (h : JJ b σ m τ) (x1 : Int32) (x2 : Int32) (x3 : Int32) (hx2 : sg_ic x2) : ∃ (r : Int32) (σ' τ' : Sg), fn_X7_find b σ x1 x2 x3 = some (r, σ') ∧ fn_X8_find m τ x1 x2 x3 = some (r, τ') ∧ JJ b σ' m τ' := by
  have hJ := h
  obtain ⟨S, pl, hok, hc, hm⟩ := h
  have hn := hok.2.2.1
  have h600 := hok.1
  unfold fn_X7_find fn_X8_find
  by_cases h1 : x1 < 0
  · rw [if_pos h1, if_pos h1]; exact ⟨_, σ, τ, rfl, rfl, hJ⟩
  rw [if_neg h1, if_neg h1]
  by_cases h2 : (999 : Int32) < x1
  · rw [if_pos h2, if_pos h2]; exact ⟨_, σ, τ, rfl, rfl, hJ⟩
  rw [if_neg h2, if_neg h2]
  by_cases h3 : x3 < 0
  · rw [if_pos h3, if_pos h3]; exact ⟨_, σ, τ, rfl, rfl, hJ⟩
  rw [if_neg h3, if_neg h3]
  by_cases h4 : x3 ≤ 2
  · rw [if_pos h4, if_pos h4]
    obtain ⟨how, hh, rfl⟩ := nI_of2 (x := x3) (M := 2) (n := 2) (by decide) h3 h4
    obtain ⟨σ0, hσ0⟩ : ∃ s, s = sg_w (sg_w σ (b + 8) 1 0) (b + 8) 2 0 := ⟨_, rfl⟩
    have hcl : fn_X3_clear b σ (b + 8) = some σ0 := by rw [hσ0]; rfl
    have f0 : ∀ z k, z ≠ b + 8 → σ0.1 z k = σ.1 z k := fun z k q => by rw [hσ0, sg_wga q, sg_wga q]
    have k0 : rc_key σ0 (b + 8) (ky_of ((ps_text S).take 0)) := by
      rw [hσ0]
      exact ⟨by rw [sg_wgk (by decide), sg_wgs]; rfl, fun i hi => absurd hi (Nat.not_lt_zero i), by rw [sg_wgs]; rfl⟩
    obtain ⟨σ1, a1, a2, a3⟩ := wa_C (b := b) (t := x1) (c := x2) (h := nI how) hok (S 0 0) 0 sg_N σ0 (by omega) (by show _ < 1000; omega) ⟨by rw [f0 _ _ (by omega)]; exact hc.1.1, fun i hi => by rw [f0 _ _ (by omega)]; exact hc.1.2 i hi⟩ k0
    have fC1 : ∀ z k, z ≠ b + 8 → z ≠ b + 9 → σ1.1 z k = σ.1 z k := fun z k q1 q2 => (a3.1 z k q1 q2).trans (f0 z k q1)
    have fC2 : σ1.2 = σ.2 := by rw [a3.2, hσ0]; rfl
    have hcA : cA b σ1 S := ⟨by rw [fC1 _ _ (by omega) (by omega)]; exact hc.2.1, fun r hr => rc_rec_f (by omega) hc.2.2.2.2.2 (fun a k ha => fC1 a k (by omega) (by omega)) fC2 (fun _ _ _ => rfl) (hok.2.2.2.1 r hr).1 (hc.2.2.1 r hr), by
      have := hc.2.2.2.2.2
      unfold rc_row at this ⊢
      rw [fC2]; exact this⟩
    obtain ⟨y, y1, y2, y3⟩ := fi73 (t := x1) (c := x2) hok hh hcA a2 (S 2 0) 0 sg_N 0 (by omega) (by show _ < 1000; omega) (by decide) (fun i hi => absurd hi (Nat.not_lt_zero i))
    obtain ⟨τ1, b1, b2, b3⟩ := mwM hok hm.1
    have hmA : mA m τ1 S := ⟨by rw [b3 _ _ (by omega) (by omega)]; exact hm.2.1, fun r hr => rm_rec_f (fun a k h5 h6 => b3 a k (by omega) (by omega)) (fun _ _ _ => rfl) (hm.2.2.1 r hr)⟩
    obtain ⟨τ2, z, z1, z2, z3⟩ := fi32 (t := x1) (c := x2) hok hh 48 0 sg_N τ1 0 (by omega) (by show _ < 1000; omega) hmA b2 ⟨by decide, fun i hi => ⟨fun q => absurd q (by rw [Nat.zero_testBit]; decide), fun ⟨u, q, _⟩ => absurd q (by omega)⟩⟩
    have hyz : y = z := by
      apply Nat.eq_of_testBit_eq
      intro i
      by_cases hi : i < S 2 0
      · have e1 := y3 i hi
        have e2 := z2.2 i (by omega)
        have e3 : (∃ u, u < 192 ∧ u / 32 = i ∧ hit S x1 x2 how u) ↔ ∃ u, u / 32 = i ∧ hit S x1 x2 how u := ⟨fun ⟨u, _, q⟩ => ⟨u, q⟩, fun ⟨u, q1, q2⟩ => ⟨u, by omega, q1, q2⟩⟩
        rw [e3] at e2
        exact Bool.eq_iff_iff.mpr (e1.trans e2.symm)
      · rw [Nat.testBit_lt_two_pow (Nat.lt_of_lt_of_le y2 (Nat.pow_le_pow_right (by omega) (by omega)))]
        by_cases h6 : i < 6
        · have e2 := z2.2 i h6
          by_cases q : z.testBit i = true
          · obtain ⟨u, _, q2, q3⟩ := e2.mp q
            have := q3.1.1
            omega
          · exact (Bool.eq_false_iff.mpr q).symm
        · rw [Nat.testBit_lt_two_pow (Nat.lt_of_lt_of_le (show z < 2 ^ 6 from z2.1) (Nat.pow_le_pow_right (by omega) (by omega)))]
    refine ⟨nI y, σ1, τ2, ?_, ?_, JJ_sc hok hc hm fC1 fC2 (fun w k q1 q2 q3 q4 => by rw [z3 w k q1 q2, b3 w k q3 q4])⟩
    · rw [hcl, Option.bind_some]
      exact a1.trans y1
    · rw [b1, Option.bind_some, hyz]
      exact z1
  · rw [if_neg h4, if_neg h4]; exact ⟨_, σ, τ, rfl, rfl, hJ⟩
