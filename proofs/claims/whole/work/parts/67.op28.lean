-- ===== read: first place that is not as said =====
def FB (G : Nat → Prop) (lo hi : Nat) (ok : Prop) (bad : Nat → Prop) : Prop := ((∀ i, lo ≤ i → i < hi → G i) ∧ ok) ∨ (∃ i, lo ≤ i ∧ i < hi ∧ (∀ j, lo ≤ j → j < i → G j) ∧ ¬ G i ∧ bad i)
def mte (b : Nat) (σ : Sg) (v p : Int32) : Sg := sg_w (sg_w σ (b + 1) 6 v) (b + 1) 7 p
theorem mte_e {b : Nat} {σ : Sg} {v p : Int32} : fn_X4_meet b σ v p = some (0, mte b σ v p) := rfl
theorem mte_6 {b : Nat} {σ : Sg} {v p : Int32} : (mte b σ v p).1 (b + 1) 6 = v := by unfold mte; rw [sg_wgk (by decide), sg_wgs]
theorem mte_7 {b : Nat} {σ : Sg} {v p : Int32} : (mte b σ v p).1 (b + 1) 7 = p := by unfold mte; rw [sg_wgs]
theorem mte_o {b z k : Nat} {σ : Sg} {v p : Int32} (h : z ≠ b + 1) : (mte b σ v p).1 z k = σ.1 z k := by unfold mte; rw [sg_wga h, sg_wga h]
/-- the class has met a fault -/
def FC (b : Nat) (σ : Sg) (v p : Int32) (x : Option (Int32 × Sg)) : Prop := ∃ σ', x = some (0, σ') ∧ σ'.1 (b + 1) 6 = v ∧ σ'.1 (b + 1) 7 = p ∧ (∀ z k, z ≠ b + 1 → σ'.1 z k = σ.1 z k) ∧ σ'.2 = σ.2
theorem FC_mte {b : Nat} {σ : Sg} {v p : Int32} : FC b σ v p (some (0, mte b σ v p)) := ⟨_, rfl, mte_6, mte_7, fun _ _ h => mte_o h, rfl⟩
def cdv (S : Sh) (i : Nat) : Int32 := if i < S 0 0 then nI (S 1 i) else -1
theorem cdA {b i : Nat} {σ : Sg} {S : Sh} (h : rc_txt b σ S) (hn : S 0 0 ≤ 600) (hi : i < 2 ^ 31) : fn_X6_codeAt b σ (nI i) = some (cdv S i) := by
  rw [tx_c h hn, if_neg (nI_pos hi), sg_xN hi]
  unfold cdv
  by_cases q : i < S 0 0
  · rw [if_pos q, if_neg (nI_ge q (by omega))]
  · rw [if_neg q, if_pos (nI_le (by omega) hi)]
theorem m1_nI {j : Nat} (h : j < 2 ^ 31) : ¬ (-1 : Int32) = nI j := fun q => nI_pos h (by rw [← q]; decide)
theorem rtx_f {b : Nat} {σ σ' : Sg} {S : Sh} (hf : ∀ z k, z = b + 2 ∨ z = b + 3 → σ'.1 z k = σ.1 z k) (h : rc_txt b σ S) : rc_txt b σ' S := ⟨by rw [hf _ _ (Or.inl rfl)]; exact h.1, fun i hi => by rw [hf _ _ (Or.inr rfl)]; exact h.2 i hi⟩
/-- a number is expected -/
def gE (S : Sh) (due at_ K : Nat) (p : Nat) : Prop := p < S 0 0 ∧ S 1 p = 48 + dg due (K - 1 - (p - at_))
theorem ex_C {b due at_ K : Nat} {kind : Int32} {σ : Sg} {S : Sh} (h : rc_txt b σ S) (hok : ps_ok S) (hd : due < 2 ^ 31) (hK : K < 100) (hat : at_ < 100000) : ∀ (d j f : Nat), j + d = K → d < f → FB (gE S due at_ K) (at_ + j) (at_ + K) (fn_X4_expectNumber_B3 b f σ (nI due) (nI at_) (nI K) kind (nI j) = some (1, σ)) (fun p => FC b σ kind (nI p) (fn_X4_expectNumber_B3 b f σ (nI due) (nI at_) (nI K) kind (nI j))) := by
  have hn := hok.1
  intro d
  induction d with
  | zero =>
    intro j f hj hf
    obtain ⟨f, rfl⟩ : ∃ g, f = g + 1 := ⟨f - 1, by omega⟩
    refine Or.inl ⟨fun i h1 h2 => by omega, ?_⟩
    show fn_X4_expectNumber_B3b b (fn_X4_expectNumber_B3 b f) σ (nI due) (nI at_) (nI K) kind (nI j) = _
    unfold fn_X4_expectNumber_B3b
    rw [if_pos (nI_le (by omega) (by omega))]
  | succ d ih =>
    intro j f hj hf
    obtain ⟨f, rfl⟩ : ∃ g, f = g + 1 := ⟨f - 1, by omega⟩
    have hdg := dg_lt (K - 1 - j) due
    have e1 : fn_X6_codeAt b σ (nI at_ + nI j) = some (cdv S (at_ + j)) := by rw [nI_add]; exact cdA h hn (by omega)
    have e2 : fn_X7_digitBefore (nI K - 1 - nI j) (nI due) = some (nI (48 + dg due (K - 1 - j))) := by
      rw [show nI K - 1 = nI (K - 1) from s_sub (b := 1) (by omega), s_sub (by omega)]
      exact dC (by omega) hd
    have e0 : ∀ z, fn_X4_expectNumber_B3b b z σ (nI due) (nI at_) (nI K) kind (nI j) = if cdv S (at_ + j) = nI (48 + dg due (K - 1 - j)) then z σ (nI due) (nI at_) (nI K) kind (nI (j + 1)) else some (0, mte b σ kind (nI (at_ + j))) := fun z => by
      unfold fn_X4_expectNumber_B3b
      rw [if_neg (nI_ge (by omega) (by omega)), e1, Option.bind_some, e2, Option.bind_some]
      unfold sg_lt
      simp only []
      rw [nI_1, mte_e, Option.bind_some, nI_add]
      rfl
    have hG : gE S due at_ K (at_ + j) ↔ cdv S (at_ + j) = nI (48 + dg due (K - 1 - j)) := by
      unfold gE cdv
      rw [show at_ + j - at_ = j by omega]
      by_cases q : at_ + j < S 0 0
      · rw [if_pos q]
        have h128 := hok.2.1 _ q
        rw [nI_eq (by omega) (by omega)]
        exact ⟨fun k => k.2, fun k => ⟨q, k⟩⟩
      · rw [if_neg q]
        exact ⟨fun k => absurd k.1 q, fun k => absurd k (m1_nI (by omega))⟩
    show FB _ _ _ (fn_X4_expectNumber_B3b b (fn_X4_expectNumber_B3 b f) σ (nI due) (nI at_) (nI K) kind (nI j) = some (1, σ)) (fun p => FC b σ kind (nI p) (fn_X4_expectNumber_B3b b (fn_X4_expectNumber_B3 b f) σ (nI due) (nI at_) (nI K) kind (nI j)))
    rw [e0]
    by_cases hg : cdv S (at_ + j) = nI (48 + dg due (K - 1 - j))
    · rw [if_pos hg]
      have hg' := hG.mpr hg
      rcases ih (j + 1) f (by omega) (by omega) with ⟨a1, a2⟩ | ⟨i, a1, a2, a3, a4, a5⟩
      · refine Or.inl ⟨fun i h1 h2 => ?_, a2⟩
        by_cases e : i = at_ + j
        · rw [e]; exact hg'
        · exact a1 i (by omega) h2
      · refine Or.inr ⟨i, by omega, a2, fun i' h1 h2 => ?_, a4, a5⟩
        by_cases e : i' = at_ + j
        · rw [e]; exact hg'
        · exact a3 i' (by omega) h2
    · rw [if_neg hg]
      exact Or.inr ⟨at_ + j, Nat.le_refl _, by omega, fun i' h1 h2 => by omega, fun k => hg (hG.mp k), FC_mte⟩
theorem exC {b due at_ K : Nat} {kind : Int32} {σ : Sg} {S : Sh} (h : rc_txt b σ S) (hok : ps_ok S) (hd : due < 2 ^ 31) (hK : K < 100) (hat : at_ < 100000) : FB (gE S due at_ K) at_ (at_ + K) (fn_X4_expectNumber b σ (nI due) (nI at_) (nI K) kind = some (1, σ)) (fun p => FC b σ kind (nI p) (fn_X4_expectNumber b σ (nI due) (nI at_) (nI K) kind)) := ex_C h hok hd hK hat K 0 sg_N (by omega) (by show _ < 1000; omega)
-- ===== read: a number is taken =====
def nv (T : Nat → Nat) (a : Nat) : Nat → Nat
  | 0 => 0
  | k + 1 => 10 * nv T a k + (T (a + k) - 48)
def gD (S : Sh) (p : Nat) : Prop := p < S 0 0 ∧ 48 ≤ S 1 p ∧ S 1 p ≤ 57
theorem di_val (x : Int32) : fn_X7_isDigit x = fn_X8_isDigit x := by
  unfold fn_X7_isDigit fn_X8_isDigit
  rfl
theorem di_N {j : Nat} (h : j < 128) : fn_X7_isDigit (nI j) = some (if 48 ≤ j ∧ j ≤ 57 then 1 else 0) := by
  revert j; decide +kernel
theorem di_m1 : fn_X7_isDigit (-1) = some 0 := by decide
theorem di_cd {S : Sh} (hok : ps_ok S) (i : Nat) : ∃ v, fn_X7_isDigit (cdv S i) = some v ∧ bv v (gD S i) := by
  unfold cdv gD
  by_cases q : i < S 0 0
  · rw [if_pos q, di_N (hok.2.1 i q)]
    by_cases w : 48 ≤ S 1 i ∧ S 1 i ≤ 57
    · rw [if_pos w]; exact ⟨1, rfl, Or.inr ⟨rfl, q, w⟩⟩
    · rw [if_neg w]; exact ⟨0, rfl, Or.inl ⟨rfl, fun k => w k.2⟩⟩
  · rw [if_neg q, di_m1]; exact ⟨0, rfl, Or.inl ⟨rfl, fun k => q k.1⟩⟩
theorem nv_lt {S : Sh} {a : Nat} : ∀ k, (∀ i, i < k → gD S (a + i)) → nv (S 1) a k < 10 ^ k
  | 0, _ => Nat.one_pos
  | k + 1, h => by
    have h1 := nv_lt k (fun i hi => h i (by omega))
    have h2 := (h k (by omega)).2
    show 10 * nv (S 1) a k + (S 1 (a + k) - 48) < 10 ^ (k + 1)
    rw [Nat.pow_succ]
    omega
theorem tn_C {b at_ K : Nat} {kind : Int32} {S : Sh} (hok : ps_ok S) (hK : K ≤ 5) (hat : at_ < 100000) : ∀ (d j f : Nat) (σ : Sg), j + d = K → d < f → rc_txt b σ S → (∀ i, i < j → gD S (at_ + i)) → σ.1 (b + 1) 5 = nI (nv (S 1) at_ j) → FB (gD S) (at_ + j) (at_ + K) (∃ σ', fn_X4_takeNumber_B8 b f σ (nI at_) (nI K) kind (nI (at_ + j)) = some (1, σ') ∧ σ'.1 (b + 1) 5 = nI (nv (S 1) at_ K) ∧ (∀ z k, ¬ (z = b + 1 ∧ k = 5) → σ'.1 z k = σ.1 z k) ∧ σ'.2 = σ.2) (fun p => FC b σ kind (nI p) (fn_X4_takeNumber_B8 b f σ (nI at_) (nI K) kind (nI (at_ + j)))) := by
  have hn := hok.1
  intro d
  induction d with
  | zero =>
    intro j f σ hj hf h hg0 h5
    obtain ⟨f, rfl⟩ : ∃ g, f = g + 1 := ⟨f - 1, by omega⟩
    have hjK : j = K := by omega
    refine Or.inl ⟨fun i h1 h2 => by omega, σ, ?_, by rw [← hjK]; exact h5, fun _ _ _ => rfl, rfl⟩
    show fn_X4_takeNumber_B8b b (fn_X4_takeNumber_B8 b f) σ (nI at_) (nI K) kind (nI (at_ + j)) = _
    unfold fn_X4_takeNumber_B8b
    rw [nI_add, if_pos (nI_le (by omega) (by omega))]
  | succ d ih =>
    intro j f σ hj hf h hg0 h5
    obtain ⟨f, rfl⟩ : ∃ g, f = g + 1 := ⟨f - 1, by omega⟩
    have e1 : fn_X6_codeAt b σ (nI (at_ + j)) = some (cdv S (at_ + j)) := cdA h hn (by omega)
    obtain ⟨v, v1, v2⟩ := di_cd hok (at_ + j)
    have hlt := nv_lt (S := S) (a := at_) j hg0
    have h10 : 10 ^ j ≤ 10 ^ 5 := Nat.pow_le_pow_right (by omega) (by omega)
    show FB _ _ _ (∃ σ', fn_X4_takeNumber_B8b b (fn_X4_takeNumber_B8 b f) σ (nI at_) (nI K) kind (nI (at_ + j)) = some (1, σ') ∧ _) (fun p => FC b σ kind (nI p) (fn_X4_takeNumber_B8b b (fn_X4_takeNumber_B8 b f) σ (nI at_) (nI K) kind (nI (at_ + j))))
    rcases v2 with ⟨rfl, v2⟩ | ⟨rfl, v2⟩
    · have e0 : fn_X4_takeNumber_B8b b (fn_X4_takeNumber_B8 b f) σ (nI at_) (nI K) kind (nI (at_ + j)) = some (0, mte b σ kind (nI (at_ + j))) := by
        unfold fn_X4_takeNumber_B8b
        rw [nI_add, if_neg (nI_ge (by omega) (by omega)), e1, Option.bind_some, v1, Option.bind_some, if_pos rfl, mte_e, Option.bind_some]
        rfl
      rw [e0]
      exact Or.inr ⟨at_ + j, Nat.le_refl _, by omega, fun i' h1 h2 => by omega, v2, FC_mte⟩
    · have hcv : cdv S (at_ + j) = nI (S 1 (at_ + j)) := if_pos v2.1
      have e5 : 10 * σ.1 (b + 1) 5 + cdv S (at_ + j) - 48 = nI (nv (S 1) at_ (j + 1)) := by
        rw [h5, hcv]
        show nI 10 * nI _ + nI _ - nI 48 = nI (10 * nv (S 1) at_ j + (S 1 (at_ + j) - 48))
        rw [nI_mul, nI_add, s_sub (by have := v2.2; omega)]
        exact congrArg nI (by have := v2.2; omega)
      have e0 : fn_X4_takeNumber_B8b b (fn_X4_takeNumber_B8 b f) σ (nI at_) (nI K) kind (nI (at_ + j)) = fn_X4_takeNumber_B8 b f (sg_w σ (b + 1) 5 (nI (nv (S 1) at_ (j + 1)))) (nI at_) (nI K) kind (nI (at_ + (j + 1))) := by
        unfold fn_X4_takeNumber_B8b
        rw [nI_add, if_neg (nI_ge (by omega) (by omega)), e1, Option.bind_some, v1, Option.bind_some, if_neg (show ¬ (1 : Int32) = 0 by decide), e5]
        unfold sg_lt
        simp only []
        rw [nI_1]; rfl
      rw [e0]
      have hfr : ∀ z k, ¬ (z = b + 1 ∧ k = 5) → (sg_w σ (b + 1) 5 (nI (nv (S 1) at_ (j + 1)))).1 z k = σ.1 z k := fun z k q => by rw [sg_wg, if_neg q]
      rcases ih (j + 1) f _ (by omega) (by omega) (rtx_f (fun z k hz => hfr z k (by omega)) h) (fun i hi => by
          by_cases e : i = j
          · rw [e]; exact v2
          · exact hg0 i (by omega)) sg_wgs with ⟨a1, σ', a2, a3, a4, a5⟩ | ⟨i, a1, a2, a3, a4, σ', a5, a6, a7, a8, a9⟩
      · refine Or.inl ⟨fun i h1 h2 => ?_, σ', a2, a3, fun z k q => by rw [a4 z k q, hfr z k q], a5⟩
        by_cases e : i = at_ + j
        · rw [e]; exact v2
        · exact a1 i (by omega) h2
      · refine Or.inr ⟨i, by omega, a2, fun i' h1 h2 => ?_, a4, σ', a5, a6, a7, fun z k q => by rw [a8 z k q, hfr z k (fun w => q w.1)], a9⟩
        by_cases e : i' = at_ + j
        · rw [e]; exact v2
        · exact a3 i' (by omega) h2
theorem tnC {b at_ K : Nat} {kind : Int32} {σ : Sg} {S : Sh} (h : rc_txt b σ S) (hok : ps_ok S) (hK : K ≤ 5) (hat : at_ < 100000) : FB (gD S) at_ (at_ + K) (∃ σ', fn_X4_takeNumber b σ (nI at_) (nI K) kind = some (1, σ') ∧ σ'.1 (b + 1) 5 = nI (nv (S 1) at_ K) ∧ (∀ z k, ¬ (z = b + 1 ∧ k = 5) → σ'.1 z k = σ.1 z k) ∧ σ'.2 = σ.2) (fun p => FC b σ kind (nI p) (fn_X4_takeNumber b σ (nI at_) (nI K) kind)) := by
  have hfr : ∀ z k, ¬ (z = b + 1 ∧ k = 5) → (sg_w σ (b + 1) 5 0).1 z k = σ.1 z k := fun z k q => by rw [sg_wg, if_neg q]
  rcases tn_C (b := b) (kind := kind) hok hK hat K 0 sg_N (sg_w σ (b + 1) 5 0) (by omega) (by show _ < 1000; omega) (rtx_f (fun z k hz => hfr z k (by omega)) h) (fun i hi => absurd hi (Nat.not_lt_zero i)) sg_wgs with ⟨a1, σ', a2, a3, a4, a5⟩ | ⟨i, a1, a2, a3, a4, σ', a5, a6, a7, a8, a9⟩
  · exact Or.inl ⟨a1, σ', a2, a3, fun z k q => by rw [a4 z k q, hfr z k q], a5⟩
  · exact Or.inr ⟨i, a1, a2, a3, a4, σ', a5, a6, a7, fun z k q => by rw [a8 z k q, hfr z k (fun w => q w.1)], a9⟩
theorem na_M {m at_ K : Nat} {τ : Sg} {S : Sh} (hok : ps_ok S) (h : rm_txt m τ S) (hK : K ≤ 5) (hg : ∀ i, i < K → gD S (at_ + i)) : ∀ (d j f : Nat), j + d = K → d < f → fn_X8_numberAt_B5 m τ f (nI at_) (nI K) (nI (nv (S 1) at_ j)) (nI (at_ + j)) = some (nI (nv (S 1) at_ K)) := by
  have hn := hok.1
  intro d
  induction d with
  | zero =>
    intro j f hj hf
    obtain ⟨f, rfl⟩ : ∃ g, f = g + 1 := ⟨f - 1, by omega⟩
    have hjK : j = K := by omega
    show fn_X8_numberAt_B5b m τ (fn_X8_numberAt_B5 m τ f) (nI at_) (nI K) _ (nI (at_ + j)) = _
    unfold fn_X8_numberAt_B5b
    by_cases hK0 : K = 0
    · rw [hjK, hK0, nI_add]
      rw [if_pos (Int32.le_refl _)]
    · have := (hg (K - 1) (by omega)).1
      rw [nI_add, if_pos (nI_le (by omega) (by omega)), hjK]
  | succ d ih =>
    intro j f hj hf
    obtain ⟨f, rfl⟩ : ∃ g, f = g + 1 := ⟨f - 1, by omega⟩
    have hgj := hg j (by omega)
    have hgK := (hg (K - 1) (by omega)).1
    rw [← ih (j + 1) f (by omega) (by omega)]
    show fn_X8_numberAt_B5b m τ (fn_X8_numberAt_B5 m τ f) (nI at_) (nI K) _ (nI (at_ + j)) = _
    unfold fn_X8_numberAt_B5b
    rw [nI_add, if_neg (nI_ge (by omega) (by omega)), if_pos (sg_ibN (by omega) (by decide)), sg_xN (by omega), h.2 _ hgj.1]
    unfold sg_lt
    simp only []
    rw [nI_1]
    have e5 : 10 * nI (nv (S 1) at_ j) + nI (S 1 (at_ + j)) - 48 = nI (nv (S 1) at_ (j + 1)) := by
      show nI 10 * nI _ + nI _ - nI 48 = nI (10 * nv (S 1) at_ j + (S 1 (at_ + j) - 48))
      rw [nI_mul, nI_add, s_sub (by have := hgj.2; omega)]
      exact congrArg nI (by have := hgj.2; omega)
    rw [e5]; rfl
theorem naM {m at_ K : Nat} {τ : Sg} {S : Sh} (hok : ps_ok S) (h : rm_txt m τ S) (hK : K ≤ 5) (hg : ∀ i, i < K → gD S (at_ + i)) : fn_X8_numberAt m τ (nI at_) (nI K) = some (nI (nv (S 1) at_ K)) := na_M hok h hK hg K 0 sg_N (by omega) (by show _ < 1000; omega)
-- ===== read: letters of the leader =====
def gP (S : Sh) (p : Nat) : Prop := p < S 0 0 ∧ 31 < S 1 p ∧ S 1 p < 127
theorem pl_N {j : Nat} (h : j < 128) : fn_X7_isPlain (nI j) = some (if 31 < j ∧ j < 127 then 1 else 0) := by
  revert j; decide +kernel
theorem pl_m1 : fn_X7_isPlain (-1) = some 0 := by decide
theorem pl_cd {S : Sh} (hok : ps_ok S) (i : Nat) : ∃ v, fn_X7_isPlain (cdv S i) = some v ∧ bv v (gP S i) := by
  unfold cdv gP
  by_cases q : i < S 0 0
  · rw [if_pos q, pl_N (hok.2.1 i q)]
    by_cases w : 31 < S 1 i ∧ S 1 i < 127
    · rw [if_pos w]; exact ⟨1, rfl, Or.inr ⟨rfl, q, w⟩⟩
    · rw [if_neg w]; exact ⟨0, rfl, Or.inl ⟨rfl, fun k => w k.2⟩⟩
  · rw [if_neg q, pl_m1]; exact ⟨0, rfl, Or.inl ⟨rfl, fun k => q k.1⟩⟩
/-- letters lo to hi of the card come from place at_ on -/
theorem tl_C {b c lo hi at_ : Nat} {S : Sh} (hok : ps_ok S) (hc : b + 10 ≤ c) (hlo : lo ≤ hi) (hhi : hi ≤ 8) (hat : at_ < 1000) : ∀ (d j f : Nat) (σ : Sg), lo + j + d = hi → d < f → rc_txt b σ S → FB (gP S) (at_ + j) (at_ + (hi - lo)) (∃ σ', fn_X4_takeLetters_B3 b f σ c (nI lo) (nI hi) (nI at_) (nI (lo + j)) = some (1, σ') ∧ (∀ i, lo + j ≤ i → i < hi → σ'.1 (c + 1) i = nI (S 1 (at_ + (i - lo)))) ∧ (∀ z k, ¬ (z = c + 1 ∧ lo + j ≤ k ∧ k < hi) → σ'.1 z k = σ.1 z k) ∧ σ'.2 = σ.2) (fun p => ∃ σ', fn_X4_takeLetters_B3 b f σ c (nI lo) (nI hi) (nI at_) (nI (lo + j)) = some (0, σ') ∧ σ'.1 (b + 1) 6 = -3 ∧ σ'.1 (b + 1) 7 = nI p ∧ (∀ z k, z ≠ b + 1 → z ≠ c + 1 → σ'.1 z k = σ.1 z k) ∧ σ'.2 = σ.2) := by
  have hn := hok.1
  intro d
  induction d with
  | zero =>
    intro j f σ hj hf h
    obtain ⟨f, rfl⟩ : ∃ g, f = g + 1 := ⟨f - 1, by omega⟩
    refine Or.inl ⟨fun i h1 h2 => by omega, σ, ?_, fun i h1 h2 => by omega, fun _ _ _ => rfl, rfl⟩
    show fn_X4_takeLetters_B3b b (fn_X4_takeLetters_B3 b f) σ c (nI lo) (nI hi) (nI at_) (nI (lo + j)) = _
    unfold fn_X4_takeLetters_B3b
    rw [if_pos (nI_le (by omega) (by omega))]
  | succ d ih =>
    intro j f σ hj hf h
    obtain ⟨f, rfl⟩ : ∃ g, f = g + 1 := ⟨f - 1, by omega⟩
    have ep : nI at_ + nI (lo + j) - nI lo = nI (at_ + j) := by rw [nI_add, s_sub (by omega)]; exact congrArg nI (by omega)
    have e1 : fn_X6_codeAt b σ (nI (at_ + j)) = some (cdv S (at_ + j)) := cdA h hn (by omega)
    obtain ⟨v, v1, v2⟩ := pl_cd hok (at_ + j)
    show FB _ _ _ (∃ σ', fn_X4_takeLetters_B3b b (fn_X4_takeLetters_B3 b f) σ c (nI lo) (nI hi) (nI at_) (nI (lo + j)) = some (1, σ') ∧ _) (fun p => ∃ σ', fn_X4_takeLetters_B3b b (fn_X4_takeLetters_B3 b f) σ c (nI lo) (nI hi) (nI at_) (nI (lo + j)) = some (0, σ') ∧ _)
    rcases v2 with ⟨rfl, v2⟩ | ⟨rfl, v2⟩
    · have e0 : fn_X4_takeLetters_B3b b (fn_X4_takeLetters_B3 b f) σ c (nI lo) (nI hi) (nI at_) (nI (lo + j)) = some (0, mte b σ (-3) (nI (at_ + j))) := by
        unfold fn_X4_takeLetters_B3b
        rw [if_neg (nI_ge (by omega) (by omega)), ep, e1, Option.bind_some, v1, Option.bind_some, if_pos rfl, mte_e, Option.bind_some]
        rfl
      exact Or.inr ⟨at_ + j, Nat.le_refl _, by omega, fun i' h1 h2 => by omega, v2, _, e0, mte_6, mte_7, fun z k q _ => mte_o q, rfl⟩
    · have hcv : cdv S (at_ + j) = nI (S 1 (at_ + j)) := if_pos v2.1
      have e0 : fn_X4_takeLetters_B3b b (fn_X4_takeLetters_B3 b f) σ c (nI lo) (nI hi) (nI at_) (nI (lo + j)) = fn_X4_takeLetters_B3 b f (sg_w σ (c + 1) (lo + j) (nI (S 1 (at_ + j)))) c (nI lo) (nI hi) (nI at_) (nI (lo + (j + 1))) := by
        unfold fn_X4_takeLetters_B3b
        rw [if_neg (nI_ge (by omega) (by omega)), ep, e1, Option.bind_some, v1, Option.bind_some, if_neg (show ¬ (1 : Int32) = 0 by decide), if_pos (sg_ibN (by omega) (by decide)), sg_xN (by omega), hcv, sg_icN (by have := v2.2; omega), sg_narN (by have := v2.2; omega)]
        unfold sg_lt
        simp only []
        rw [nI_1]; rfl
      rw [e0]
      have hfr : ∀ z k, ¬ (z = c + 1 ∧ k = lo + j) → (sg_w σ (c + 1) (lo + j) (nI (S 1 (at_ + j)))).1 z k = σ.1 z k := fun z k q => by rw [sg_wg, if_neg q]
      rcases ih (j + 1) f _ (by omega) (by omega) (rtx_f (fun z k hz => hfr z k (by omega)) h) with ⟨a1, σ', a2, a3, a4, a5⟩ | ⟨i, a1, a2, a3, a4, σ', a5, a6, a7, a8, a9⟩
      · refine Or.inl ⟨fun i h1 h2 => ?_, σ', a2, fun i h1 h2 => ?_, fun z k q => by rw [a4 z k (by omega), hfr z k (by omega)], a5⟩
        · by_cases e : i = at_ + j
          · rw [e]; exact v2
          · exact a1 i (by omega) h2
        · by_cases e : i = lo + j
          · rw [e, a4 _ _ (by omega), sg_wgs, show lo + j - lo = j by omega]
          · exact a3 i (by omega) h2
      · refine Or.inr ⟨i, by omega, a2, fun i' h1 h2 => ?_, a4, σ', a5, a6, a7, fun z k q1 q2 => by rw [a8 z k q1 q2, hfr z k (fun w => q2 w.1)], a9⟩
        by_cases e : i' = at_ + j
        · rw [e]; exact v2
        · exact a3 i' (by omega) h2
