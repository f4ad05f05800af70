-- ===== read: an entry of the directory =====
def gR (m R : Nat) (τ τ' : Sg) : Prop := ∀ z k, ¬ (z = m ∧ (k = 12 ∨ k = 13)) → z ≠ m + 11 → ¬ (m + 4 ≤ z ∧ z ≤ m + 7 ∧ 8 * R ≤ k ∧ k < 8 * R + 8) → ¬ ((z = m + 8 ∨ z = m + 9) ∧ 32 * R ≤ k ∧ k < 32 * R + 32) → ¬ (z = m + 10 ∧ 640 * R ≤ k ∧ k < 640 * R + 640) → τ'.1 z k = τ.1 z k
theorem gR.rf {m R : Nat} {τ : Sg} : gR m R τ τ := fun _ _ _ _ _ _ _ => rfl
theorem gR.tr {m R : Nat} {τ τ1 τ2 : Sg} (h : gR m R τ τ1) (h2 : gR m R τ1 τ2) : gR m R τ τ2 := fun z k a b c d e => (h2 z k a b c d e).trans (h z k a b c d e)
theorem gR_mt {m R : Nat} {τ : Sg} {v p : Int32} : gR m R τ (mtM m τ v p) := fun _ _ h _ _ _ _ => mtM_o h
theorem gR_t {m R : Nat} {τ τ' : Sg} {S : Sh} (h : gR m R τ τ') (ht : rm_txt m τ S) : rm_txt m τ' S := ⟨by rw [h _ _ (by omega) (by omega) (by omega) (by omega) (by omega)]; exact ht.1, fun i hi => by rw [h _ _ (by omega) (by omega) (by omega) (by omega) (by omega)]; exact ht.2 i hi⟩
def fR (b c : Nat) (σ σ' : Sg) : Prop := (∀ z k, z ≠ b + 1 → z ≠ b + 4 → ¬ (c ≤ z ∧ z < c + 147) → σ'.1 z k = σ.1 z k) ∧ σ'.2 = σ.2
theorem fR.rf {b c : Nat} {σ : Sg} : fR b c σ σ := ⟨fun _ _ _ _ _ => rfl, rfl⟩
theorem fR.tr {b c : Nat} {σ σ1 σ2 : Sg} (h : fR b c σ σ1) (h2 : fR b c σ1 σ2) : fR b c σ σ2 := ⟨fun z k x y w => (h2.1 z k x y w).trans (h.1 z k x y w), h2.2.trans h.2⟩
theorem fR_t {b c : Nat} {σ σ' : Sg} {S : Sh} (hc : b + 10 ≤ c) (h : fR b c σ σ') (ht : rc_txt b σ S) : rc_txt b σ' S := rtx_f (fun z k hz => h.1 z k (by omega) (by omega) (by omega)) ht
/-- a fault v at p, on both sides -/
def FX (b c : Nat) (σ : Sg) (v p : Int32) (x : Option (Int32 × Sg)) : Prop := ∃ σ', x = some (0, σ') ∧ σ'.1 (b + 1) 6 = v ∧ σ'.1 (b + 1) 7 = p ∧ fR b c σ σ'
def GX (m R : Nat) (τ : Sg) (v p : Int32) (x : Option Sg) : Prop := ∃ τ', x = some τ' ∧ τ'.1 m 12 = v ∧ τ'.1 m 13 = p ∧ gR m R τ τ'
def gN (S : Sh) (st a0 k : Nat) : Prop := if k < 7 then gD S (a0 + k) else gE S st (a0 + 7) 5 (a0 + k)
section RE
variable {m R f st a0 : Nat} {τ : Sg} {S : Sh}
theorem re_0 {g k : Nat} (hok : ps_ok S) (h : rm_txt m τ S) (h0 : τ.1 m 12 = 0) (hst : st < 2 ^ 31) (hk : k < 12) (hN : a0 + k < S 0 0) : ∃ v, bv v (gN S st a0 k) ∧ fn_X8_readEntry_B13 m (g + 1) τ (nI R) (nI f) (nI st) (nI a0) (nI (a0 + k)) = fn_X8_readEntry_B85 m (fn_X8_readEntry_B13 m g) τ (nI R) (nI f) (nI st) (nI a0) (nI (a0 + k)) (nI k) v := by
  have hn := hok.1
  have h128 := hok.2.1 _ hN
  have hT := h.2 _ hN
  have e0 : fn_X8_readEntry_B13 m (g + 1) τ (nI R) (nI f) (nI st) (nI a0) (nI (a0 + k)) = (if (7 : Int32) ≤ nI k then ((fn_X8_digitOf (nI st) 5 (nI k - 7)).bind fun r2 => (if (nI (S 1 (a0 + k)) - 48) = r2 then fn_X8_readEntry_B85 m (fn_X8_readEntry_B13 m g) τ (nI R) (nI f) (nI st) (nI a0) (nI (a0 + k)) (nI k) 1 else fn_X8_readEntry_B85 m (fn_X8_readEntry_B13 m g) τ (nI R) (nI f) (nI st) (nI a0) (nI (a0 + k)) (nI k) 0)) else ((fn_X8_isDigit (nI (S 1 (a0 + k)))).bind fun r3 => fn_X8_readEntry_B85 m (fn_X8_readEntry_B13 m g) τ (nI R) (nI f) (nI st) (nI a0) (nI (a0 + k)) (nI k) r3)) := by
    show fn_X8_readEntry_B13b m (fn_X8_readEntry_B13 m g) τ (nI R) (nI f) (nI st) (nI a0) (nI (a0 + k)) = _
    unfold fn_X8_readEntry_B13b
    rw [show nI a0 + 12 = nI (a0 + 12) from nI_add a0 12, if_neg (nI_ge (by omega) (by omega)), if_pos h0]
    unfold sg_lt
    simp only []
    rw [if_pos (sg_ibN (by omega) (by decide)), if_pos (sg_ibN (by omega) (by decide)), sg_xN (by omega), hT, s_sub (by omega), show a0 + k - a0 = k by omega]
  rw [e0]
  unfold gN
  by_cases c1 : k < 7
  · rw [if_pos c1, if_neg (show ¬ (7 : Int32) ≤ nI k from nI_ge (b := 7) c1 (by decide)), ← di_val, di_N h128, Option.bind_some]
    refine ⟨_, bv_iff bv_if ?_, rfl⟩
    exact ⟨fun q => ⟨hN, q⟩, fun q => q.2⟩
  · rw [if_neg c1, if_pos (show (7 : Int32) ≤ nI k from nI_le (a := 7) (by omega) (by omega)), show nI k - 7 = nI (k - 7) from s_sub (b := 7) (by omega)]
    have e := dM (K := 5) (i := k - 7) (v := st) (by omega) (by omega) hst
    rw [show fn_X8_digitOf (nI st) 5 (nI (k - 7)) = _ from e, Option.bind_some]
    have hiff := m48 _ h128 _ (dg_lt (5 - 1 - (k - 7)) st)
    have hg : gE S st (a0 + 7) 5 (a0 + k) ↔ S 1 (a0 + k) = 48 + dg st (5 - 1 - (k - 7)) := by
      unfold gE
      rw [show a0 + k - (a0 + 7) = k - 7 by omega]
      exact ⟨fun q => q.2, fun q => ⟨hN, q⟩⟩
    by_cases q : nI (S 1 (a0 + k)) - 48 = nI (dg st (5 - 1 - (k - 7)))
    · rw [if_pos q]; exact ⟨1, Or.inr ⟨rfl, hg.mpr (hiff.mp q)⟩, rfl⟩
    · rw [if_neg q]; exact ⟨0, Or.inl ⟨rfl, fun w => q (hiff.mpr (hg.mp w))⟩, rfl⟩
theorem re_212 {g : Nat} {v p x1 x2 x3 x4 x5 : Int32} (hv : v ≠ 0) : fn_X8_readEntry_B212 m (fn_X8_readEntry_B13 m (g + 1)) (mtM m τ v p) x1 x2 x3 x4 x5 = some (mtM m τ v p) := by
  show fn_X8_readEntry_B13b m (fn_X8_readEntry_B13 m g) (mtM m τ v p) x1 x2 x3 x4 (x5 + 1) = _
  unfold fn_X8_readEntry_B13b
  rw [mtM_12, if_neg hv]
  by_cases q : x4 + 12 ≤ x5 + 1
  · rw [if_pos q]
  · rw [if_neg q]
theorem re_S {g k : Nat} (hok : ps_ok S) (h : rm_txt m τ S) (h0 : τ.1 m 12 = 0) (hst : st < 2 ^ 31) (hk : k < 12) (hN : a0 + k < S 0 0) (h2 : k ≠ 2) (h6 : k ≠ 6) (hg : gN S st a0 k) : fn_X8_readEntry_B13 m (g + 1) τ (nI R) (nI f) (nI st) (nI a0) (nI (a0 + k)) = fn_X8_readEntry_B13 m g τ (nI R) (nI f) (nI st) (nI a0) (nI (a0 + (k + 1))) := by
  obtain ⟨v, v1, v2⟩ := re_0 (a0 := a0) (R := R) (f := f) (g := g) hok h h0 hst hk hN
  have hv : v = 1 := v1.elim (fun q => absurd hg q.2) (fun q => q.1)
  rw [v2, hv]
  unfold fn_X8_readEntry_B85 fn_X8_readEntry_B212
  rw [if_neg (show ¬ (1 : Int32) = 0 by decide), if_neg (show ¬ nI k = 2 from fun q => h2 ((nI_eq (b := 2) (by omega) (by omega)).mp q)), if_neg (show ¬ nI k = 6 from fun q => h6 ((nI_eq (b := 6) (by omega) (by omega)).mp q))]
  exact congrArg _ (nI_1 (a0 + k))
theorem re_B {g k : Nat} (hok : ps_ok S) (h : rm_txt m τ S) (h0 : τ.1 m 12 = 0) (hst : st < 2 ^ 31) (hk : k < 12) (hN : a0 + k < S 0 0) (hg : ¬ gN S st a0 k) : fn_X8_readEntry_B13 m (g + 2) τ (nI R) (nI f) (nI st) (nI a0) (nI (a0 + k)) = some (mtM m τ (-4) (nI (a0 + k))) := by
  obtain ⟨v, v1, v2⟩ := re_0 (a0 := a0) (R := R) (f := f) (g := g + 1) hok h h0 hst hk hN
  have hv : v = 0 := v1.elim (fun q => q.1) (fun q => absurd q.2 hg)
  rw [v2, hv]
  unfold fn_X8_readEntry_B85
  rw [if_pos rfl, flM0 h0, Option.bind_some]
  exact re_212 (by decide)
theorem re_R (hok : ps_ok S) (h : rm_txt m τ S) (h0 : τ.1 m 12 = 0) (hst : st < 2 ^ 31) (hN : a0 + 12 ≤ S 0 0) : ∀ (d k g : Nat), k + d ≤ 12 → (∀ i, k ≤ i → i < k + d → gN S st a0 i ∧ i ≠ 2 ∧ i ≠ 6) → fn_X8_readEntry_B13 m (g + d) τ (nI R) (nI f) (nI st) (nI a0) (nI (a0 + k)) = fn_X8_readEntry_B13 m g τ (nI R) (nI f) (nI st) (nI a0) (nI (a0 + (k + d)))
  | 0, k, g, _, _ => rfl
  | d + 1, k, g, h1, h2 => by
    have hp := h2 k (Nat.le_refl k) (by omega)
    rw [show g + (d + 1) = (g + d) + 1 by omega, re_S hok h h0 hst (by omega) (by omega) hp.2.1 hp.2.2 hp.1, re_R hok h h0 hst hN d (k + 1) g (by omega) (fun p a c => h2 p (by omega) (by omega)), show k + 1 + d = k + (d + 1) by omega]
theorem re_2 {g : Nat} (hok : ps_ok S) (h : rm_txt m τ S) (h0 : τ.1 m 12 = 0) (hst : st < 2 ^ 31) (hN : a0 + 12 ≤ S 0 0) (hR : R < 6) (hf : f < 8) (hg : ∀ i, i < 3 → gD S (a0 + i)) : (nv (S 1) a0 3 = 0 ∧ fn_X8_readEntry_B13 m (g + 2) τ (nI R) (nI f) (nI st) (nI a0) (nI (a0 + 2)) = some (mtM m (sg_w τ (m + 4) (8 * R + f) (nI (nv (S 1) a0 3))) (-4) (nI (a0 + 2)))) ∨ (nv (S 1) a0 3 ≠ 0 ∧ fn_X8_readEntry_B13 m (g + 2) τ (nI R) (nI f) (nI st) (nI a0) (nI (a0 + 2)) = fn_X8_readEntry_B13 m (g + 1) (sg_w τ (m + 4) (8 * R + f) (nI (nv (S 1) a0 3))) (nI R) (nI f) (nI st) (nI a0) (nI (a0 + 3))) := by
  have hn := hok.1
  obtain ⟨v, v1, v2⟩ := re_0 (a0 := a0) (R := R) (f := f) (k := 2) (g := g + 1) hok h h0 hst (by omega) (by omega)
  have hg2 : gN S st a0 2 := by unfold gN; rw [if_pos (by decide)]; exact hg 2 (by omega)
  have hv : v = 1 := v1.elim (fun q => absurd hg2 q.2) (fun q => q.1)
  have hlt := nv_lt (S := S) (a := a0) 3 hg
  have h103 : 10 ^ 3 = 1000 := by decide
  rw [h103] at hlt
  have hna := naM (m := m) (K := 3) hok h (by omega) hg
  rw [v2, hv]
  generalize nv (S 1) a0 3 = B at *
  have ew : (sg_w τ (m + 4) (8 * R + f) (nI B)).1 (m + 4) (8 * R + f) = nI B := sg_wgs
  have e12 : (sg_w τ (m + 4) (8 * R + f) (nI B)).1 m 12 = 0 := by rw [sg_wga (by omega)]; exact h0
  unfold fn_X8_readEntry_B85
  rw [if_neg (show ¬ (1 : Int32) = 0 by decide), if_pos (show nI 2 = 2 from rfl), show fn_X8_numberAt m τ (nI a0) 3 = some (nI B) from hna, Option.bind_some, nI_8r, if_pos (sg_ibN (by omega) (by decide)), sg_xN (by omega)]
  unfold sg_lt
  simp only []
  rw [if_pos (sg_ibN (by omega) (by decide)), ew]
  by_cases q : B = 0
  · rw [if_pos (show nI B = 0 by rw [q]; rfl), flM0 e12, Option.bind_some]
    exact Or.inl ⟨q, re_212 (by decide)⟩
  · rw [if_neg (show ¬ nI B = 0 from fun w => q ((nI_eq (b := 0) (by omega) (by omega)).mp w))]
    refine Or.inr ⟨q, ?_⟩
    unfold fn_X8_readEntry_B212
    exact congrArg _ (nI_1 (a0 + 2))
theorem re_6 {g tag : Nat} (hok : ps_ok S) (h : rm_txt m τ S) (h0 : τ.1 m 12 = 0) (hst : st < 2 ^ 31) (hN : a0 + 12 ≤ S 0 0) (hR : R < 6) (hf : f < 8) (hg : ∀ i, i < 4 → gD S (a0 + 3 + i)) (ht : τ.1 (m + 4) (8 * R + f) = nI tag) (htl : tag < 1000) : (nv (S 1) (a0 + 3) 4 < (if tag < 10 then 1 else 2) ∧ fn_X8_readEntry_B13 m (g + 2) τ (nI R) (nI f) (nI st) (nI a0) (nI (a0 + 6)) = some (mtM m (sg_w τ (m + 11) f (nI (nv (S 1) (a0 + 3) 4))) (-4) (nI (a0 + 6)))) ∨ (¬ nv (S 1) (a0 + 3) 4 < (if tag < 10 then 1 else 2) ∧ fn_X8_readEntry_B13 m (g + 2) τ (nI R) (nI f) (nI st) (nI a0) (nI (a0 + 6)) = fn_X8_readEntry_B13 m (g + 1) (sg_w τ (m + 11) f (nI (nv (S 1) (a0 + 3) 4))) (nI R) (nI f) (nI st) (nI a0) (nI (a0 + 7))) := by
  have hn := hok.1
  obtain ⟨v, v1, v2⟩ := re_0 (a0 := a0) (R := R) (f := f) (k := 6) (g := g + 1) hok h h0 hst (by omega) (by omega)
  have hg6 : gN S st a0 6 := by unfold gN; rw [if_pos (by decide)]; exact hg 3 (by omega)
  have hv : v = 1 := v1.elim (fun q => absurd hg6 q.2) (fun q => q.1)
  have hlt := nv_lt (S := S) (a := a0 + 3) 4 hg
  have h104 : 10 ^ 4 = 10000 := by decide
  rw [h104] at hlt
  have hna := naM (m := m) (K := 4) hok h (by omega) hg
  rw [v2, hv]
  generalize nv (S 1) (a0 + 3) 4 = B at *
  have ew : (sg_w τ (m + 11) f (nI B)).1 (m + 11) f = nI B := sg_wgs
  have et : (sg_w τ (m + 11) f (nI B)).1 (m + 4) (8 * R + f) = nI tag := by rw [sg_wga (by omega)]; exact ht
  have e12 : (sg_w τ (m + 11) f (nI B)).1 m 12 = 0 := by rw [sg_wga (by omega)]; exact h0
  have h201 : ∀ y, y < 3 → (B < y ∧ fn_X8_readEntry_B201 m (fn_X8_readEntry_B13 m (g + 1)) (sg_w τ (m + 11) f (nI B)) (nI R) (nI f) (nI st) (nI a0) (nI (a0 + 6)) (nI y) (nI B) = some (mtM m (sg_w τ (m + 11) f (nI B)) (-4) (nI (a0 + 6)))) ∨ (¬ B < y ∧ fn_X8_readEntry_B201 m (fn_X8_readEntry_B13 m (g + 1)) (sg_w τ (m + 11) f (nI B)) (nI R) (nI f) (nI st) (nI a0) (nI (a0 + 6)) (nI y) (nI B) = fn_X8_readEntry_B13 m (g + 1) (sg_w τ (m + 11) f (nI B)) (nI R) (nI f) (nI st) (nI a0) (nI (a0 + 7))) := fun y hy => by
    unfold fn_X8_readEntry_B201
    by_cases q : B < y
    · rw [if_neg (nI_ge q (by omega)), flM0 e12, Option.bind_some]
      exact Or.inl ⟨q, re_212 (by decide)⟩
    · rw [if_pos (nI_le (by omega) (by omega))]
      refine Or.inr ⟨q, ?_⟩
      unfold fn_X8_readEntry_B212
      exact congrArg _ (nI_1 (a0 + 6))
  unfold fn_X8_readEntry_B85
  rw [if_neg (show ¬ (1 : Int32) = 0 by decide), if_neg (show ¬ nI 6 = 2 by decide), if_pos (show nI 6 = 6 from rfl), show nI a0 + 3 = nI (a0 + 3) from nI_add a0 3, show fn_X8_numberAt m τ (nI (a0 + 3)) 4 = some (nI B) from hna, Option.bind_some, if_pos (sg_ibN (by omega) (by decide)), sg_xN (show f < 2 ^ 31 by omega)]
  unfold sg_lt
  simp only []
  rw [if_pos (sg_ibN (by omega) (by decide)), nI_8r, if_pos (sg_ibN (by omega) (by decide)), sg_xN (by omega), et, ew]
  by_cases q : tag < 10
  · rw [if_pos q, if_neg (show ¬ (10 : Int32) ≤ nI tag from nI_ge (b := 10) q (by decide))]
    exact h201 1 (by omega)
  · rw [if_neg q, if_pos (show (10 : Int32) ≤ nI tag from nI_le (a := 10) (by omega) (by omega))]
    exact h201 2 (by omega)
theorem re_E {g : Nat} (hok : ps_ok S) (hN : a0 + 12 ≤ S 0 0) : fn_X8_readEntry_B13 m (g + 1) τ (nI R) (nI f) (nI st) (nI a0) (nI (a0 + 12)) = some τ := by
  have hn := hok.1
  show fn_X8_readEntry_B13b m (fn_X8_readEntry_B13 m g) τ (nI R) (nI f) (nI st) (nI a0) (nI (a0 + 12)) = _
  unfold fn_X8_readEntry_B13b
  rw [show nI a0 + 12 = nI (a0 + 12) from nI_add a0 12, if_pos (nI_le (Nat.le_refl _) (by omega))]
end RE
