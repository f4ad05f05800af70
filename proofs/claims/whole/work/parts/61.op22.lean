-- ===== list: what it makes =====
abbrev XH : Type := Nat × (Nat → Nat)
def hk (S : Sh) (u : Nat) : Nat := kv (kyK S u)
/-- where a heading goes: behind all that are not after it -/
def hps (S : Sh) (u : Nat) (h : Nat → Nat) : Nat → Nat
  | 0 => 0
  | n + 1 => if hk S u < hk S (h n) then hps S u h n else n + 1
theorem hps_le (S : Sh) (u : Nat) (h : Nat → Nat) : ∀ n, hps S u h n ≤ n
  | 0 => Nat.le_refl 0
  | n + 1 => by
    have := hps_le S u h n
    unfold hps; split <;> omega
theorem hps_lo (S : Sh) (u : Nat) (h : Nat → Nat) : ∀ n, 0 < hps S u h n → hk S (h (hps S u h n - 1)) ≤ hk S u
  | 0 => fun q => absurd q (Nat.lt_irrefl 0)
  | n + 1 => by
    have := hps_lo S u h n
    unfold hps
    by_cases q : hk S u < hk S (h n)
    · rw [if_pos q]; exact this
    · rw [if_neg q]; intro _; rw [Nat.add_sub_cancel]; omega
theorem hps_hi (S : Sh) (u : Nat) (h : Nat → Nat) : ∀ n i, hps S u h n ≤ i → i < n → hk S u < hk S (h i)
  | 0, i => fun _ q => absurd q (by omega)
  | n + 1, i => by
    have := hps_hi S u h n
    unfold hps
    by_cases q : hk S u < hk S (h n)
    · rw [if_pos q]
      intro h1 h2
      by_cases e : i = n
      · rw [e]; exact q
      · exact this i h1 (by omega)
    · rw [if_neg q]; intro h1 h2; omega
def hso (S : Sh) (X : XH) : Prop := ∀ i j, i ≤ j → j < X.1 → hk S (X.2 i) ≤ hk S (X.2 j)
theorem hps_un {S : Sh} {u p : Nat} {X : XH} (hs : hso S X) (hp : p ≤ X.1) (h1 : 0 < p → hk S (X.2 (p - 1)) ≤ hk S u) (h2 : p < X.1 → hk S u < hk S (X.2 p)) : p = hps S u X.2 X.1 := by
  have a1 := hps_le S u X.2 X.1
  have a2 := hps_lo S u X.2 X.1
  have a3 := hps_hi S u X.2 X.1
  generalize hps S u X.2 X.1 = p' at *
  by_cases q : p < p'
  · have b1 := h2 (by omega)
    have b2 := a2 (by omega)
    have b3 := hs p (p' - 1) (by omega) (by omega)
    omega
  · by_cases q2 : p' < p
    · have b1 := a3 p' (Nat.le_refl p') (by omega)
      have b2 := h1 (by omega)
      have b3 := hs p' (p - 1) (by omega) (by omega)
      omega
    · omega
def hin (S : Sh) (u : Nat) (X : XH) : XH := (X.1 + 1, fun k => if k < hps S u X.2 X.1 then X.2 k else if k = hps S u X.2 X.1 then u else X.2 (k - 1))
theorem hin_lt {S : Sh} {u k : Nat} {X : XH} (h : k < hps S u X.2 X.1) : (hin S u X).2 k = X.2 k := if_pos h
theorem hin_eq {S : Sh} {u k : Nat} {X : XH} (h : k = hps S u X.2 X.1) : (hin S u X).2 k = u := (if_neg (by omega)).trans (if_pos h)
theorem hin_gt {S : Sh} {u k : Nat} {X : XH} (h : hps S u X.2 X.1 < k) : (hin S u X).2 k = X.2 (k - 1) := (if_neg (by omega)).trans (if_neg (by omega))
theorem hin_so {S : Sh} {u : Nat} {X : XH} (hs : hso S X) : hso S (hin S u X) := by
  intro i j hij hj
  have hj' : j < X.1 + 1 := hj
  have a1 := hps_le S u X.2 X.1
  have a2 := hps_lo S u X.2 X.1
  have a3 := hps_hi S u X.2 X.1
  rcases Nat.lt_trichotomy j (hps S u X.2 X.1) with q | q | q
  · rw [hin_lt q, hin_lt (by omega)]; exact hs i j hij (by omega)
  · rw [hin_eq q]
    by_cases e : i = hps S u X.2 X.1
    · rw [hin_eq e]; exact Nat.le_refl _
    · rw [hin_lt (by omega)]
      have b1 := hs i (hps S u X.2 X.1 - 1) (by omega) (by omega)
      have b2 := a2 (by omega)
      omega
  · rw [hin_gt q]
    rcases Nat.lt_trichotomy i (hps S u X.2 X.1) with q2 | q2 | q2
    · rw [hin_lt q2]; exact hs i (j - 1) (by omega) (by omega)
    · rw [hin_eq q2]; have := a3 (j - 1) (by omega) (by omega); omega
    · rw [hin_gt q2]; exact hs (i - 1) (j - 1) (by omega) (by omega)
/-- a subfield that is there -/
def pr (S : Sh) (u : Nat) : Prop := ∃ r f s, r < S 2 0 ∧ f < S 4 r ∧ s < S 8 (8 * r + f) ∧ u = 4 * (8 * r + f) + s
theorem pr_ok {S : Sh} {u : Nat} (hok : ps_ok S) (h : pr S u) : u < 192 ∧ ps_sub S u := by
  obtain ⟨r, f, s, h1, h2, h3, rfl⟩ := h
  have hR := hok.2.2.2.1 r h1
  have hF := hR.2.2 f h2
  have a1 := hok.2.2.1
  have a2 := hR.1
  have a3 := hF.2.2.2.2.2.1
  exact ⟨by omega, hF.2.2.2.2.2.2.2 s h3⟩
def Xok (S : Sh) (X : XH) (v : Nat) : Prop := X.1 ≤ v ∧ (∀ k, k < X.1 → pr S (X.2 k)) ∧ hso S X
theorem Xok_le {S : Sh} {X : XH} {v w : Nat} (h : Xok S X v) (hw : v ≤ w) : Xok S X w := ⟨Nat.le_trans h.1 hw, h.2⟩
theorem hin_ok {S : Sh} {X : XH} {u v : Nat} (h : Xok S X v) (hp : pr S u) : Xok S (hin S u X) (v + 1) := by
  refine ⟨Nat.succ_le_succ h.1, fun k hk => ?_, hin_so h.2.2⟩
  have hk' : k < X.1 + 1 := hk
  have a1 := hps_le S u X.2 X.1
  rcases Nat.lt_trichotomy k (hps S u X.2 X.1) with q | q | q
  · rw [hin_lt q]; exact h.2.1 k (by omega)
  · rw [hin_eq q]; exact hp
  · rw [hin_gt q]; exact h.2.1 (k - 1) (by omega)
def xst (S : Sh) (c : Int32) (u : Nat) (X : XH) : XH := if c = 42 ∨ c = nI (S 9 u) then hin S u X else X
theorem xst_ok {S : Sh} {X : XH} {c : Int32} {u v : Nat} (h : Xok S X v) (hp : pr S u) : Xok S (xst S c u X) (v + 1) := by
  unfold xst; split
  · exact hin_ok h hp
  · exact Xok_le h (by omega)
def xsb (S : Sh) (c : Int32) (q : Nat) : Nat → Nat → XH → XH
  | _, 0, X => X
  | k, d + 1, X => xsb S c q (k + 1) d (xst S c (4 * q + k) X)
theorem xsb_ok {S : Sh} {c : Int32} {q : Nat} (hp : ∀ s, s < S 8 q → pr S (4 * q + s)) : ∀ (d k : Nat) (X : XH), k + d ≤ S 8 q → Xok S X (4 * q + k) → Xok S (xsb S c q k d X) (4 * q + k + d)
  | 0, k, X, _, h => h
  | d + 1, k, X, hk, h => by
    have := xsb_ok (c := c) hp d (k + 1) (xst S c (4 * q + k) X) (by omega) (xst_ok h (hp k (by omega)))
    exact Xok_le this (by omega)
def isf (S : Sh) (q : Nat) : Prop := q / 8 < S 2 0 ∧ q % 8 < S 4 (q / 8)
theorem isf_pr {S : Sh} {q : Nat} (h : isf S q) : ∀ s, s < S 8 q → pr S (4 * q + s) := fun s hs => by
  have e : 8 * (q / 8) + q % 8 = q := by omega
  exact ⟨q / 8, q % 8, s, h.1, h.2, by rw [e]; exact hs, by rw [e]⟩
def xq (S : Sh) (t c : Int32) (q : Nat) (X : XH) : XH := if (q / 8 < S 2 0 ∧ q % 8 < S 4 (q / 8)) ∧ nI (S 5 q) = t then xsb S c q 0 (S 8 q) X else X
def xfl (S : Sh) (t c : Int32) : Nat → Nat → XH → XH
  | _, 0, X => X
  | q, d + 1, X => xfl S t c (q + 1) d (xq S t c q X)
theorem isf_fld {S : Sh} {q : Nat} (hok : ps_ok S) (h : isf S q) : ps_fld S q := by
  have := (hok.2.2.2.1 _ h.1).2.2 _ h.2
  rwa [show 8 * (q / 8) + q % 8 = q by omega] at this
theorem xq_ok {S : Sh} {t c : Int32} {q : Nat} {X : XH} (hok : ps_ok S) (h : Xok S X (4 * q)) : Xok S (xq S t c q X) (4 * (q + 1)) := by
  unfold xq; split
  · rename_i hq
    have h8 := (isf_fld hok hq.1).2.2.2.2.2.1
    exact Xok_le (xsb_ok (isf_pr hq.1) (S 8 q) 0 X (by omega) h) (by omega)
  · exact Xok_le h (by omega)
theorem xfl_ok {S : Sh} {t c : Int32} (hok : ps_ok S) : ∀ (d q : Nat) (X : XH), Xok S X (4 * q) → Xok S (xfl S t c q d X) (4 * (q + d))
  | 0, q, X, h => h
  | d + 1, q, X, h => by
    have := xfl_ok (t := t) (c := c) hok d (q + 1) (xq S t c q X) (xq_ok hok h)
    exact Xok_le this (by omega)
theorem xfl_add {S : Sh} {t c : Int32} : ∀ (d e q : Nat) (X : XH), xfl S t c q (d + e) X = xfl S t c (q + d) e (xfl S t c q d X)
  | 0, e, q, X => by rw [Nat.zero_add]; rfl
  | d + 1, e, q, X => by
    rw [show d + 1 + e = (d + e) + 1 by omega]
    show xfl S t c (q + 1) (d + e) (xq S t c q X) = xfl S t c (q + (d + 1)) e (xfl S t c (q + 1) d (xq S t c q X))
    rw [xfl_add d e (q + 1) _, show q + 1 + d = q + (d + 1) by omega]
theorem xfl_id {S : Sh} {t c : Int32} : ∀ (d q : Nat) (X : XH), (∀ p, q ≤ p → p < q + d → ¬ isf S p) → xfl S t c q d X = X
  | 0, q, X, _ => rfl
  | d + 1, q, X, h => by
    show xfl S t c (q + 1) d (xq S t c q X) = X
    rw [show xq S t c q X = X from if_neg (fun k => h q (Nat.le_refl q) (by omega) k.1)]
    exact xfl_id d (q + 1) X (fun p h1 h2 => h p (by omega) (by omega))
-- ===== list: the class =====
def hC (b : Nat) (σ : Sg) (X : XH) : Prop := σ.1 (b + 6) 1 = nI X.1 ∧ ∀ k, k < X.1 → σ.1 (b + 7) k = nI (X.2 k)
def fH (b : Nat) (σ σ' : Sg) : Prop := (∀ z k, z ≠ b + 6 → z ≠ b + 7 → σ'.1 z k = σ.1 z k) ∧ σ'.2 = σ.2
theorem fH.rf {b : Nat} {σ : Sg} : fH b σ σ := ⟨fun _ _ _ _ => rfl, rfl⟩
theorem fH.tr {b : Nat} {σ σ1 σ2 : Sg} (h : fH b σ σ1) (h2 : fH b σ1 σ2) : fH b σ σ2 := ⟨fun a k x y => (h2.1 a k x y).trans (h.1 a k x y), h2.2.trans h.2⟩
def cA (b : Nat) (σ : Sg) (S : Sh) : Prop := σ.1 b 5 = nI (S 2 0) ∧ (∀ r, r < S 2 0 → rc_rec b σ S r) ∧ rc_row b σ
theorem cA_f {b : Nat} {σ σ' : Sg} {S : Sh} (hok : ps_ok S) (hf : fH b σ σ') (h : cA b σ S) : cA b σ' S := by
  have hn := hok.2.2.1
  refine ⟨by rw [hf.1 b 5 (by omega) (by omega)]; exact h.1, fun r hr => ?_, ?_⟩
  · exact rc_rec_f (by omega) h.2.2 (fun a k ha => hf.1 a k (by omega) (by omega)) hf.2 (fun _ _ _ => rfl) (hok.2.2.2.1 r hr).1 (h.2.1 r hr)
  · have := h.2.2
    unfold rc_row at this ⊢
    rw [hf.2]; exact this
theorem kyC {b u : Nat} {σ : Sg} {S : Sh} (hok : ps_ok S) (hc : cA b σ S) (hp : pr S u) : ∃ a, fn_X2_keyOf b σ (nI u) = some a ∧ kX0 σ a (kyK S u) ∧ sg_kR b a = 20 := by
  obtain ⟨r, f, s, h1, h2, h3, hu⟩ := hp
  have hR := hok.2.2.2.1 r h1
  have hF := hR.2.2 f h2
  have a1 := hok.2.2.1
  have a2 := hR.1
  have a3 := hF.2.2.2.2.2.1
  have e1 : u / 32 = r := by omega
  have e2 : u / 4 - r * 8 = f := by omega
  have e3 : u - u / 4 * 4 = s := by omega
  have e4 : u / 4 / 8 = r := by omega
  obtain ⟨p, hp8, ep⟩ := (hc.2.2 r (by omega)).1 f (by omega)
  have hS := ((hc.2.1 r h1).2.2 f h2).2.2.2.2 s h3
  rw [← hu] at hS
  refine ⟨σ.2 (ad_C b r + 2) f + 2 + 4 * s + 2, ?_, ⟨hS.2.2.2.1, hS.2.2.2.2.1⟩, ?_⟩
  · unfold fn_X2_keyOf fn_X2_recordOf fn_X2_fieldOf fn_X2_subfieldOf
    simp (disch := omega) only [lit, nI_add, nI_mul, s_sub, a_le, a_lt, a_eq, sg_lt, sg_xN, s_ib, Option.bind_some, not_false_eq_true, true_and, if_pos, if_neg, ↓reduceIte, Nat.zero_add, Nat.add_zero, Nat.zero_le, s_div, e1, e2, e3, e4]
  · rw [show σ.2 (ad_C b r + 2) f = b + 10 + 147 * r + 3 + 18 * p from ep]; exact if_neg (by omega)
theorem hk_C {b u v x : Nat} {σ : Sg} {S : Sh} (hok : ps_ok S) (hc : cA b σ S) (pu : pr S u) (pv : pr S v) (hx : kX0 σ x (kyK S u)) (h20 : sg_kR b x = 20) : ∃ a r, fn_X2_keyOf b σ (nI v) = some a ∧ fn_X3_against b σ a x = some r ∧ ((0 : Int32) < r ↔ hk S u < hk S v) := by
  obtain ⟨a, a1, a2, a3⟩ := kyC hok hc pv
  have su := (pr_ok hok pu).2
  have sv := (pr_ok hok pv).2
  have lu := kyK_len su
  have lv := kyK_len sv
  have gu := (kyK_good su).1
  have gv := (kyK_good sv).1
  obtain ⟨r, r1, r2⟩ := agC (b := b) a2 hx (by omega) (by omega) gv gu
  exact ⟨a, r, a1, r1, ag_kv r2 gv gu lv lu⟩
theorem rk_C {b u x : Nat} {σ : Sg} {S : Sh} {X : XH} (hok : ps_ok S) (hc : cA b σ S) (hX : Xok S X 192) (hh : hC b σ X) (pu : pr S u) (hx : kX0 σ x (kyK S u)) (h20 : sg_kR b x = 20) : ∀ (j w f p : Nat), w = 2 ^ j → w ≤ 128 → j + 1 < f → p ≤ X.1 → (0 < p → hk S (X.2 (p - 1)) ≤ hk S u) → (∀ i, p + 2 * w ≤ i + 1 → i < X.1 → hk S u < hk S (X.2 i)) → fn_X2_rank_B7 b σ f x (nI p) (nI w) = some (nI (hps S u X.2 X.1)) := by
  have hX1 := hX.1
  intro j
  have key : ∀ (w f p : Nat), 0 < w → w ≤ 128 → p ≤ X.1 → (0 < p → hk S (X.2 (p - 1)) ≤ hk S u) → (∀ i, p + 2 * w ≤ i + 1 → i < X.1 → hk S u < hk S (X.2 i)) → ∃ p', p' ≤ X.1 ∧ (0 < p' → hk S (X.2 (p' - 1)) ≤ hk S u) ∧ (∀ i, p' + w ≤ i + 1 → i < X.1 → hk S u < hk S (X.2 i)) ∧ fn_X2_rank_B7 b σ (f + 1) x (nI p) (nI w) = fn_X2_rank_B7 b σ f x (nI p') (nI (w / 2)) := by
    intro w f p hw hw2 hp hlo hhi
    by_cases hn : X.1 < p + w
    · refine ⟨p, hp, hlo, fun i h1 h2 => by omega, ?_⟩
      show fn_X2_rank_B7b b σ (fn_X2_rank_B7 b σ f) x (nI p) (nI w) = _
      unfold fn_X2_rank_B7b fn_X2_rank_B50
      simp (disch := omega) only [lit, nI_add, nI_mul, s_sub, a_le, a_lt, a_eq, sg_lt, sg_xN, s_ib, Option.bind_some, not_false_eq_true, true_and, if_pos, if_neg, ↓reduceIte, Nat.zero_add, Nat.add_zero, Nat.zero_le, hh.1, s_div]
    · obtain ⟨a, r, a1, a2, a3⟩ := hk_C hok hc pu (hX.2.1 (p + w - 1) (by omega)) hx h20
      have hg := hh.2 (p + w - 1) (by omega)
      by_cases hq : hk S u < hk S (X.2 (p + w - 1))
      · refine ⟨p, hp, hlo, fun i h1 h2 => ?_, ?_⟩
        · have := hX.2.2 (p + w - 1) i (by omega) h2
          omega
        · show fn_X2_rank_B7b b σ (fn_X2_rank_B7 b σ f) x (nI p) (nI w) = _
          have hr := a3.mpr hq
          unfold fn_X2_rank_B7b fn_X2_rank_B50
          simp (disch := omega) only [lit, nI_add, nI_mul, s_sub, a_le, a_lt, a_eq, sg_lt, sg_xN, s_ib, Option.bind_some, not_false_eq_true, true_and, if_pos, if_neg, ↓reduceIte, Nat.zero_add, Nat.add_zero, Nat.zero_le, hh.1, hg, a1, a2]
          rw [if_pos (show nI 0 < r from hr)]
          simp (disch := omega) only [lit, nI_add, nI_mul, s_sub, a_le, a_lt, a_eq, sg_lt, sg_xN, s_ib, Option.bind_some, not_false_eq_true, true_and, if_pos, if_neg, ↓reduceIte, Nat.zero_add, Nat.add_zero, Nat.zero_le, s_div]
      · refine ⟨p + w, by omega, fun _ => by omega, fun i h1 h2 => hhi i (by omega) h2, ?_⟩
        · show fn_X2_rank_B7b b σ (fn_X2_rank_B7 b σ f) x (nI p) (nI w) = _
          have hr : ¬ (0 : Int32) < r := fun q => hq (a3.mp q)
          unfold fn_X2_rank_B7b fn_X2_rank_B50
          simp (disch := omega) only [lit, nI_add, nI_mul, s_sub, a_le, a_lt, a_eq, sg_lt, sg_xN, s_ib, Option.bind_some, not_false_eq_true, true_and, if_pos, if_neg, ↓reduceIte, Nat.zero_add, Nat.add_zero, Nat.zero_le, hh.1, hg, a1, a2]
          rw [if_neg (show ¬ nI 0 < r from hr)]
          simp (disch := omega) only [lit, nI_add, nI_mul, s_sub, a_le, a_lt, a_eq, sg_lt, sg_xN, s_ib, Option.bind_some, not_false_eq_true, true_and, if_pos, if_neg, ↓reduceIte, Nat.zero_add, Nat.add_zero, Nat.zero_le, s_div]
  induction j with
  | zero =>
    intro w f p hw hw2 hf hp hlo hhi
    obtain ⟨f, rfl⟩ : ∃ g, f = g + 2 := ⟨f - 2, by omega⟩
    have hw1 : w = 1 := hw
    obtain ⟨p', b1, b2, b3, b4⟩ := key w (f + 1) p (by omega) hw2 hp hlo hhi
    rw [b4, hw1, ← hps_un hX.2.2 b1 b2 (fun q => b3 p' (by omega) q)]
    show fn_X2_rank_B7b b σ (fn_X2_rank_B7 b σ f) x (nI p') (nI 0) = _
    unfold fn_X2_rank_B7b
    simp (disch := omega) only [lit, nI_add, nI_mul, s_sub, a_le, a_lt, a_eq, sg_lt, sg_xN, s_ib, Option.bind_some, not_false_eq_true, true_and, if_pos, if_neg, ↓reduceIte, Nat.zero_add, Nat.add_zero, Nat.zero_le]
  | succ j ih =>
    intro w f p hw hw2 hf hp hlo hhi
    obtain ⟨f, rfl⟩ : ∃ g, f = g + 1 := ⟨f - 1, by omega⟩
    have hw1 : w = 2 * 2 ^ j := by rw [hw, Nat.pow_succ]; omega
    have hj : 0 < 2 ^ j := Nat.two_pow_pos j
    obtain ⟨p', b1, b2, b3, b4⟩ := key w f p (by omega) hw2 hp hlo hhi
    rw [b4]
    exact ih (w / 2) f p' (by omega) (by omega) (by omega) b1 b2 (fun i h1 h2 => b3 i (by omega) h2)
theorem adC {b u : Nat} {σ : Sg} {S : Sh} {X : XH} (hok : ps_ok S) (hc : cA b σ S) (hX : Xok S X 191) (hh : hC b σ X) (pu : pr S u) : ∃ σ', fn_X2_add b σ (nI u) = some σ' ∧ hC b σ' (hin S u X) ∧ fH b σ σ' := by
  have hX1 := hX.1
  have hu := (pr_ok hok pu).1
  obtain ⟨x, x1, x2, x3⟩ := kyC hok hc pu
  have hrk : fn_X2_rank b σ x = some (nI (hps S u X.2 X.1)) := by
    unfold fn_X2_rank
    exact rk_C hok hc (Xok_le hX (by omega)) hh pu x2 x3 7 128 sg_N 0 rfl (by omega) (by show _ < 1000; omega) (by omega) (fun q => absurd q (by omega)) (fun i h1 h2 => by omega)
  have hle := hps_le S u X.2 X.1
  have hlt : ∀ k, k < hps S u X.2 X.1 → (hin S u X).2 k = X.2 k := fun k h => hin_lt h
  have heq : ∀ k, k = hps S u X.2 X.1 → (hin S u X).2 k = u := fun k h => hin_eq h
  have hgt : ∀ k, hps S u X.2 X.1 < k → (hin S u X).2 k = X.2 (k - 1) := fun k h => hin_gt h
  generalize hp : hps S u X.2 X.1 = p at *
  refine ⟨sg_w (sg_w (sg_f σ (b + 7) (va_cpy (σ.1 (b + 7)) (σ.1 (b + 7)) p (p + 1) (X.1 - p))) (b + 7) p (nI u)) (b + 6) 1 (nI (X.1 + 1)), ?_, ⟨sg_wgs, fun k hk => ?_⟩, ⟨fun z k h1 h2 => ?_, rfl⟩⟩
  · unfold fn_X2_add
    have e1 : sg_cp (nI p) (nI (p + 1)) (nI (X.1 - p)) 192 := ⟨nI_pos (by omega), nI_pos (by omega), nI_pos (by omega), by rw [nI_clamp (by omega), nI_clamp (by omega)]; omega, by rw [nI_clamp (by omega), nI_clamp (by omega)]; omega⟩
    have e2 : (sg_w (sg_f σ (b + 7) (va_cpy (σ.1 (b + 7)) (σ.1 (b + 7)) p (p + 1) (X.1 - p))) (b + 7) p (nI u)).1 (b + 6) 1 = nI X.1 := by
      rw [sg_wga (by omega)]
      show (if b + 6 = b + 7 then _ else σ.1 (b + 6)) 1 = _
      rw [if_neg (by omega)]; exact hh.1
    rw [hh.1, if_neg (show ¬ (192 : Int32) ≤ nI X.1 from nI_ge (b := 192) (by omega) (by decide)), x1, Option.bind_some, hrk, Option.bind_some, nI_1, s_sub hle, if_pos e1]
    unfold sg_lt
    simp only []
    rw [if_pos (sg_ibN (by omega) (by decide)), sg_xN (by omega), sg_xN (by omega), sg_xN (by omega), e2, nI_1]
  · have hk' : k < X.1 + 1 := hk
    rw [sg_wga (by omega)]
    rcases Nat.lt_trichotomy k p with q | q | q
    · rw [hlt k (by omega), sg_wgk (by omega)]
      show (if b + 7 = b + 7 then va_cpy (σ.1 (b + 7)) (σ.1 (b + 7)) p (p + 1) (X.1 - p) else σ.1 (b + 7)) k = _
      rw [if_pos rfl]
      unfold va_cpy
      rw [if_neg (by omega)]; exact hh.2 k (by omega)
    · rw [heq k (by omega), q, sg_wgs]
    · rw [hgt k (by omega), sg_wgk (by omega)]
      show (if b + 7 = b + 7 then va_cpy (σ.1 (b + 7)) (σ.1 (b + 7)) p (p + 1) (X.1 - p) else σ.1 (b + 7)) k = _
      rw [if_pos rfl]
      unfold va_cpy
      rw [if_pos (by omega), show p + (k - (p + 1)) = k - 1 by omega]; exact hh.2 (k - 1) (by omega)
  · rw [sg_wga h1, sg_wga h2]
    show (if z = b + 7 then _ else σ.1 z) k = _
    rw [if_neg h2]
