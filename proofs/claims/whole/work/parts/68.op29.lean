-- ===== read: the leader =====
def mtM (m : Nat) (τ : Sg) (v p : Int32) : Sg := sg_w (sg_w τ m 12 v) m 13 p
theorem mtM_12 {m : Nat} {τ : Sg} {v p : Int32} : (mtM m τ v p).1 m 12 = v := by unfold mtM; rw [sg_wgk (by decide), sg_wgs]
theorem mtM_13 {m : Nat} {τ : Sg} {v p : Int32} : (mtM m τ v p).1 m 13 = p := by unfold mtM; rw [sg_wgs]
theorem mtM_o {m z k : Nat} {τ : Sg} {v p : Int32} (h : ¬ (z = m ∧ (k = 12 ∨ k = 13))) : (mtM m τ v p).1 z k = τ.1 z k := by
  unfold mtM; rw [sg_wg, if_neg (fun q => h ⟨q.1, Or.inr q.2⟩), sg_wg, if_neg (fun q => h ⟨q.1, Or.inl q.2⟩)]
theorem flM0 {m : Nat} {τ : Sg} {v p : Int32} (h : τ.1 m 12 = 0) : fn_X8_fail m τ v p = some (mtM m τ v p) := by
  unfold fn_X8_fail
  rw [if_pos h]; rfl
def ldp (S : Sh) (p : Nat) : Prop := if p < 5 then S 1 p = 48 + dg (S 0 0) (4 - p) else if p < 10 ∨ (16 < p ∧ p < 20) then 31 < S 1 p ∧ S 1 p < 127 else if p < 12 then S 1 p = 50 else if p < 17 then 48 ≤ S 1 p ∧ S 1 p ≤ 57 else if p = 20 then S 1 p = 52 else if p = 21 then S 1 p = 53 else S 1 p = 48
def gL (S : Sh) (p : Nat) : Prop := p < S 0 0 ∧ ldp S p
theorem gL_1 {S : Sh} {p : Nat} (h : p < 5) : gL S p ↔ gE S (S 0 0) 0 5 p := by
  unfold gL gE ldp
  rw [if_pos h, show 5 - 1 - (p - 0) = 4 - p by omega]
theorem gL_2 {S : Sh} {p : Nat} (h : 5 ≤ p ∧ p < 10 ∨ 17 ≤ p ∧ p < 20) : gL S p ↔ gP S p := by
  unfold gL gP ldp
  rw [if_neg (by omega), if_pos (by omega)]
theorem gL_3 {S : Sh} {p : Nat} (h : 10 ≤ p ∧ p < 12) : gL S p ↔ gE S 22 10 2 p := by
  unfold gL gE ldp
  rw [if_neg (by omega), if_neg (by omega), if_pos (by omega)]
  have h2 : p = 10 ∨ p = 11 := by omega
  rcases h2 with rfl | rfl
  · rw [show dg 22 (2 - 1 - (10 - 10)) = 2 by decide]
  · rw [show dg 22 (2 - 1 - (11 - 10)) = 2 by decide]
theorem gL_4 {S : Sh} {p : Nat} (h : 12 ≤ p ∧ p < 17) : gL S p ↔ gD S p := by
  unfold gL gD ldp
  rw [if_neg (by omega), if_neg (by omega), if_neg (by omega), if_pos (by omega)]
theorem gL_6 {S : Sh} {p : Nat} (h : 20 ≤ p ∧ p < 24) : gL S p ↔ gE S 4500 20 4 p := by
  unfold gL gE ldp
  rw [if_neg (by omega), if_neg (by omega), if_neg (by omega), if_neg (by omega)]
  have h2 : p = 20 ∨ p = 21 ∨ p = 22 ∨ p = 23 := by omega
  rcases h2 with rfl | rfl | rfl | rfl
  · rw [if_pos rfl, show dg 4500 (4 - 1 - (20 - 20)) = 4 by decide]
  · rw [if_neg (by decide), if_pos rfl, show dg 4500 (4 - 1 - (21 - 20)) = 5 by decide]
  · rw [if_neg (by decide), if_neg (by decide), show dg 4500 (4 - 1 - (22 - 20)) = 0 by decide]
  · rw [if_neg (by decide), if_neg (by decide), show dg 4500 (4 - 1 - (23 - 20)) = 0 by decide]
theorem m48 : ∀ t, t < 128 → ∀ d, d < 10 → ((nI t - 48 = nI d) ↔ t = 48 + d) := by decide +kernel
theorem bv_if {P : Prop} [Decidable P] : bv (if P then 1 else 0) P := by
  by_cases h : P
  · rw [if_pos h]; exact Or.inr ⟨rfl, h⟩
  · rw [if_neg h]; exact Or.inl ⟨rfl, h⟩
theorem so_if {P : Prop} [Decidable P] : (if P then some (1 : Int32) else some 0) = some (if P then 1 else 0) := by
  by_cases h : P
  · rw [if_pos h, if_pos h]
  · rw [if_neg h, if_neg h]
theorem leM {m i : Nat} {τ : Sg} {S : Sh} (hok : ps_ok S) (h : rm_txt m τ S) (hi : i < S 0 0) (h24 : i < 24) : ∃ v, fn_X8_leads m τ (nI i) = some v ∧ bv v (ldp S i) := by
  have hn := hok.1
  have h128 := hok.2.1 i hi
  have hT := h.2 i hi
  unfold fn_X8_leads fn_X8_leads_B52 fn_X8_leads_B57 ldp
  rw [if_pos (sg_ibN (by omega) (by decide)), sg_xN (by omega), hT]
  unfold sg_lt
  simp only []
  by_cases c1 : i < 5
  · rw [if_neg (show ¬ (5 : Int32) ≤ nI i from nI_ge (b := 5) c1 (by decide)), if_pos c1, h.1]
    have e := dM (K := 5) (i := i) (v := S 0 0) (by omega) c1 (by omega)
    rw [show fn_X8_digitOf (nI (S 0 0)) 5 (nI i) = _ from e, Option.bind_some, so_if, show 5 - 1 - i = 4 - i by omega]
    exact ⟨_, rfl, bv_iff bv_if (m48 _ h128 _ (dg_lt _ _))⟩
  rw [if_pos (show (5 : Int32) ≤ nI i from nI_le (a := 5) (by omega) (by omega)), if_neg c1]
  have hpl : ∃ v, ((fn_X8_isPlain (nI (S 1 i))).bind fun r1 => if sg_bo r1 then some r1 else none) = some v ∧ bv v (31 < S 1 i ∧ S 1 i < 127) := by
    rw [← pl_eq, pl_N h128, Option.bind_some, if_pos (bv_bo bv_if)]
    exact ⟨_, rfl, bv_if⟩
  by_cases c2 : i < 10
  · rw [if_pos (show nI i < (10 : Int32) from nI_lt (b := 10) c2 (by decide)), if_pos (Or.inl c2)]
    exact hpl
  rw [if_neg (show ¬ nI i < (10 : Int32) from nI_nlt (b := 10) (by omega) (by omega))]
  by_cases c3 : i ≤ 16
  · rw [if_pos (show nI i ≤ (16 : Int32) from nI_le (b := 16) c3 (by decide)), if_neg (show ¬ (i < 10 ∨ (16 < i ∧ i < 20)) by omega)]
    by_cases c4 : i < 12
    · rw [if_neg (show ¬ (12 : Int32) ≤ nI i from nI_ge (b := 12) c4 (by decide)), if_pos c4, so_if]
      refine ⟨_, rfl, bv_iff bv_if ?_⟩
      exact nI_eq (b := 50) (by omega) (by omega)
    · rw [if_pos (show (12 : Int32) ≤ nI i from nI_le (a := 12) (by omega) (by omega)), if_neg c4, if_neg (show ¬ (17 : Int32) ≤ nI i from nI_ge (b := 17) (by omega) (by decide)), if_pos (show i < 17 by omega), ← di_val, di_N h128, Option.bind_some, if_pos (bv_bo bv_if)]
      exact ⟨_, rfl, bv_if⟩
  rw [if_neg (show ¬ nI i ≤ (16 : Int32) from nI_ge (a := 16) (by omega) (by omega))]
  by_cases c5 : i < 20
  · rw [if_neg (show ¬ (20 : Int32) ≤ nI i from nI_ge (b := 20) c5 (by decide)), if_pos (show i < 10 ∨ (16 < i ∧ i < 20) by omega)]
    exact hpl
  rw [if_pos (show (20 : Int32) ≤ nI i from nI_le (a := 20) (by omega) (by omega)), if_neg (show ¬ (i < 10 ∨ (16 < i ∧ i < 20)) by omega), if_pos (show (12 : Int32) ≤ nI i from nI_le (a := 12) (by omega) (by omega)), if_neg (show ¬ i < 12 by omega), if_pos (show (17 : Int32) ≤ nI i from nI_le (a := 17) (by omega) (by omega)), if_neg (show ¬ i < 17 by omega)]
  by_cases c6 : i = 20
  · rw [if_pos (show nI i = 20 by rw [c6]; rfl), if_pos c6, so_if]
    exact ⟨_, rfl, bv_iff bv_if (nI_eq (b := 52) (by omega) (by omega))⟩
  rw [if_neg (show ¬ nI i = 20 from fun q => c6 ((nI_eq (b := 20) (by omega) (by omega)).mp q)), if_neg c6]
  by_cases c7 : i = 21
  · rw [if_pos (show nI i = 21 by rw [c7]; rfl), if_pos c7, so_if]
    exact ⟨_, rfl, bv_iff bv_if (nI_eq (b := 53) (by omega) (by omega))⟩
  rw [if_neg (show ¬ nI i = 21 from fun q => c7 ((nI_eq (b := 21) (by omega) (by omega)).mp q)), if_neg c7, so_if]
  exact ⟨_, rfl, bv_iff bv_if (nI_eq (b := 48) (by omega) (by omega))⟩
theorem rlS {m i f : Nat} {x : Int32} {τ : Sg} {S : Sh} (hok : ps_ok S) (h : rm_txt m τ S) (h0 : τ.1 m 12 = 0) (h24 : i < 24) (h16 : i ≠ 16) (hg : gL S i) : fn_X8_readLeader_B4 m (f + 1) τ x (nI i) = fn_X8_readLeader_B4 m f τ x (nI (i + 1)) := by
  have hn := hok.1
  obtain ⟨v, v1, v2⟩ := leM hok h hg.1 h24
  have hv : v = 1 := v2.elim (fun q => absurd hg.2 q.2) (fun q => q.1)
  rw [hv] at v1
  show fn_X8_readLeader_B4b m (fn_X8_readLeader_B4 m f) τ x (nI i) = _
  unfold fn_X8_readLeader_B4b fn_X8_readLeader_B118
  rw [if_neg (show ¬ (24 : Int32) ≤ nI i from nI_ge (b := 24) h24 (by decide)), if_pos h0, h.1, if_pos (nI_lt hg.1 (by omega)), v1, Option.bind_some, if_neg (show ¬ (1 : Int32) = 0 by decide), if_neg (show ¬ nI i = 16 from fun q => h16 ((nI_eq (b := 16) (by omega) (by omega)).mp q))]
  unfold sg_lt
  simp only []
  rw [nI_1]
theorem rl118 {m f i : Nat} {x v p : Int32} {τ : Sg} (hv : v ≠ 0) : fn_X8_readLeader_B118 m (fn_X8_readLeader_B4 m (f + 1)) (mtM m τ v p) x (nI i) = some ((x - 25) / 12, mtM m τ v p) := by
  show fn_X8_readLeader_B4b m (fn_X8_readLeader_B4 m f) (mtM m τ v p) x (nI i + 1) = _
  unfold fn_X8_readLeader_B4b fn_X8_readLeader_B124
  rw [mtM_12, if_neg hv]
  by_cases q : (24 : Int32) ≤ nI i + 1
  · rw [if_pos q]
  · rw [if_neg q]
theorem rlB {m i f : Nat} {x : Int32} {τ : Sg} {S : Sh} (hok : ps_ok S) (h : rm_txt m τ S) (h0 : τ.1 m 12 = 0) (h24 : i < 24) (hN : i ≤ S 0 0) (hg : ¬ gL S i) : fn_X8_readLeader_B4 m (f + 2) τ x (nI i) = some ((x - 25) / 12, mtM m τ (-3) (nI i)) := by
  have hn := hok.1
  show fn_X8_readLeader_B4b m (fn_X8_readLeader_B4 m (f + 1)) τ x (nI i) = _
  unfold fn_X8_readLeader_B4b
  rw [if_neg (show ¬ (24 : Int32) ≤ nI i from nI_ge (b := 24) h24 (by decide)), if_pos h0, h.1]
  by_cases hi : i < S 0 0
  · obtain ⟨v, v1, v2⟩ := leM hok h hi h24
    have hv : v = 0 := v2.elim (fun q => q.1) (fun q => absurd ⟨hi, q.2⟩ hg)
    rw [hv] at v1
    rw [if_pos (nI_lt hi (by omega)), v1, Option.bind_some, if_pos rfl, flM0 h0, Option.bind_some]
    exact rl118 (by decide)
  · rw [if_neg (nI_nlt (by omega) (by omega)), flM0 h0, Option.bind_some, show S 0 0 = i by omega]
    exact rl118 (by decide)
theorem rlR {m : Nat} {x : Int32} {τ : Sg} {S : Sh} (hok : ps_ok S) (h : rm_txt m τ S) (h0 : τ.1 m 12 = 0) : ∀ (d i f : Nat), i + d ≤ 24 → (∀ p, i ≤ p → p < i + d → gL S p ∧ p ≠ 16) → fn_X8_readLeader_B4 m (f + d) τ x (nI i) = fn_X8_readLeader_B4 m f τ x (nI (i + d))
  | 0, i, f, _, _ => rfl
  | d + 1, i, f, h1, h2 => by
    have hp := h2 i (Nat.le_refl i) (by omega)
    rw [show f + (d + 1) = (f + d) + 1 by omega, rlS hok h h0 (by omega) hp.2 hp.1, rlR hok h h0 d (i + 1) f (by omega) (fun p a c => h2 p (by omega) (by omega)), show i + 1 + d = i + (d + 1) by omega]
def gB (S : Sh) : Prop := 25 ≤ nv (S 1) 12 5 ∧ nv (S 1) 12 5 ≤ 121 ∧ (nv (S 1) 12 5 - 25) % 12 = 0 ∧ nv (S 1) 12 5 < S 0 0
theorem rl16 {m f : Nat} {x : Int32} {τ : Sg} {S : Sh} (hok : ps_ok S) (h : rm_txt m τ S) (h0 : τ.1 m 12 = 0) (hg : ∀ p, p < 17 → gL S p) : (gB S ∧ fn_X8_readLeader_B4 m (f + 2) τ x (nI 16) = fn_X8_readLeader_B4 m (f + 1) τ (nI (nv (S 1) 12 5)) (nI 17)) ∨ (¬ gB S ∧ ∃ y, fn_X8_readLeader_B4 m (f + 2) τ x (nI 16) = some (y, mtM m τ (-3) 12)) := by
  have hn := hok.1
  have hg16 := hg 16 (by omega)
  obtain ⟨v, v1, v2⟩ := leM hok h hg16.1 (by omega)
  have hv : v = 1 := v2.elim (fun q => absurd hg16.2 q.2) (fun q => q.1)
  rw [hv] at v1
  have hdg : ∀ i, i < 5 → gD S (12 + i) := fun i hi => (gL_4 (by omega)).mp (hg (12 + i) (by omega))
  have hna := naM (m := m) hok h (by omega) hdg
  have hlt := nv_lt (S := S) (a := 12) 5 hdg
  have h105 : 10 ^ 5 = 100000 := by decide
  rw [h105] at hlt
  have hb16 : ∀ y, y = nI (nv (S 1) 12 5) → fn_X8_readLeader_B104 m (fn_X8_readLeader_B4 m (f + 1)) τ y (nI 16) = some ((y - 25) / 12, mtM m τ (-3) 12) := fun y hy => by
    unfold fn_X8_readLeader_B104 fn_X8_readLeader_B105
    rw [if_pos rfl, flM0 h0, Option.bind_some]
    exact rl118 (by decide)
  unfold gB
  generalize nv (S 1) 12 5 = B at *
  have e0 : fn_X8_readLeader_B4 m (f + 2) τ x (nI 16) = (if nI B < 25 then fn_X8_readLeader_B104 m (fn_X8_readLeader_B4 m (f + 1)) τ (nI B) (nI 16) else if (121 : Int32) < nI B then fn_X8_readLeader_B104 m (fn_X8_readLeader_B4 m (f + 1)) τ (nI B) (nI 16) else if ((nI B - 25) - (nI B - 25) / 12 * 12) = 0 then (if nI (S 0 0) ≤ nI B then fn_X8_readLeader_B104 m (fn_X8_readLeader_B4 m (f + 1)) τ (nI B) (nI 16) else fn_X8_readLeader_B105 m (fn_X8_readLeader_B4 m (f + 1)) τ (nI B) (nI 16) 1) else fn_X8_readLeader_B104 m (fn_X8_readLeader_B4 m (f + 1)) τ (nI B) (nI 16)) := by
    show fn_X8_readLeader_B4b m (fn_X8_readLeader_B4 m (f + 1)) τ x (nI 16) = _
    unfold fn_X8_readLeader_B4b
    rw [if_neg (show ¬ (24 : Int32) ≤ nI 16 by decide), if_pos h0, h.1, if_pos (nI_lt hg16.1 (by omega)), v1, Option.bind_some, if_neg (show ¬ (1 : Int32) = 0 by decide), if_pos (show nI 16 = 16 from rfl), show fn_X8_numberAt m τ 12 5 = some (nI B) from hna, Option.bind_some]
  rw [e0, hb16 _ rfl]
  by_cases c1 : B < 25
  · rw [if_pos (show nI B < (25 : Int32) from nI_lt (b := 25) c1 (by decide))]
    exact Or.inr ⟨fun q => by omega, _, rfl⟩
  rw [if_neg (show ¬ nI B < (25 : Int32) from nI_nlt (b := 25) (by omega) (by omega))]
  by_cases c2 : 121 < B
  · rw [if_pos (show (121 : Int32) < nI B from nI_lt (a := 121) c2 (by omega))]
    exact Or.inr ⟨fun q => by omega, _, rfl⟩
  rw [if_neg (show ¬ (121 : Int32) < nI B from nI_nlt (a := 121) (by omega) (by omega)), show nI B - 25 = nI (B - 25) from s_sub (b := 25) (by omega), show nI (B - 25) - nI (B - 25) / 12 * 12 = nI ((B - 25) % 12) from s_rem (b := 12) (by omega) (by omega) (by omega)]
  by_cases c3 : (B - 25) % 12 = 0
  · rw [if_pos (show nI ((B - 25) % 12) = 0 by rw [c3]; rfl)]
    by_cases c4 : B < S 0 0
    · rw [if_neg (nI_ge c4 (by omega))]
      refine Or.inl ⟨⟨by omega, by omega, c3, c4⟩, ?_⟩
      unfold fn_X8_readLeader_B105 fn_X8_readLeader_B118
      rw [if_neg (show ¬ (1 : Int32) = 0 by decide)]
      rfl
    · rw [if_pos (nI_le (by omega) (by omega))]
      exact Or.inr ⟨fun q => c4 q.2.2.2, _, rfl⟩
  · rw [if_neg (show ¬ nI ((B - 25) % 12) = 0 from fun q => c3 ((nI_eq (b := 0) (by omega) (by omega)).mp q))]
    exact Or.inr ⟨fun q => c3 q.2.2.1, _, rfl⟩
section RL
variable {m : Nat} {τ : Sg} {S : Sh}
theorem rl_N {i : Nat} (hg : ∀ p, p < i → gL S p) : i ≤ S 0 0 := by
  by_cases h : i = 0
  · omega
  · have := (hg (i - 1) (by omega)).1; omega
theorem rl_b1 {i : Nat} (hok : ps_ok S) (h : rm_txt m τ S) (h0 : τ.1 m 12 = 0) (hi : i ≤ 16) (hg : ∀ p, p < i → gL S p) (hb : ¬ gL S i) : ∃ y, fn_X8_readLeader m τ = some (y, mtM m τ (-3) (nI i)) := by
  have e := rlR (x := 0) hok h h0 i 0 (1000 - i) (by omega) (fun p _ hp => ⟨hg p (by omega), by omega⟩)
  rw [show 1000 - i + i = 1000 by omega, show 0 + i = i by omega, show 1000 - i = (998 - i) + 2 by omega, rlB hok h h0 (by omega) (rl_N hg) hb] at e
  exact ⟨_, e⟩
theorem rl_16 (hok : ps_ok S) (h : rm_txt m τ S) (h0 : τ.1 m 12 = 0) (hg : ∀ p, p < 17 → gL S p) : (gB S ∧ fn_X8_readLeader m τ = fn_X8_readLeader_B4 m 983 τ (nI (nv (S 1) 12 5)) (nI 17)) ∨ (¬ gB S ∧ ∃ y, fn_X8_readLeader m τ = some (y, mtM m τ (-3) 12)) := by
  have e : fn_X8_readLeader m τ = fn_X8_readLeader_B4 m 984 τ 0 (nI 16) := rlR (x := 0) hok h h0 16 0 984 (by omega) (fun p _ hp => ⟨hg p (by omega), by omega⟩)
  rw [e]
  exact rl16 (f := 982) hok h h0 hg
theorem rl_b2 {i : Nat} (hok : ps_ok S) (h : rm_txt m τ S) (h0 : τ.1 m 12 = 0) (hi : 17 ≤ i) (h24 : i < 24) (hg : ∀ p, p < i → gL S p) (hB : gB S) (hb : ¬ gL S i) : ∃ y, fn_X8_readLeader m τ = some (y, mtM m τ (-3) (nI i)) := by
  rcases rl_16 hok h h0 (fun p hp => hg p (by omega)) with ⟨_, e⟩ | ⟨e, _⟩
  · have e2 := rlR (x := nI (nv (S 1) 12 5)) hok h h0 (i - 17) 17 (1000 - i) (by omega) (fun p _ hp => ⟨hg p (by omega), by omega⟩)
    rw [show 1000 - i + (i - 17) = 983 by omega, show 17 + (i - 17) = i by omega, show 1000 - i = (998 - i) + 2 by omega, rlB hok h h0 (by omega) (rl_N hg) hb] at e2
    exact ⟨_, e.trans e2⟩
  · exact absurd hB e
theorem rl_ok (hok : ps_ok S) (h : rm_txt m τ S) (h0 : τ.1 m 12 = 0) (hg : ∀ p, p < 24 → gL S p) (hB : gB S) : fn_X8_readLeader m τ = some (nI ((nv (S 1) 12 5 - 25) / 12), τ) := by
  rcases rl_16 hok h h0 (fun p hp => hg p (by omega)) with ⟨_, e⟩ | ⟨e, _⟩
  · have e2 := rlR (x := nI (nv (S 1) 12 5)) hok h h0 7 17 976 (by omega) (fun p _ hp => ⟨hg p (by omega), by omega⟩)
    have hn := hok.1
    have h1 := hB
    unfold gB at h1
    rw [show fn_X8_readLeader_B4 m 976 τ (nI (nv (S 1) 12 5)) (nI (17 + 7)) = some (nI ((nv (S 1) 12 5 - 25) / 12), τ) by
      show fn_X8_readLeader_B4b m (fn_X8_readLeader_B4 m 975) τ (nI (nv (S 1) 12 5)) (nI 24) = _
      unfold fn_X8_readLeader_B4b fn_X8_readLeader_B124
      rw [if_pos (show (24 : Int32) ≤ nI 24 by decide), show nI (nv (S 1) 12 5) - 25 = nI (nv (S 1) 12 5 - 25) from s_sub (b := 25) (by omega), show nI (nv (S 1) 12 5 - 25) / 12 = nI ((nv (S 1) 12 5 - 25) / 12) from s_div (b := 12) (by omega) (by omega) (by omega)]] at e2
    exact e.trans e2
  · exact absurd hB e
end RL
-- ===== the class's base =====
theorem tb_lo : ∀ B, B < 25 → ¬ (nI B = 25 + 12 * ((nI B - 25) / 12) ∧ ¬ (nI B - 25) / 12 < 0) := by decide +kernel
theorem tbC {b : Nat} {σ : Sg} {S : Sh} (h : rc_txt b σ S) (hok : ps_ok S) : FB (gD S) 12 17 ((gB S ∧ ∃ σ', fn_X4_takeBase b σ = some (1, σ') ∧ σ'.1 (b + 1) 2 = nI (nv (S 1) 12 5) ∧ σ'.1 (b + 1) 3 = nI ((nv (S 1) 12 5 - 25) / 12) ∧ (∀ z k, z ≠ b + 1 → σ'.1 z k = σ.1 z k) ∧ σ'.2 = σ.2 ∧ σ'.1 (b + 1) 7 = σ.1 (b + 1) 7) ∨ (¬ gB S ∧ FC b σ (-3) 12 (fn_X4_takeBase b σ))) (fun p => FC b σ (-3) (nI p) (fn_X4_takeBase b σ)) := by
  have hn := hok.1
  rcases tnC (b := b) (at_ := 12) (K := 5) (kind := -3) h hok (by omega) (by omega) with ⟨a1, σ1, a2, a3, a4, a5⟩ | ⟨i, a1, a2, a3, a4, σ', a5, a6, a7, a8, a9⟩
  · refine Or.inl ⟨a1, ?_⟩
    have hlt := nv_lt (S := S) (a := 12) 5 (fun i hi => a1 (12 + i) (by omega) (by omega))
    have h105 : 10 ^ 5 = 100000 := by decide
    rw [h105] at hlt
    unfold gB
    generalize nv (S 1) 12 5 = B at *
    obtain ⟨σ2, hσ2⟩ : ∃ s, s = sg_w σ1 (b + 1) 2 (nI B) := ⟨_, rfl⟩
    obtain ⟨σ3, hσ3⟩ : ∃ s, s = sg_w σ2 (b + 1) 3 ((nI B - 25) / 12) := ⟨_, rfl⟩
    have e2 : σ2.1 (b + 1) 2 = nI B := by rw [hσ2, sg_wgs]
    have e3 : σ3.1 (b + 1) 2 = nI B := by rw [hσ3, sg_wgk (by decide), e2]
    have e4 : σ3.1 (b + 1) 3 = (nI B - 25) / 12 := by rw [hσ3, sg_wgs]
    have hfr : ∀ z k, z ≠ b + 1 → σ3.1 z k = σ.1 z k := fun z k q => by rw [hσ3, sg_wga q, hσ2, sg_wga q, a4 z k (fun w => q w.1)]
    have e5 : σ3.1 (b + 2) 1 = nI (S 0 0) := by rw [hfr _ _ (by omega)]; exact h.1
    have hs2 : σ3.2 = σ.2 := by rw [hσ3, hσ2]; exact a5
    have e0 : fn_X4_takeBase b σ = (if nI B = 25 + 12 * ((nI B - 25) / 12) then (if (nI B - 25) / 12 < 0 then fn_X4_takeBase_B87 b σ3 else if (8 : Int32) < (nI B - 25) / 12 then fn_X4_takeBase_B87 b σ3 else if nI (S 0 0) ≤ nI B then fn_X4_takeBase_B87 b σ3 else fn_X4_takeBase_B88 b σ3 1) else fn_X4_takeBase_B87 b σ3) := by
      unfold fn_X4_takeBase
      rw [show fn_X4_takeNumber b σ 12 5 (-3) = some (1, σ1) from a2, Option.bind_some, if_neg (show ¬ (1 : Int32) = 0 by decide)]
      unfold sg_lt
      simp only []
      rw [a3, ← hσ2, e2, ← hσ3, e3, e4, e5]
    have hbad : FC b σ (-3) 12 (fn_X4_takeBase_B87 b σ3) := ⟨mte b σ3 (-3) 12, rfl, mte_6, mte_7, fun z k q => by rw [mte_o q, hfr z k q], hs2⟩
    rw [e0]
    by_cases c1 : B < 25
    · right
      refine ⟨fun q => by omega, ?_⟩
      by_cases d1 : nI B = 25 + 12 * ((nI B - 25) / 12)
      · rw [if_pos d1]
        by_cases d2 : (nI B - 25) / 12 < 0
        · rw [if_pos d2]; exact hbad
        · exact absurd ⟨d1, d2⟩ (tb_lo B c1)
      · rw [if_neg d1]; exact hbad
    · have f1 : (nI B - 25) / 12 = nI ((B - 25) / 12) := by rw [show nI B - 25 = nI (B - 25) from s_sub (b := 25) (by omega)]; exact s_div (b := 12) (by omega) (by omega) (by omega)
      rw [f1] at e4 ⊢
      have f2 : (25 : Int32) + 12 * nI ((B - 25) / 12) = nI (25 + 12 * ((B - 25) / 12)) := by
        show nI 25 + nI 12 * nI _ = _
        rw [nI_mul, nI_add]
      rw [f2, if_neg (nI_pos (by omega))]
      by_cases d1 : B = 25 + 12 * ((B - 25) / 12)
      · rw [if_pos (congrArg nI d1)]
        by_cases d2 : 8 < (B - 25) / 12
        · rw [if_pos (show (8 : Int32) < nI ((B - 25) / 12) from nI_lt (a := 8) d2 (by omega))]
          exact Or.inr ⟨fun q => by omega, hbad⟩
        · rw [if_neg (show ¬ (8 : Int32) < nI ((B - 25) / 12) from nI_nlt (a := 8) (by omega) (by omega))]
          by_cases d3 : B < S 0 0
          · rw [if_neg (nI_ge d3 (by omega))]
            exact Or.inl ⟨⟨by omega, by omega, by omega, d3⟩, σ3, rfl, e3, e4, hfr, hs2, by rw [hσ3, sg_wgk (by decide), hσ2, sg_wgk (by decide), a4 _ _ (by omega)]⟩
          · rw [if_pos (nI_le (by omega) (by omega))]
            exact Or.inr ⟨fun q => d3 q.2.2.2, hbad⟩
      · rw [if_neg (fun q => d1 ((nI_eq (by omega) (by omega)).mp q))]
        exact Or.inr ⟨fun q => d1 (by omega), hbad⟩
  · refine Or.inr ⟨i, a1, a2, a3, a4, σ', ?_, a6, a7, a8, a9⟩
    unfold fn_X4_takeBase
    rw [show fn_X4_takeNumber b σ 12 5 (-3) = some (0, σ') from a5, Option.bind_some, if_pos rfl]
