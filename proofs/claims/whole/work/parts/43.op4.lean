-- ===== feed =====
abbrev fd_y (x : Int64) (i : Int32) : Int32 := ((((x >>> ((((8 * i) : Int32).toInt64) &&& 63)) : Int64).toInt32) &&& 255)
def fd_B (x : Int64) (i : Nat) : Nat := sg_x (fd_y x (nI i))
theorem fd_yB (x : Int64) (i : Nat) : fd_y x (nI i) = nI (fd_B x i) ∧ fd_B x i < 256 := by
  obtain ⟨j, hj, e⟩ := pk_andE (((x >>> ((((8 * nI i) : Int32).toInt64) &&& 63)) : Int64).toInt32) (m := 255) 8 (by decide)
  have e2 : fd_y x (nI i) = nI j := e
  have e3 : fd_B x i = j := by unfold fd_B; rw [e2]; exact sg_xN (by omega)
  rw [e3]; exact ⟨e2, hj⟩
theorem fd_m (y : Int64) : (y &&& 255).toInt32 = y.toInt32 &&& 255 := by
  rw [Int64.toInt32_and]; rfl
theorem nI_s1 (k : Nat) : nI k + (-1) = nI k - 1 := by
  cases k with
  | zero => decide
  | succ k => rw [pk_m1, nI_pred]
def fd_l (x : Int64) : Nat → List Nat
  | 0 => []
  | k + 1 => fd_B x k :: fd_l x k
theorem fd_ll (x : Int64) (k : Nat) : (fd_l x k).length = k := by
  induction k with
  | zero => rfl
  | succ k ih => show (fd_l x k).length + 1 = k + 1; rw [ih]
theorem fd_mem {x : Int64} {k c : Nat} (h : c ∈ fd_l x k) : ∃ i, i < k ∧ c = fd_B x i := by
  induction k with
  | zero => cases h
  | succ k ih =>
    rcases List.mem_cons.mp h with e | h
    · exact ⟨k, by omega, e⟩
    · obtain ⟨i, hi, e⟩ := ih h
      exact ⟨i, by omega, e⟩
theorem fd_C {b : Nat} {x : Int64} : ∀ (k f : Nat) (σ : Sg) (L : List Nat), k < f → tC b σ L → L.length + k ≤ 600 → ∃ σ', fn_X7_feed_B65 b f σ x (nI k - 1) = some (nI (L.length + k), σ') ∧ tC b σ' (L ++ fd_l x k) ∧ fC b σ σ' := by
  intro k
  induction k with
  | zero =>
    intro f σ L hf ht hl
    obtain ⟨f, rfl⟩ : ∃ g, f = g + 1 := ⟨f - 1, by omega⟩
    refine ⟨σ, ?_, by rw [show fd_l x 0 = [] from rfl, List.append_nil]; exact ht, fC.rf⟩
    show fn_X7_feed_B65b b (fn_X7_feed_B65 b f) σ x (nI 0 - 1) = _
    unfold fn_X7_feed_B65b
    rw [if_pos (by decide), ht.1]; rfl
  | succ k ih =>
    intro f σ L hf ht hl
    obtain ⟨f, rfl⟩ : ∃ g, f = g + 1 := ⟨f - 1, by omega⟩
    obtain ⟨e1, e2⟩ := fd_yB x k
    obtain ⟨σ1, a1, a2, a3⟩ := add_C (c := fd_B x k) ht (by omega) (by omega)
    obtain ⟨σ2, b1, b2, b3⟩ := ih f σ1 (L ++ [fd_B x k]) (by omega) a2 (by rw [List.length_append]; show L.length + 1 + k ≤ 600; omega)
    refine ⟨σ2, ?_, ?_, a3.tr b3⟩
    · show fn_X7_feed_B65b b (fn_X7_feed_B65 b f) σ x (nI (k + 1) - 1) = _
      unfold fn_X7_feed_B65b
      rw [nI_pred, if_neg (nI_pos (by omega))]
      have e4 : fn_X7_byteOf x (nI k) = some (nI (fd_B x k)) := by
        unfold fn_X7_byteOf
        exact congrArg some e1
      rw [e4]
      simp only [Option.bind_some]
      rw [sg_icN (by omega), a1]
      simp only [Option.bind_some]
      unfold sg_lt
      simp only []
      rw [nI_s1, b1, List.length_append]
      show some (nI (L.length + 1 + k), σ2) = _
      rw [show L.length + 1 + k = L.length + (k + 1) by omega]
    · rw [List.append_assoc] at b2
      exact b2
theorem fd_M {m : Nat} {x : Int64} : ∀ (k f : Nat) (τ : Sg) (L : List Nat), k < f → tM m τ L → L.length + k ≤ 600 → ∃ τ', fn_X8_feed_B78 m f τ x (nI k - 1) = some (nI (L.length + k), τ') ∧ tM m τ' (L ++ fd_l x k) ∧ fM m τ τ' := by
  intro k
  induction k with
  | zero =>
    intro f τ L hf ht hl
    obtain ⟨f, rfl⟩ : ∃ g, f = g + 1 := ⟨f - 1, by omega⟩
    refine ⟨τ, ?_, by rw [show fd_l x 0 = [] from rfl, List.append_nil]; exact ht, fM.rf⟩
    show fn_X8_feed_B78b m (fn_X8_feed_B78 m f) τ x (nI 0 - 1) = _
    unfold fn_X8_feed_B78b
    rw [if_pos (by decide), ht.1]; rfl
  | succ k ih =>
    intro f τ L hf ht hl
    obtain ⟨f, rfl⟩ : ∃ g, f = g + 1 := ⟨f - 1, by omega⟩
    obtain ⟨e1, e2⟩ := fd_yB x k
    obtain ⟨τ1, a1, a2, a3⟩ := put_M (c := fd_B x k) ht (by omega)
    obtain ⟨τ2, b1, b2, b3⟩ := ih f τ1 (L ++ [fd_B x k]) (by omega) a2 (by rw [List.length_append]; show L.length + 1 + k ≤ 600; omega)
    refine ⟨τ2, ?_, ?_, a3.tr b3⟩
    · show fn_X8_feed_B78b m (fn_X8_feed_B78 m f) τ x (nI (k + 1) - 1) = _
      unfold fn_X8_feed_B78b
      rw [nI_pred, if_neg (nI_pos (by omega)), fd_m, show (((x >>> ((((8 * nI k) : Int32).toInt64) &&& 63)) : Int64).toInt32) &&& 255 = nI (fd_B x k) from e1, a1]
      simp only [Option.bind_some]
      unfold sg_lt
      simp only []
      rw [nI_s1, b1, List.length_append]
      show some (nI (L.length + 1 + k), τ2) = _
      rw [show L.length + 1 + k = L.length + (k + 1) by omega]
    · rw [List.append_assoc] at b2
      exact b2
/-- the characters are looked at, from the last one on -/
theorem fd_chk {b m : Nat} {σ τ : Sg} {x : Int64} {n : Nat} (hn : n ≤ 8) : ∀ (d k f : Nat), k + d = n → d < f → (fn_X7_feed_B16 b f σ x (nI n) (nI k) = some (-1, σ) ∧ fn_X8_feed_B16 m f τ x (nI n) (nI k) = some (-1, τ)) ∨ ((∀ i, k ≤ i → i < n → fd_B x i ≤ 126) ∧ fn_X7_feed_B16 b f σ x (nI n) (nI k) = (if ((σ.1 (b + 2) 1) + nI n) ≤ 600 then fn_X7_feed_B65 b sg_N σ x (nI n - 1) else some ((-2), σ)) ∧ fn_X8_feed_B16 m f τ x (nI n) (nI k) = (if ((τ.1 m 1) + nI n) ≤ 600 then fn_X8_feed_B78 m sg_N τ x (nI n - 1) else some ((-2), τ))) := by
  intro d
  induction d with
  | zero =>
    intro k f hk hf
    obtain ⟨f, rfl⟩ : ∃ g, f = g + 1 := ⟨f - 1, by omega⟩
    have hkn : k = n := by omega
    subst hkn
    refine Or.inr ⟨fun i h1 h2 => by omega, ?_, ?_⟩
    · show fn_X7_feed_B16b b (fn_X7_feed_B16 b f) σ x (nI k) (nI k) = _
      unfold fn_X7_feed_B16b
      rw [if_pos (nI_le (Nat.le_refl _) (by omega))]; rfl
    · show fn_X8_feed_B16b m (fn_X8_feed_B16 m f) τ x (nI k) (nI k) = _
      unfold fn_X8_feed_B16b
      rw [if_pos (nI_le (Nat.le_refl _) (by omega))]; rfl
  | succ d ih =>
    intro k f hk hf
    obtain ⟨f, rfl⟩ : ∃ g, f = g + 1 := ⟨f - 1, by omega⟩
    obtain ⟨e1, e2⟩ := fd_yB x k
    have hng : ¬ nI n ≤ nI k := nI_ge (by omega) (by omega)
    have e4 : fn_X7_byteOf x (nI k) = some (nI (fd_B x k)) := by
      unfold fn_X7_byteOf
      exact congrArg some e1
    have eC : fn_X7_feed_B16 b (f + 1) σ x (nI n) (nI k) = ((fn_X7_isSign (nI (fd_B x k))).bind fun r3 => (if r3 = 0 then some ((-1), σ) else fn_X7_feed_B16 b f σ x (nI n) (nI (k + 1)))) := by
      show fn_X7_feed_B16b b (fn_X7_feed_B16 b f) σ x (nI n) (nI k) = _
      unfold fn_X7_feed_B16b
      rw [if_neg hng, e4]
      simp only [Option.bind_some]
      unfold sg_lt
      simp only []
      rw [nI_1]
    have eM : fn_X8_feed_B16 m (f + 1) τ x (nI n) (nI k) = (if nI (fd_B x k) < 29 then some ((-1), τ) else if nI (fd_B x k) ≤ 126 then fn_X8_feed_B16 m f τ x (nI n) (nI (k + 1)) else some ((-1), τ)) := by
      show fn_X8_feed_B16b m (fn_X8_feed_B16 m f) τ x (nI n) (nI k) = _
      unfold fn_X8_feed_B16b
      rw [if_neg hng, fd_m, show (((x >>> ((((8 * nI k) : Int32).toInt64) &&& 63)) : Int64).toInt32) &&& 255 = nI (fd_B x k) from e1]
      unfold sg_lt
      simp only []
      rw [nI_1]
    rw [eC, eM]
    unfold fn_X7_isSign
    by_cases h1 : nI (fd_B x k) < 29
    · rw [if_pos h1, if_pos h1]; exact Or.inl ⟨rfl, rfl⟩
    rw [if_neg h1, if_neg h1]
    by_cases h2 : fd_B x k ≤ 126
    · have h3 : nI (fd_B x k) ≤ 126 := nI_le (b := 126) h2 (by decide)
      have h4 : ¬ (126 : Int32) < nI (fd_B x k) := nI_nlt (a := 126) h2 (by decide)
      rw [if_neg h4, if_pos h3]
      simp only [Option.bind_some]
      rw [if_neg (by decide)]
      rcases ih (k + 1) f (by omega) (by omega) with h | ⟨g1, g2, g3⟩
      · exact Or.inl h
      · refine Or.inr ⟨fun i hi hin => ?_, g2, g3⟩
        by_cases hik : i = k
        · rw [hik]; exact h2
        · exact g1 i (by omega) hin
    · have h3 : ¬ nI (fd_B x k) ≤ 126 := nI_ge (a := 126) (by omega) (by omega)
      have h4 : (126 : Int32) < nI (fd_B x k) := nI_lt (a := 126) (by omega) (by omega)
      rw [if_pos h4, if_neg h3]; exact Or.inl ⟨rfl, rfl⟩
theorem gd_app {L M : List Nat} {i : Nat} (hi : i < (L ++ M).length) (hL : ∀ i, i < L.length → L.getD i 0 < 128) (hM : ∀ c ∈ M, c < 128) : (L ++ M).getD i 0 < 128 := by
  rw [List.getD_eq_getElem?_getD]
  by_cases h : i < L.length
  · rw [List.getElem?_append_left h, ← List.getD_eq_getElem?_getD]; exact hL i h
  · rw [List.length_append] at hi
    rw [List.getElem?_append_right (by omega)]
    have h2 : i - L.length < M.length := by omega
    rw [List.getElem?_eq_getElem h2]
    exact hM _ (List.getElem_mem h2)
theorem op_feed {b m : Nat} {σ τ : Sg} (h : JJ b σ m τ) (x1 : Int64) (x3 : Int32)  : ∃ (r : Int32) (σ' τ' : Sg), fn_X7_feed b σ x1 x3 = some (r, σ') ∧ fn_X8_feed m τ x1 x3 = some (r, τ') ∧ JJ b σ' m τ' := by
  have hJ := h
  obtain ⟨S, pl, hok, hc, hm⟩ := h
  have hn := hok.1
  unfold fn_X7_feed fn_X8_feed
  by_cases h1 : x3 < 1
  · rw [if_pos h1, if_pos h1]; exact ⟨-1, σ, τ, rfl, rfl, hJ⟩
  rw [if_neg h1, if_neg h1]
  by_cases h8 : x3 ≤ 8
  · rw [if_pos h8, if_pos h8]
    obtain ⟨n, hn8, rfl⟩ : ∃ n : Nat, n ≤ 8 ∧ x3 = nI n := nI_of2 (M := 8) (n := 8) (by decide) (fun q => h1 (by
      have a := Int32.lt_iff_toInt_lt.mp q
      apply Int32.lt_iff_toInt_lt.mpr
      have e0 : (0 : Int32).toInt = 0 := by decide
      have e1 : (1 : Int32).toInt = 1 := by decide
      omega)) h8
    rcases fd_chk (b := b) (m := m) (σ := σ) (τ := τ) (x := x1) hn8 n 0 sg_N (by omega) (by show n < 1000; omega) with ⟨g1, g2⟩ | ⟨g0, g1, g2⟩
    · exact ⟨-1, σ, τ, g1, g2, hJ⟩
    · rw [show fn_X7_feed_B16 b sg_N σ x1 (nI n) 0 = _ from g1, show fn_X8_feed_B16 m sg_N τ x1 (nI n) 0 = _ from g2, hc.1.1, hm.1.1, nI_add]
      by_cases h6 : S 0 0 + n ≤ 600
      · have h7 : nI (S 0 0 + n) ≤ 600 := nI_le (b := 600) h6 (by decide)
        rw [if_pos h7, if_pos h7]
        obtain ⟨σ', a1, a2, a3⟩ := fd_C (b := b) (x := x1) n sg_N σ (ps_text S) (by show n < 1000; omega) (tC_of hc.1) (by rw [ps_text_len]; exact h6)
        obtain ⟨τ', b1, b2, b3⟩ := fd_M (m := m) (x := x1) n sg_N τ (ps_text S) (by show n < 1000; omega) (tM_of hm.1) (by rw [ps_text_len]; exact h6)
        refine ⟨_, σ', τ', a1, b1, JJ_txt hok hc hm (by rw [List.length_append, ps_text_len, fd_ll]; exact h6) (fun i hi => gd_app hi (fun i hi => ?_) (fun c hc => ?_)) a2 a3 b2 b3⟩
        · rw [ps_text_len] at hi
          rw [ps_text_get hi]; exact hok.2.1 i hi
        · obtain ⟨i, hi, rfl⟩ := fd_mem hc
          have := g0 i (Nat.zero_le _) hi
          omega
      · have h7 : ¬ nI (S 0 0 + n) ≤ 600 := nI_ge (a := 600) (by omega) (by omega)
        rw [if_neg h7, if_neg h7]; exact ⟨-2, σ, τ, rfl, rfl, hJ⟩
  · rw [if_neg h8, if_neg h8]; exact ⟨-1, σ, τ, rfl, rfl, hJ⟩
