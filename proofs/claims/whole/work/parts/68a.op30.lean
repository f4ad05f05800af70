-- ===== read: the leader, both =====
def ltp (i : Nat) : Nat := if i < 5 then 5 + i else 12 + i
def ldF (b c : Nat) (σ σ' : Sg) : Prop := (∀ z k, z ≠ b + 1 → z ≠ c + 1 → σ'.1 z k = σ.1 z k) ∧ σ'.2 = σ.2
theorem ldF.tr {b c : Nat} {σ σ1 σ2 : Sg} (h : ldF b c σ σ1) (h2 : ldF b c σ1 σ2) : ldF b c σ σ2 := ⟨fun z k x y => (h2.1 z k x y).trans (h.1 z k x y), h2.2.trans h.2⟩
theorem ldF_t {b c : Nat} {σ σ' : Sg} {S : Sh} (hc : b + 10 ≤ c) (h : ldF b c σ σ') (ht : rc_txt b σ S) : rc_txt b σ' S := rtx_f (fun z k hz => h.1 z k (by omega) (by omega)) ht
/-- the leader is faulty at p, on both sides -/
def ldX (b m c : Nat) (σ τ : Sg) (p : Int32) (x : Option (Int32 × Sg)) : Prop := ∃ σ' y, x = some (0, σ') ∧ σ'.1 (b + 1) 6 = -3 ∧ σ'.1 (b + 1) 7 = p ∧ ldF b c σ σ' ∧ fn_X8_readLeader m τ = some (y, mtM m τ (-3) p)
theorem ldr {b m c : Nat} {σ τ : Sg} {S : Sh} (hok : ps_ok S) (hC : rc_txt b σ S) (hM : rm_txt m τ S) (h0 : τ.1 m 12 = 0) (hc : b + 10 ≤ c) : (∃ p, ldX b m c σ τ p (fn_X4_takeLeader b σ c)) ∨ (∃ n σ', fn_X4_takeLeader b σ c = some (1, σ') ∧ fn_X8_readLeader m τ = some (nI n, τ) ∧ n ≤ 8 ∧ 25 + 12 * n < S 0 0 ∧ σ'.1 (b + 1) 2 = nI (25 + 12 * n) ∧ σ'.1 (b + 1) 3 = nI n ∧ (∀ i, i < 8 → σ'.1 (c + 1) i = nI (S 1 (ltp i)) ∧ S 1 (ltp i) < 128) ∧ ldF b c σ σ' ∧ σ'.1 (b + 1) 7 = σ.1 (b + 1) 7) := by
  have hn := hok.1
  unfold fn_X4_takeLeader
  rw [hC.1]
  -- the length
  rcases exC (b := b) (due := S 0 0) (at_ := 0) (K := 5) (kind := -3) hC hok (by omega) (by omega) (by omega) with ⟨a1, a2⟩ | ⟨i, a1, a2, a3, a4, σ', a5, a6, a7, a8, a9⟩
  · rw [show fn_X4_expectNumber b σ (nI (S 0 0)) 0 5 (-3) = some (1, σ) from a2, Option.bind_some, if_neg (show ¬ (1 : Int32) = 0 by decide)]
    have g1 : ∀ p, p < 5 → gL S p := fun p hp => (gL_1 hp).mpr (a1 p (by omega) (by omega))
    -- five letters
    rcases tl_C (b := b) (c := c) (lo := 0) (hi := 5) (at_ := 5) hok hc (by omega) (by omega) (by omega) 5 0 sg_N σ (by omega) (by show _ < 1000; omega) hC with ⟨b1, σ1, b2, b3, b4, b5⟩ | ⟨i, b1, b2, b3, b4, σ', b5, b6, b7, b8, b9⟩
    · rw [show fn_X4_takeLetters b σ c 0 5 5 = some (1, σ1) from b2, Option.bind_some, if_neg (show ¬ (1 : Int32) = 0 by decide)]
      have g2 : ∀ p, p < 10 → gL S p := fun p hp => by
        by_cases q : p < 5
        · exact g1 p q
        · exact (gL_2 (by omega)).mpr (b1 p (by omega) (by omega))
      have F1 : ldF b c σ σ1 := ⟨fun z k q1 q2 => b4 z k (fun w => q2 w.1), b5⟩
      have hC1 := ldF_t hc F1 hC
      -- 22
      rcases exC (b := b) (due := 22) (at_ := 10) (K := 2) (kind := -3) hC1 hok (by omega) (by omega) (by omega) with ⟨c1, c2⟩ | ⟨i, c1, c2, c3, c4, σ', c5, c6, c7, c8, c9⟩
      · rw [show fn_X4_expectNumber b σ1 22 10 2 (-3) = some (1, σ1) from c2, Option.bind_some, if_neg (show ¬ (1 : Int32) = 0 by decide)]
        have g3 : ∀ p, p < 12 → gL S p := fun p hp => by
          by_cases q : p < 10
          · exact g2 p q
          · exact (gL_3 (by omega)).mpr (c1 p (by omega) (by omega))
        -- the base
        rcases tbC hC1 hok with ⟨d1, d2⟩ | ⟨i, d1, d2, d3, d4, σ', d5, d6, d7, d8, d9⟩
        · have g4 : ∀ p, p < 17 → gL S p := fun p hp => by
            by_cases q : p < 12
            · exact g3 p q
            · exact (gL_4 (by omega)).mpr (d1 p (by omega) (by omega))
          rcases d2 with ⟨hB, σ2, d3, d4, d5, d6, d7, d8⟩ | ⟨hB, σ', d3, d4, d5, d6, d7⟩
          · rw [d3, Option.bind_some, if_neg (show ¬ (1 : Int32) = 0 by decide)]
            have F2 : ldF b c σ σ2 := F1.tr ⟨fun z k q1 _ => d6 z k q1, d7⟩
            have hC2 := ldF_t hc F2 hC
            -- three letters
            rcases tl_C (b := b) (c := c) (lo := 5) (hi := 8) (at_ := 17) hok hc (by omega) (by omega) (by omega) 3 0 sg_N σ2 (by omega) (by show _ < 1000; omega) hC2 with ⟨e1, σ3, e2, e3, e4, e5⟩ | ⟨i, e1, e2, e3, e4, σ', e5, e6, e7, e8, e9⟩
            · rw [show fn_X4_takeLetters b σ2 c 5 8 17 = some (1, σ3) from e2, Option.bind_some, if_neg (show ¬ (1 : Int32) = 0 by decide)]
              have g5 : ∀ p, p < 20 → gL S p := fun p hp => by
                by_cases q : p < 17
                · exact g4 p q
                · exact (gL_2 (by omega)).mpr (e1 p (by omega) (by omega))
              have F3 : ldF b c σ σ3 := F2.tr ⟨fun z k q1 q2 => e4 z k (fun w => q2 w.1), e5⟩
              have hC3 := ldF_t hc F3 hC
              -- 4500
              rcases exC (b := b) (due := 4500) (at_ := 20) (K := 4) (kind := -3) hC3 hok (by omega) (by omega) (by omega) with ⟨f1, f2⟩ | ⟨i, f1, f2, f3, f4, σ', f5, f6, f7, f8, f9⟩
              · rw [show fn_X4_expectNumber b σ3 4500 20 4 (-3) = some (1, σ3) from f2, Option.bind_some, if_neg (show ¬ (1 : Int32) = 0 by decide)]
                have g6 : ∀ p, p < 24 → gL S p := fun p hp => by
                  by_cases q : p < 20
                  · exact g5 p q
                  · exact (gL_6 (by omega)).mpr (f1 p (by omega) (by omega))
                have hB' := hB
                unfold gB at hB'
                have hnn : nv (S 1) 12 5 = 25 + 12 * ((nv (S 1) 12 5 - 25) / 12) := by omega
                refine Or.inr ⟨(nv (S 1) 12 5 - 25) / 12, σ3, rfl, rl_ok hok hM h0 g6 hB, by omega, by omega, ?_, ?_, fun i hi => ⟨?_, ?_⟩, F3, by rw [e4 _ _ (by omega), d8, b4 _ _ (by omega)]⟩
                · rw [e4 _ _ (by omega), d4, ← hnn]
                · rw [e4 _ _ (by omega), d5]
                · unfold ltp
                  by_cases q : i < 5
                  · rw [if_pos q, e4 _ _ (by omega), d6 _ _ (by omega), b3 i (by omega) q]
                    exact congrArg (fun w => nI (S 1 w)) (by omega)
                  · rw [if_neg q, e3 i (by omega) hi]
                    exact congrArg (fun w => nI (S 1 w)) (by omega)
                · unfold ltp
                  by_cases q : i < 5
                  · rw [if_pos q]; exact hok.2.1 _ (g6 _ (by omega)).1
                  · rw [if_neg q]; exact hok.2.1 _ (g6 _ (by omega)).1
              · rw [show fn_X4_expectNumber b σ3 4500 20 4 (-3) = some (0, σ') from f5, Option.bind_some, if_pos (show (0 : Int32) = 0 from rfl)]
                obtain ⟨y, hy⟩ := rl_b2 hok hM h0 (show 17 ≤ i by omega) (by omega) (fun p hp => by
                  by_cases q : p < 20
                  · exact g5 p q
                  · exact (gL_6 (by omega)).mpr (f3 p (by omega) hp)) hB (fun q => f4 ((gL_6 (by omega)).mp q))
                exact Or.inl ⟨nI i, σ', y, rfl, f6, f7, F3.tr ⟨fun z k q1 _ => f8 z k q1, f9⟩, hy⟩
            · rw [show fn_X4_takeLetters b σ2 c 5 8 17 = some (0, σ') from e5, Option.bind_some, if_pos (show (0 : Int32) = 0 from rfl)]
              obtain ⟨y, hy⟩ := rl_b2 hok hM h0 (show 17 ≤ i by omega) (by omega) (fun p hp => by
                by_cases q : p < 17
                · exact g4 p q
                · exact (gL_2 (by omega)).mpr (e3 p (by omega) hp)) hB (fun q => e4 ((gL_2 (by omega)).mp q))
              exact Or.inl ⟨nI i, σ', y, rfl, e6, e7, F2.tr ⟨e8, e9⟩, hy⟩
          · rw [d3, Option.bind_some, if_pos (show (0 : Int32) = 0 from rfl)]
            rcases rl_16 hok hM h0 g4 with ⟨q, _⟩ | ⟨_, y, hy⟩
            · exact absurd q hB
            · exact Or.inl ⟨12, σ', y, rfl, d4, d5, F1.tr ⟨fun z k q1 _ => d6 z k q1, d7⟩, hy⟩
        · rw [d5, Option.bind_some, if_pos (show (0 : Int32) = 0 from rfl)]
          obtain ⟨y, hy⟩ := rl_b1 hok hM h0 (show i ≤ 16 by omega) (fun p hp => by
            by_cases q : p < 12
            · exact g3 p q
            · exact (gL_4 (by omega)).mpr (d3 p (by omega) hp)) (fun q => d4 ((gL_4 (by omega)).mp q))
          exact Or.inl ⟨nI i, σ', y, rfl, d6, d7, F1.tr ⟨fun z k q1 _ => d8 z k q1, d9⟩, hy⟩
      · rw [show fn_X4_expectNumber b σ1 22 10 2 (-3) = some (0, σ') from c5, Option.bind_some, if_pos (show (0 : Int32) = 0 from rfl)]
        obtain ⟨y, hy⟩ := rl_b1 hok hM h0 (show i ≤ 16 by omega) (fun p hp => by
          by_cases q : p < 10
          · exact g2 p q
          · exact (gL_3 (by omega)).mpr (c3 p (by omega) hp)) (fun q => c4 ((gL_3 (by omega)).mp q))
        exact Or.inl ⟨nI i, σ', y, rfl, c6, c7, F1.tr ⟨fun z k q1 _ => c8 z k q1, c9⟩, hy⟩
    · rw [show fn_X4_takeLetters b σ c 0 5 5 = some (0, σ') from b5, Option.bind_some, if_pos (show (0 : Int32) = 0 from rfl)]
      obtain ⟨y, hy⟩ := rl_b1 hok hM h0 (show i ≤ 16 by omega) (fun p hp => by
        by_cases q : p < 5
        · exact g1 p q
        · exact (gL_2 (by omega)).mpr (b3 p (by omega) hp)) (fun q => b4 ((gL_2 (by omega)).mp q))
      exact Or.inl ⟨nI i, σ', y, rfl, b6, b7, ⟨b8, b9⟩, hy⟩
  · rw [show fn_X4_expectNumber b σ (nI (S 0 0)) 0 5 (-3) = some (0, σ') from a5, Option.bind_some, if_pos (show (0 : Int32) = 0 from rfl)]
    obtain ⟨y, hy⟩ := rl_b1 hok hM h0 (show i ≤ 16 by omega) (fun p hp => (gL_1 (by omega)).mpr (a3 p (by omega) hp)) (fun q => a4 ((gL_1 (by omega)).mp q))
    exact Or.inl ⟨nI i, σ', y, rfl, a6, a7, ⟨fun z k q1 _ => a8 z k q1, a9⟩, hy⟩
