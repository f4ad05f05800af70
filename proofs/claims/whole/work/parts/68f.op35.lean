-- ===== read: a divided field =====
theorem iv_N {j : Nat} (h : j < 128) : fn_X7_isIndicator (nI j) = some (if j = 32 ∨ (48 ≤ j ∧ j ≤ 57) then 1 else 0) := by
  revert j; decide +kernel
def isC (j : Nat) : Prop := (97 ≤ j ∧ j ≤ 122) ∨ (48 ≤ j ∧ j ≤ 57)
theorem cd_v {j : Nat} (h : j < 128) : ∃ v, fn_X7_isCode (nI j) = some v ∧ bv v (isC j) := by
  have e : fn_X7_isCode (nI j) = some (if (97 ≤ j ∧ j ≤ 122) ∨ (48 ≤ j ∧ j ≤ 57) then 1 else 0) := by
    revert j; decide +kernel
  exact ⟨_, e, bv_if⟩
section RD
variable {m q at_ n : Nat} {τ : Sg} {S0 : Sh}
theorem rf42 {v : Int32} (hn1 : 2 ≤ n) (hN : at_ + n ≤ 600) (h : τ.1 m 12 = v) (hv : v ≠ 0) : fn_X8_readField_B42 m τ (nI at_) (nI n) = some τ := by
  have e80 : ∀ x, fn_X8_readField_B80 m τ x = some τ := fun x => by
    unfold fn_X8_readField_B80 fn_X8_fail
    rw [h, if_neg hv]; rfl
  unfold fn_X8_readField_B42 sg_lt
  simp only []
  rw [nI_add, show nI (at_ + n) - 1 = nI (at_ + n - 1) from s_sub (b := 1) (by omega), show nI (at_ + n - 1) - 1 = nI (at_ + n - 1 - 1) from s_sub (b := 1) (by omega), if_pos (sg_ibN (by omega) (by decide)), if_pos (sg_ibN (by omega) (by decide)), e80]
  by_cases q1 : nI n < 5
  · rw [if_pos q1]
  · rw [if_neg q1]
    by_cases q2 : τ.1 (m + 1) (sg_x (nI (at_ + n - 1))) = 30
    · rw [if_pos q2]
      by_cases q3 : τ.1 (m + 1) (sg_x (nI (at_ + n - 1 - 1))) = 31
      · rw [if_pos q3]
      · rw [if_neg q3]
    · rw [if_neg q2]
theorem rf10 {g : Nat} {v x1 x4 : Int32} (hn1 : 2 ≤ n) (hN : at_ + n ≤ 600) (h : τ.1 m 12 = v) (hv : v ≠ 0) : fn_X8_readField_B10 m (g + 1) τ x1 (nI at_) (nI n) x4 = some τ := by
  show fn_X8_readField_B10b m (fn_X8_readField_B10 m g) τ x1 (nI at_) (nI n) x4 = _
  unfold fn_X8_readField_B10b
  rw [rf42 hn1 hN h hv, h, if_neg hv]
  by_cases q1 : nI n - 1 ≤ x4
  · rw [if_pos q1]
  · rw [if_neg q1]
theorem rd_st {g k : Nat} (hn1 : 2 ≤ n) (hN : at_ + n ≤ 600) (hk : k + 1 < n) (h0 : τ.1 m 12 = 0) : fn_X8_readField_B10 m (g + 1) τ (nI q) (nI at_) (nI n) (nI k) = (fn_X8_readInside m τ (nI q) (nI (at_ + k)) (nI k)).bind fun r1 => fn_X8_readField_B10 m g r1 (nI q) (nI at_) (nI n) (nI (k + 1)) := by
  show fn_X8_readField_B10b m (fn_X8_readField_B10 m g) τ (nI q) (nI at_) (nI n) (nI k) = _
  unfold fn_X8_readField_B10b
  rw [show nI n - 1 = nI (n - 1) from s_sub (b := 1) (by omega), if_neg (nI_ge (by omega) (by omega)), if_pos h0, nI_add]
  unfold sg_lt
  simp only []
  rw [nI_1]
theorem rd_en {g k : Nat} (hok : ps_ok S0) (hM : rm_txt m τ S0) (hn1 : 2 ≤ n) (hN : at_ + n ≤ S0 0 0) (hk : k + 1 = n) (h0 : τ.1 m 12 = 0) : fn_X8_readField_B10 m (g + 1) τ (nI q) (nI at_) (nI n) (nI k) = if 5 ≤ n ∧ S0 1 (at_ + k) = 30 ∧ S0 1 (at_ + k - 1) ≠ 31 then some τ else some (mtM m τ (-6) (nI (at_ + k))) := by
  have hn := hok.1
  have hb := hok.2.1 (at_ + k) (by omega)
  have hb2 := hok.2.1 (at_ + k - 1) (by omega)
  show fn_X8_readField_B10b m (fn_X8_readField_B10 m g) τ (nI q) (nI at_) (nI n) (nI k) = _
  unfold fn_X8_readField_B10b fn_X8_readField_B42 fn_X8_readField_B80 sg_lt
  simp only []
  rw [show nI n - 1 = nI (n - 1) from s_sub (b := 1) (by omega), if_pos (nI_le (by omega) (by omega)), nI_add, show nI (at_ + n) - 1 = nI (at_ + n - 1) from s_sub (b := 1) (by omega), show nI (at_ + n - 1) - 1 = nI (at_ + n - 1 - 1) from s_sub (b := 1) (by omega), show at_ + n - 1 = at_ + k by omega, flM0 h0, Option.bind_some, if_pos (sg_ibN (show at_ + k < 600 by omega) (by decide)), if_pos (sg_ibN (show at_ + k - 1 < 600 by omega) (by decide)), sg_xN (show at_ + k < 2 ^ 31 by omega), sg_xN (show at_ + k - 1 < 2 ^ 31 by omega), hM.2 (at_ + k) (by omega), hM.2 (at_ + k - 1) (by omega)]
  by_cases q1 : 5 ≤ n
  · rw [if_neg (show ¬ nI n < (5 : Int32) from nI_nlt (b := 5) q1 (by omega))]
    by_cases q2 : S0 1 (at_ + k) = 30
    · rw [if_pos (show nI (S0 1 (at_ + k)) = 30 by rw [q2]; rfl)]
      by_cases q3 : S0 1 (at_ + k - 1) = 31
      · rw [if_pos (show nI (S0 1 (at_ + k - 1)) = 31 by rw [q3]; rfl), if_neg (fun w => w.2.2 q3)]
      · rw [if_neg (show ¬ nI (S0 1 (at_ + k - 1)) = 31 from fun w => q3 ((nI_eq (b := 31) (by omega) (by omega)).mp w)), if_pos ⟨q1, q2, q3⟩]
    · rw [if_neg (show ¬ nI (S0 1 (at_ + k)) = 30 from fun w => q2 ((nI_eq (b := 30) (by omega) (by omega)).mp w)), if_neg (fun w => q2 w.2.1)]
  · rw [if_pos (show nI n < (5 : Int32) from nI_lt (b := 5) (by omega) (by decide)), if_neg (fun w => q1 w.1)]
/-- the first two characters -/
theorem ri_01 {k : Nat} (hok : ps_ok S0) (hM : rm_txt m τ S0) (hq : q < 48) (hk : k < 2) (hN : at_ + k < S0 0 0) (h0 : τ.1 m 12 = 0) : fn_X8_readInside m τ (nI q) (nI (at_ + k)) (nI k) = if S0 1 (at_ + k) = 32 ∨ (48 ≤ S0 1 (at_ + k) ∧ S0 1 (at_ + k) ≤ 57) then some (sg_w τ (m + 5 + k) q (nI (S0 1 (at_ + k)))) else some (mtM m τ (-6) (nI (at_ + k))) := by
  have hn := hok.1
  have h128 := hok.2.1 _ hN
  unfold fn_X8_readInside fn_X8_readInside_B44 fn_X8_readInside_B45 fn_X8_readInside_B113 sg_lt
  simp only []
  rw [if_pos (sg_ibN (show at_ + k < 600 by omega) (by decide)), if_pos (sg_ibN (show q < 48 by omega) (by decide)), if_pos (show nI k ≤ (2 : Int32) from nI_le (b := 2) (by omega) (by decide)), if_neg (show ¬ (2 : Int32) ≤ nI k from nI_ge (b := 2) hk (by decide)), sg_xN (show at_ + k < 2 ^ 31 by omega), hM.2 _ hN, ← iv_eq, iv_N h128, Option.bind_some, flM0 h0]
  by_cases w : S0 1 (at_ + k) = 32 ∨ (48 ≤ S0 1 (at_ + k) ∧ S0 1 (at_ + k) ≤ 57)
  · rw [if_pos w, if_pos w, if_neg (show ¬ (1 : Int32) = 0 by decide)]
    have hk2 : k = 0 ∨ k = 1 := by omega
    rcases hk2 with rfl | rfl
    · rw [if_pos (show nI 0 = 0 from rfl), if_pos (sg_ibN (show q < 48 by omega) (by decide)), sg_xN (show q < 2 ^ 31 by omega)]
    · rw [if_neg (show ¬ nI 1 = 0 by decide), if_pos (show nI 1 = 1 from rfl), if_pos (sg_ibN (show q < 48 by omega) (by decide)), sg_xN (show q < 2 ^ 31 by omega)]
  · rw [if_neg w, if_neg w, if_pos rfl]; rfl
theorem ri_2 (hok : ps_ok S0) (hM : rm_txt m τ S0) (hq : q < 48) (hN : at_ + 2 < S0 0 0) (h0 : τ.1 m 12 = 0) : fn_X8_readInside m τ (nI q) (nI (at_ + 2)) (nI 2) = if S0 1 (at_ + 2) = 31 then some τ else some (mtM m τ (-6) (nI (at_ + 2))) := by
  have hn := hok.1
  have h128 := hok.2.1 _ hN
  unfold fn_X8_readInside fn_X8_readInside_B44 fn_X8_readInside_B45 fn_X8_readInside_B113 fn_X8_readInside_B208 sg_lt
  simp only []
  rw [if_pos (sg_ibN (show at_ + 2 < 600 by omega) (by decide)), if_pos (sg_ibN (show q < 48 by omega) (by decide)), if_pos (show nI 2 ≤ (2 : Int32) by decide), if_pos (show (2 : Int32) ≤ nI 2 by decide), if_pos (show nI 2 = 2 from rfl), sg_xN (show at_ + 2 < 2 ^ 31 by omega), hM.2 _ hN, flM0 h0]
  by_cases w : S0 1 (at_ + 2) = 31
  · rw [if_pos w, if_pos (show nI (S0 1 (at_ + 2)) = 31 by rw [w]; rfl), if_neg (show ¬ (1 : Int32) = 0 by decide), if_neg (show ¬ nI 2 = 0 by decide), if_neg (show ¬ nI 2 = 1 by decide), if_pos trivial, if_pos (show nI 2 ≤ (2 : Int32) by decide), if_pos (show nI 2 ≤ (2 : Int32) by decide)]
  · rw [if_neg w, if_neg (show ¬ nI (S0 1 (at_ + 2)) = 31 from fun e => w ((nI_eq (b := 31) (by omega) (by omega)).mp e)), if_pos trivial]; rfl
/-- a code is due -/
theorem ri_c {k : Nat} (hok : ps_ok S0) (hM : rm_txt m τ S0) (hq : q < 48) (hk : 3 ≤ k) (hN : at_ + k < S0 0 0) (h0 : τ.1 m 12 = 0) (h31 : S0 1 (at_ + k - 1) = 31) : (isC (S0 1 (at_ + k)) ∧ fn_X8_readInside m τ (nI q) (nI (at_ + k)) (nI k) = (fn_X8_open m τ (nI q) (nI (S0 1 (at_ + k)))).bind fun r2 => some r2) ∨ (¬ isC (S0 1 (at_ + k)) ∧ fn_X8_readInside m τ (nI q) (nI (at_ + k)) (nI k) = some (mtM m τ (-6) (nI (at_ + k)))) := by
  have hn := hok.1
  have h128 := hok.2.1 _ hN
  have hm1 := hM.2 (at_ + k - 1) (by omega)
  rw [h31] at hm1
  obtain ⟨v, v1, v2⟩ := cd_v h128
  have e0 : fn_X8_readInside m τ (nI q) (nI (at_ + k)) (nI k) = fn_X8_readInside_B113 m τ (nI q) (nI (at_ + k)) (nI k) (nI (S0 1 (at_ + k))) (((4 * nI q) + (τ.1 (m + 7) q)) - 1) 1 v := by
    unfold fn_X8_readInside fn_X8_readInside_B45 sg_lt
    simp only []
    rw [if_pos (sg_ibN (show at_ + k < 600 by omega) (by decide)), if_pos (sg_ibN (show q < 48 by omega) (by decide)), if_neg (show ¬ nI k ≤ (2 : Int32) from nI_ge (a := 2) (by omega) (by omega)), show nI (at_ + k) - 1 = nI (at_ + k - 1) from s_sub (b := 1) (by omega), if_pos (sg_ibN (show at_ + k - 1 < 600 by omega) (by decide)), sg_xN (show at_ + k - 1 < 2 ^ 31 by omega), hm1, if_pos (show nI 31 = 31 from rfl), if_pos (show (2 : Int32) ≤ nI k from nI_le (a := 2) (by omega) (by omega)), if_neg (show ¬ nI k = 2 from fun e => absurd ((nI_eq (b := 2) (by omega) (by omega)).mp e) (by omega)), if_neg (show ¬ (1 : Int32) = 0 by decide), sg_xN (show at_ + k < 2 ^ 31 by omega), sg_xN (show q < 2 ^ 31 by omega), hM.2 _ hN, ← cd_eq, v1, Option.bind_some]
  rw [e0]
  unfold fn_X8_readInside_B113
  rcases v2 with ⟨rfl, v2⟩ | ⟨rfl, v2⟩
  · right
    rw [if_pos rfl, flM0 h0]; exact ⟨v2, rfl⟩
  · left
    rw [if_neg (show ¬ (1 : Int32) = 0 by decide), if_neg (show ¬ nI k = 0 from fun e => absurd ((nI_eq (b := 0) (by omega) (by omega)).mp e) (by omega)), if_neg (show ¬ nI k = 1 from fun e => absurd ((nI_eq (b := 1) (by omega) (by omega)).mp e) (by omega)), if_neg (show ¬ (1 : Int32) = 0 by decide)]
    exact ⟨v2, rfl⟩
/-- a letter, or the start of a subfield -/
theorem ri_l {k c w : Nat} (hok : ps_ok S0) (hM : rm_txt m τ S0) (hq : q < 48) (hk : 3 ≤ k) (hN : at_ + k < S0 0 0) (h0 : τ.1 m 12 = 0) (h31 : S0 1 (at_ + k - 1) ≠ 31) (h7 : τ.1 (m + 7) q = nI c) (hc1 : 1 ≤ c) (hc4 : c ≤ 4) (h9 : τ.1 (m + 9) (4 * q + (c - 1)) = nI w) (hw : w ≤ 20) : fn_X8_readInside m τ (nI q) (nI (at_ + k)) (nI k) = if S0 1 (at_ + k) = 31 then (if c < 4 then some τ else some (mtM m τ (-2) (nI (at_ + k)))) else if 31 < S0 1 (at_ + k) ∧ S0 1 (at_ + k) < 127 then (if w < 20 then (fn_X8_say m τ (nI (4 * q + (c - 1))) (nI (S0 1 (at_ + k)))).bind fun r => some r else some (mtM m τ (-2) (nI (at_ + k)))) else some (mtM m τ (-6) (nI (at_ + k))) := by
  have hn := hok.1
  have h128 := hok.2.1 _ hN
  have hb1 := hok.2.1 (at_ + k - 1) (by omega)
  have hm1 := hM.2 (at_ + k - 1) (by omega)
  have e5 : ((4 : Int32) * nI q + nI c) - 1 = nI (4 * q + (c - 1)) := by
    rw [nI_4q, show nI (4 * q + c) - 1 = nI (4 * q + c - 1) from s_sub (b := 1) (by omega), show 4 * q + c - 1 = 4 * q + (c - 1) by omega]
  have e0 : fn_X8_readInside m τ (nI q) (nI (at_ + k)) (nI k) = ((fn_X8_isPlain (nI (S0 1 (at_ + k)))).bind fun r1 => (if r1 = 0 then (if nI (S0 1 (at_ + k)) = 31 then fn_X8_readInside_B113 m τ (nI q) (nI (at_ + k)) (nI k) (nI (S0 1 (at_ + k))) (nI (4 * q + (c - 1))) 0 1 else fn_X8_readInside_B113 m τ (nI q) (nI (at_ + k)) (nI k) (nI (S0 1 (at_ + k))) (nI (4 * q + (c - 1))) 0 0) else fn_X8_readInside_B113 m τ (nI q) (nI (at_ + k)) (nI k) (nI (S0 1 (at_ + k))) (nI (4 * q + (c - 1))) 0 1)) := by
    unfold fn_X8_readInside fn_X8_readInside_B44 fn_X8_readInside_B45 fn_X8_readInside_B108 sg_lt
    simp only []
    rw [if_pos (sg_ibN (show at_ + k < 600 by omega) (by decide)), if_pos (sg_ibN (show q < 48 by omega) (by decide)), if_neg (show ¬ nI k ≤ (2 : Int32) from nI_ge (a := 2) (by omega) (by omega)), show nI (at_ + k) - 1 = nI (at_ + k - 1) from s_sub (b := 1) (by omega), if_pos (sg_ibN (show at_ + k - 1 < 600 by omega) (by decide)), sg_xN (show at_ + k - 1 < 2 ^ 31 by omega), hm1, if_neg (show ¬ nI (S0 1 (at_ + k - 1)) = 31 from fun e => h31 ((nI_eq (b := 31) (by omega) (by omega)).mp e)), if_pos (show (2 : Int32) ≤ nI k from nI_le (a := 2) (by omega) (by omega)), if_neg (show ¬ nI k = 2 from fun e => absurd ((nI_eq (b := 2) (by omega) (by omega)).mp e) (by omega)), if_pos trivial, sg_xN (show at_ + k < 2 ^ 31 by omega), sg_xN (show q < 2 ^ 31 by omega), hM.2 _ hN, h7, e5]
  have h113 : fn_X8_readInside_B113 m τ (nI q) (nI (at_ + k)) (nI k) (nI (S0 1 (at_ + k))) (nI (4 * q + (c - 1))) 0 1 = if nI (S0 1 (at_ + k)) = 31 then (if nI c = 4 then some (mtM m τ (-2) (nI (at_ + k))) else some τ) else (if nI w = 20 then some (mtM m τ (-2) (nI (at_ + k))) else (fn_X8_say m τ (nI (4 * q + (c - 1))) (nI (S0 1 (at_ + k)))).bind fun r => some r) := by
    unfold fn_X8_readInside_B113 fn_X8_readInside_B208
    rw [if_neg (show ¬ (1 : Int32) = 0 by decide), if_neg (show ¬ nI k = 0 from fun e => absurd ((nI_eq (b := 0) (by omega) (by omega)).mp e) (by omega)), if_neg (show ¬ nI k = 1 from fun e => absurd ((nI_eq (b := 1) (by omega) (by omega)).mp e) (by omega)), if_pos (show (0 : Int32) = 0 from rfl), if_neg (show ¬ nI k ≤ (2 : Int32) from nI_ge (a := 2) (by omega) (by omega)), if_neg (show ¬ nI k ≤ (2 : Int32) from nI_ge (a := 2) (by omega) (by omega)), if_pos (sg_ibN (show q < 48 by omega) (by decide)), sg_xN (show q < 2 ^ 31 by omega), h7, if_pos (sg_ibN (show 4 * q + (c - 1) < 192 by omega) (by decide)), sg_xN (show 4 * q + (c - 1) < 2 ^ 31 by omega), h9, flM0 h0]
    rfl
  have h113b : fn_X8_readInside_B113 m τ (nI q) (nI (at_ + k)) (nI k) (nI (S0 1 (at_ + k))) (nI (4 * q + (c - 1))) 0 0 = some (mtM m τ (-6) (nI (at_ + k))) := by
    unfold fn_X8_readInside_B113
    rw [if_pos rfl, flM0 h0]; rfl
  rw [e0, h113, h113b, ← pl_eq, pl_N h128, Option.bind_some]
  by_cases q1 : S0 1 (at_ + k) = 31
  · have hnp : ¬ (31 < S0 1 (at_ + k) ∧ S0 1 (at_ + k) < 127) := by omega
    rw [if_neg hnp, if_pos (show (0 : Int32) = 0 from rfl), if_pos q1, if_pos (show nI (S0 1 (at_ + k)) = 31 by rw [q1]; rfl), if_pos (show nI (S0 1 (at_ + k)) = 31 by rw [q1]; rfl)]
    by_cases q2 : c < 4
    · rw [if_pos q2, if_neg (show ¬ nI c = 4 from fun e => absurd ((nI_eq (b := 4) (by omega) (by omega)).mp e) (by omega))]
    · rw [if_neg q2, if_pos (show nI c = 4 by rw [show c = 4 by omega]; rfl)]
  · have hne : ¬ nI (S0 1 (at_ + k)) = 31 := fun e => q1 ((nI_eq (b := 31) (by omega) (by omega)).mp e)
    rw [if_neg q1, if_neg hne, if_neg hne]
    by_cases q3 : 31 < S0 1 (at_ + k) ∧ S0 1 (at_ + k) < 127
    · rw [if_pos q3, if_pos q3, if_neg (show ¬ (1 : Int32) = 0 by decide)]
      by_cases q2 : w < 20
      · rw [if_pos q2, if_neg (show ¬ nI w = 20 from fun e => absurd ((nI_eq (b := 20) (by omega) (by omega)).mp e) (by omega))]
      · rw [if_neg q2, if_pos (show nI w = 20 by rw [show w = 20 by omega]; rfl)]
    · rw [if_neg q3, if_neg q3, if_pos rfl]
end RD
