-- ===== keys =====
def ky_w (p : List Nat × Bool) : Nat := p.1.length + (if p.2 = true ∧ p.1 ≠ [] then 1 else 0)
theorem ky_w1 (p : List Nat × Bool) (c : Nat) : ky_w (ky_st p c) ≤ ky_w p + 1 := by
  unfold ky_w ky_st
  by_cases ha : ky_al c = true
  · rw [if_pos ha]
    by_cases hg : p.2 = true ∧ p.1 ≠ []
    · rw [if_pos hg, if_pos hg, if_neg (fun q => (by cases (show false = true from q.1)))]
      simp
    · rw [if_neg hg, if_neg hg, if_neg (fun q => (by cases (show false = true from q.1)))]
      simp
  · rw [if_neg ha]
    show p.1.length + (if (true = true ∧ p.1 ≠ []) then 1 else 0) ≤ p.1.length + _ + 1
    split <;> split <;> omega
theorem ky_wn (cs : List Nat) : ∀ p : List Nat × Bool, ky_w (cs.foldl ky_st p) ≤ ky_w p + cs.length := by
  induction cs with
  | nil => intro p; exact Nat.le_refl _
  | cons c cs ih =>
    intro p
    have h1 := ih (ky_st p c)
    have h2 := ky_w1 p c
    show ky_w (cs.foldl ky_st (ky_st p c)) ≤ ky_w p + (cs.length + 1)
    omega
theorem ky_len (cs : List Nat) : ky_w (ky_of cs) ≤ cs.length := by
  have h := ky_wn cs ([], false)
  have e : ky_w ([], false) = 0 := rfl
  rw [e] at h
  unfold ky_of
  omega
theorem ky_snoc (cs : List Nat) (c : Nat) : ky_of (cs ++ [c]) = ky_st (ky_of cs) c := by
  unfold ky_of
  rw [List.foldl_append]; rfl
def kX (σ : Sg) (ka : Nat) (L : List Nat) (g : Int32) : Prop := σ.1 ka 1 = nI L.length ∧ (∀ i, i < L.length → σ.1 (ka + 1) i = nI (L.getD i 0)) ∧ σ.1 ka 2 = g
def fK (ka : Nat) (σ σ' : Sg) : Prop := (∀ z k, z ≠ ka → z ≠ ka + 1 → σ'.1 z k = σ.1 z k) ∧ σ'.2 = σ.2
theorem fK.tr {ka : Nat} {σ σ1 σ2 : Sg} (h : fK ka σ σ1) (h2 : fK ka σ1 σ2) : fK ka σ σ2 := ⟨fun a k x y => (h2.1 a k x y).trans (h.1 a k x y), h2.2.trans h.2⟩
theorem kR_le (b ka : Nat) : sg_kR b ka ≤ 600 := by unfold sg_kR; split <;> omega
theorem put_K {b ka c : Nat} {σ : Sg} {L : List Nat} {g : Int32} (h : kX σ ka L g) (hl : L.length < sg_kR b ka) (hc : c < 65536) : ∃ σ', fn_X3_put b σ ka (nI c) = some σ' ∧ kX σ' ka (L ++ [c]) g ∧ fK ka σ σ' := by
  have h6 := kR_le b ka
  refine ⟨sg_w (sg_w σ (ka + 1) L.length (nI c)) ka 1 (nI (L.length + 1)), ?_, ⟨?_, fun i hi => ?_, ?_⟩, fun a k h1 h2 => ?_, rfl⟩
  · unfold fn_X3_put
    rw [h.1, if_neg (nI_ge hl (by omega)), if_pos (sg_ibN hl (by omega)), sg_xN (by omega), sg_narN hc]
    unfold sg_lt
    simp only []
    rw [sg_wga (by omega), h.1, show nI L.length + 1 = nI (L.length + 1) from nI_1 _]
  · rw [sg_wgs, List.length_append]; rfl
  · rw [sg_wga (by omega)]
    rw [List.length_append] at hi
    by_cases hi2 : i < L.length
    · rw [sg_wgk (by omega), h.2.1 i hi2, gd_l hi2]
    · have : i = L.length := by have : i < L.length + 1 := hi; omega
      subst this
      rw [sg_wgs, gd_r]
  · rw [sg_wgk (by decide), sg_wga (by omega)]; exact h.2.2
  · rw [sg_wga h1, sg_wga h2]
theorem tk55 {b ka c : Nat} {σ : Sg} {L : List Nat} {g y : Int32} (h : kX σ ka L g) (hl : L.length < sg_kR b ka) (hc : c < 128) (hy : ¬ y = 0 → 65 ≤ c) : ∃ σ', fn_X3_take_B55 b σ ka (nI c) y = some σ' ∧ kX σ' ka (L ++ [if y = 0 then c else c + 32]) 0 ∧ fK ka σ σ' := by
  have h0 : kX (sg_w σ ka 2 0) ka L 0 := ⟨by rw [sg_wgk (by decide)]; exact h.1, fun i hi => by rw [sg_wga (by omega)]; exact h.2.1 i hi, sg_wgs⟩
  have f0 : fK ka σ (sg_w σ ka 2 0) := ⟨fun z k h1 _ => sg_wga h1, rfl⟩
  unfold fn_X3_take_B55 fn_X3_take_B77 sg_lt
  simp only []
  by_cases hy0 : y = 0
  · obtain ⟨σ', a1, a2, a3⟩ := put_K (c := c) h0 hl (by omega)
    rw [if_pos hy0, if_pos hy0, a1]
    exact ⟨σ', rfl, a2, f0.tr a3⟩
  · obtain ⟨σ', a1, a2, a3⟩ := put_K (c := c + 32) h0 hl (by omega)
    have h65 := hy hy0
    rw [if_neg hy0, if_neg hy0, show sg_c ((nI c - 65) + 97) = nI (c + 32) by
      rw [show nI c - (65 : Int32) = nI (c - 65) from pk_sub (b := 65) h65, show nI (c - 65) + (97 : Int32) = nI (c - 65 + 97) from nI_add _ 97, sg_icN (by omega)]
      congr 1
      omega, a1]
    exact ⟨σ', rfl, a2, f0.tr a3⟩
theorem tk35 {b ka c : Nat} {σ : Sg} {L : List Nat} {g : Bool} {y : Int32} (h : rc_key σ ka (L, g)) (hl : ky_w (L, g) < sg_kR b ka) (hc : c < 128) (hy : ¬ y = 0 → 65 ≤ c) : ∃ σ', fn_X3_take_B35 b σ ka (nI c) y = some σ' ∧ kX σ' ka ((if g = true ∧ L ≠ [] then L ++ [32] else L) ++ [if y = 0 then c else c + 32]) 0 ∧ fK ka σ σ' := by
  have h6 := kR_le b ka
  unfold ky_w at hl
  have hk : kX σ ka L (if g then 1 else 0) := h
  unfold fn_X3_take_B35
  rw [hk.2.2, hk.1]
  cases g with
  | false =>
    rw [if_pos (show (if false = true then (1 : Int32) else 0) = 0 from rfl), if_neg (fun q => (by cases (show false = true from q.1)))]
    rw [if_neg (fun q => (by cases (show false = true from q.1)))] at hl
    exact tk55 hk hl hc hy
  | true =>
    rw [if_neg (show ¬ (if true = true then (1 : Int32) else 0) = 0 by decide)]
    by_cases hL : L = []
    · subst hL
      rw [if_pos (show nI ([] : List Nat).length ≤ 0 by decide), if_neg (fun q => absurd rfl q.2)]
      rw [if_neg (fun q => absurd rfl q.2)] at hl
      exact tk55 hk hl hc hy
    · rw [if_pos (show true = true ∧ L ≠ [] from ⟨rfl, hL⟩)]
      rw [if_pos (show (L, true).2 = true ∧ (L, true).1 ≠ [] from ⟨rfl, hL⟩)] at hl
      have hpos : 0 < L.length := List.length_pos_iff.mpr hL
      have hl2 : L.length + 1 < sg_kR b ka := hl
      rw [if_neg (show ¬ nI L.length ≤ 0 from nI_nle hpos (by omega))]
      obtain ⟨σ1, a1, a2, a3⟩ := put_K (b := b) (c := 32) hk (by omega) (by decide)
      obtain ⟨σ2, b1, b2, b3⟩ := tk55 (y := y) a2 (by rw [List.length_append]; exact hl2) hc hy
      rw [show fn_X3_put b σ ka 32 = some σ1 from a1]
      exact ⟨σ2, b1, b2, a3.tr b3⟩
theorem cd_128 : ∀ c, c < 128 → fn_X7_isCode (nI c) = some (if ((97 ≤ c && c ≤ 122) || (48 ≤ c && c ≤ 57)) then 1 else 0) := by decide +kernel
theorem tk {b ka c : Nat} {σ : Sg} {p : List Nat × Bool} (h : rc_key σ ka p) (hl : ky_w p < sg_kR b ka) (hc : c < 128) : ∃ σ', fn_X3_take b σ ka (nI c) = some σ' ∧ rc_key σ' ka (ky_st p c) ∧ fK ka σ σ' := by
  obtain ⟨L, g⟩ := p
  unfold fn_X3_take fn_X3_take_B16
  by_cases hcap : 65 ≤ c ∧ c ≤ 90
  · rw [if_neg (show ¬ nI c < (65 : Int32) from nI_nlt (b := 65) hcap.1 (by omega)), if_neg (show ¬ (90 : Int32) < nI c from nI_nlt (a := 90) hcap.2 (by decide))]
    unfold fn_X3_take_B17
    rw [if_neg (show ¬ (1 : Int32) = 0 by decide)]
    obtain ⟨σ', a1, a2, a3⟩ := tk35 (y := 1) h hl hc (fun _ => hcap.1)
    refine ⟨σ', a1, ?_, a3⟩
    have e : ky_st (L, g) c = ((if g = true ∧ L ≠ [] then L ++ [32] else L) ++ [c + 32], false) := by
      unfold ky_st ky_lo
      rw [if_pos (show ky_al c = true by unfold ky_al; simp; omega), if_pos hcap]
    rw [e]
    rw [if_neg (show ¬ (1 : Int32) = 0 by decide)] at a2
    exact a2
  · have hB : (if nI c < (65 : Int32) then fn_X3_take_B17 b σ ka (nI c) 0 else if (90 : Int32) < nI c then fn_X3_take_B17 b σ ka (nI c) 0 else fn_X3_take_B17 b σ ka (nI c) 1) = fn_X3_take_B17 b σ ka (nI c) 0 := by
      by_cases h65 : c < 65
      · rw [if_pos (show nI c < (65 : Int32) from nI_lt (b := 65) h65 (by decide))]
      · rw [if_neg (show ¬ nI c < (65 : Int32) from nI_nlt (b := 65) (by omega) (by omega)), if_pos (show (90 : Int32) < nI c from nI_lt (a := 90) (by omega) (by omega))]
    rw [hB]
    unfold fn_X3_take_B17
    rw [if_pos rfl, cd_128 c hc, Option.bind_some]
    by_cases hal : ((97 ≤ c && c ≤ 122) || (48 ≤ c && c ≤ 57)) = true
    · rw [if_pos hal, if_neg (show ¬ (1 : Int32) = 0 by decide)]
      obtain ⟨σ', a1, a2, a3⟩ := tk35 (y := 0) h hl hc (fun q => absurd rfl q)
      refine ⟨σ', a1, ?_, a3⟩
      have e : ky_st (L, g) c = ((if g = true ∧ L ≠ [] then L ++ [32] else L) ++ [c], false) := by
        unfold ky_st ky_lo
        rw [if_pos (show ky_al c = true by unfold ky_al; rw [hal]; rfl), if_neg hcap]
      rw [e]
      rw [if_pos rfl] at a2
      exact a2
    · rw [if_neg hal, if_pos rfl]
      refine ⟨sg_w σ ka 2 1, rfl, ?_, fun z k h1 _ => sg_wga h1, rfl⟩
      have hn : ¬ ky_al c = true := fun q => by
        unfold ky_al at q
        rw [Bool.or_eq_true] at q
        rcases q with q | q
        · exact hal q
        · simp at q; omega
      have e : ky_st (L, g) c = (L, true) := by unfold ky_st; rw [if_neg hn]
      rw [e]
      exact ⟨by rw [sg_wgk (by decide)]; exact h.1, fun i hi => by rw [sg_wga (by omega)]; exact h.2.1 i hi, sg_wgs⟩
