theorem tl_get {ct : Nat → List va_E} {st sp : Nat} (hl : ∀ n, (ct n).length = sp) : ∀ (N r o : Nat), r < N → o < sp → (tl_i ct st sp N)[sp * r + o]? = (ct (st + sp * r))[o]? := by
  intro N
  induction N with
  | zero => intro r o h; omega
  | succ N ih =>
    intro r o hr ho
    rw [tl_is]
    by_cases h : r < N
    · have h2 : sp * r + o < sp * N := by
        have : sp * (r + 1) ≤ sp * N := Nat.mul_le_mul_left sp h
        rw [Nat.mul_succ] at this
        omega
      rw [List.getElem?_append_left (by rw [tl_len hl]; exact h2)]
      exact ih r o h ho
    · have h2 : r = N := by omega
      subst h2
      rw [List.getElem?_append_right (by rw [tl_len hl]; omega), tl_len hl, Nat.add_sub_cancel_left]
theorem vq_congr {D : va_G} {cl : List vw_C} {a n : Nat} {cA : ClassId} {f g : Nat → Option Nat} {H : Heap} (h : va_at D cl (a, .inl (cA, n, .inr (.inr (.inr (.inr f))))) H) (hfg : ∀ i, i < n → f i = g i) : va_at D cl (a, .inl (cA, n, .inr (.inr (.inr (.inr g))))) H := by
  have e : vp_cell cA (n, .inr (.inr (.inr (.inr f)))) = vp_cell cA (n, .inr (.inr (.inr (.inr g)))) := by
    rw [vp_cell_q, vp_cell_q]
    unfold arrV
    congr 1
    congr 1
    funext j
    show va_rf (f j.val) = va_rf (g j.val)
    rw [hfg j.val j.isLt]
  show H[a]? = some (vp_cell _ _)
  rw [← e]
  exact h
/-- a new shelf -/
def sg0 (b : Nat) : Sg := (fun a k => if a = b + 1 ∧ (k = 6 ∨ k = 7) then -1 else 0, fun a i => a + 1 + 18 * i)
def sg1 (m : Nat) : Sg := (fun a k => if a = m ∧ k = 13 then -1 else 0, fun _ _ => 0)
theorem sg1_z {m a : Nat} (h : a ≠ m) : (sg1 m).1 a = fun _ => 0 := by
  funext k
  show (if a = m ∧ k = 13 then (-1 : Int32) else 0) = 0
  rw [if_neg (fun q => h q.1)]
theorem sg1_k {m k : Nat} (h : k ≠ 13) : (sg1 m).1 m k = 0 := if_neg (fun q => h q.2)
theorem sg1_13 {m : Nat} : (sg1 m).1 m 13 = -1 := if_pos ⟨rfl, rfl⟩
theorem sg0_z {b a : Nat} (h : a ≠ b + 1) : (sg0 b).1 a = fun _ => 0 := by
  funext k
  show (if a = b + 1 ∧ (k = 6 ∨ k = 7) then (-1 : Int32) else 0) = 0
  rw [if_neg (fun q => h q.1)]
section Made
variable {D : va_G} {κ : Nat → ClassId} {b : Nat} {H : Heap} {rest : List va_E}
abbrev GdC (D : va_G) (κ : Nat → ClassId) (b : Nat) (H : Heap) (a : Nat) : Prop := va_at D vwCl (a, lyC κ b (a - b) ((sg0 b).1 a) ((sg0 b).2 a)) H
theorem md_sub {n r j k : Nat} (hn : n = 10 + 147 * r + 3 + 18 * j + 2 + 4 * k) (hr : r < 6) (hj : j < 8) (hk : k < 4) (h : ∀ (o : Nat) (e : va_E), (ct_X5_init κ b n)[o]? = some e → va_at D vwCl (b + (n + o), e) H) : ∀ t, t < 4 → GdC D κ b H (b + (n + t)) := by
  have hs : is_Sub b (b + n) := ⟨r, j, k, hr, hj, hk, by omega⟩
  intro t ht
  have hz : ∀ t, (sg0 b).1 (b + (n + t)) = fun _ => 0 := fun t => sg0_z (by omega)
  rcases (show t = 0 ∨ t = 1 ∨ t = 2 ∨ t = 3 by omega) with rfl | rfl | rfl | rfl
  · show va_at D vwCl (b + (n + 0), lyC κ b (b + n - b) ((sg0 b).1 (b + (n + 0))) _) H
    rw [hz, sg_ySub hs]; exact h 0 _ rfl
  · show va_at D vwCl (b + (n + 1), lyC κ b (b + n + 1 - b) ((sg0 b).1 (b + (n + 1))) _) H
    rw [hz, sg_ysletters hs]; exact h 1 _ rfl
  · show va_at D vwCl (b + (n + 2), lyC κ b (b + n + 2 - b) ((sg0 b).1 (b + (n + 2))) _) H
    rw [hz, sg_yKey (sg_kO hs)]; exact h 2 _ rfl
  · show va_at D vwCl (b + (n + 3), lyC κ b (b + n + 2 + 1 - b) ((sg0 b).1 (b + (n + 3))) _) H
    rw [hz, sg_yksigns (sg_kO hs), show sg_kR b (b + n + 2) = 20 from if_neg (by omega)]; exact h 3 _ rfl
theorem md_fld {n r j : Nat} (hn : n = 10 + 147 * r + 3 + 18 * j) (hr : r < 6) (hj : j < 8) (h : ∀ (o : Nat) (e : va_E), (ct_X1_init κ b n)[o]? = some e → va_at D vwCl (b + (n + o), e) H) : ∀ t, t < 18 → GdC D κ b H (b + (n + t)) := by
  have hs : is_Fld b (b + n) := ⟨r, j, hr, hj, by omega⟩
  intro t ht
  have hz : ∀ t, (sg0 b).1 (b + (n + t)) = fun _ => 0 := fun t => sg0_z (by omega)
  rcases (show t = 0 ∨ t = 1 ∨ 2 ≤ t by omega) with rfl | rfl | h2
  · show va_at D vwCl (b + (n + 0), lyC κ b (b + n - b) ((sg0 b).1 (b + (n + 0))) _) H
    rw [hz, sg_yField hs]; exact h 0 _ rfl
  · show va_at D vwCl (b + (n + 1), lyC κ b (b + n + 1 - b) ((sg0 b).1 (b + (n + 1))) _) H
    rw [hz, sg_ysubs hs]
    refine vq_congr (h 1 _ rfl) (fun i hi => ?_)
    show gr_i _ 4 i = _
    unfold gr_i
    rw [if_pos hi]
    show some (b + (n + 2 + 4 * i)) = some (b + n + 2 + 4 * i)
    congr 1
    omega
  · obtain ⟨k, o, hk, ho, rfl⟩ : ∃ k o, k < 4 ∧ o < 4 ∧ t = 2 + 4 * k + o := ⟨(t - 2) / 4, (t - 2) % 4, by omega, by omega, by omega⟩
    have h3 := md_sub (D := D) (κ := κ) (b := b) (H := H) (n := n + 2 + 4 * k) (r := r) (j := j) (k := k) (by omega) hr hj hk (fun o e he => by
      by_cases hol : o < 4
      · have h4 := h (2 + (4 * k + o)) e (by
          show ([_, _] ++ tl_i (ct_X5_init κ b) (n + 2) 4 4)[2 + (4 * k + o)]? = _
          rw [gl (n := 2) rfl, tl_get (ctl_X5_init κ b) 4 k o hk hol]
          exact he)
        rw [show n + 2 + 4 * k + o = n + (2 + (4 * k + o)) by omega]
        exact h4
      · have : o < (ct_X5_init κ b (n + 2 + 4 * k)).length := (List.getElem?_eq_some_iff.mp he).1
        rw [ctl_X5_init] at this
        omega) o ho
    rw [show n + (2 + 4 * k + o) = n + 2 + 4 * k + o by omega]
    exact h3
theorem md_card {n r : Nat} (hn : n = 10 + 147 * r) (hr : r < 6) (h : ∀ (o : Nat) (e : va_E), (ct_X0_init κ b n)[o]? = some e → va_at D vwCl (b + (n + o), e) H) : ∀ t, t < 147 → GdC D κ b H (b + (n + t)) := by
  have hs : is_Card b (b + n) := ⟨r, hr, by omega⟩
  intro t ht
  have hz : ∀ t, (sg0 b).1 (b + (n + t)) = fun _ => 0 := fun t => sg0_z (by omega)
  rcases (show t = 0 ∨ t = 1 ∨ t = 2 ∨ 3 ≤ t by omega) with rfl | rfl | rfl | h2
  · show va_at D vwCl (b + (n + 0), lyC κ b (b + n - b) ((sg0 b).1 (b + (n + 0))) _) H
    rw [hz, sg_yCard hs]; exact h 0 _ rfl
  · show va_at D vwCl (b + (n + 1), lyC κ b (b + n + 1 - b) ((sg0 b).1 (b + (n + 1))) _) H
    rw [hz, sg_ycletters hs]; exact h 1 _ rfl
  · show va_at D vwCl (b + (n + 2), lyC κ b (b + n + 2 - b) ((sg0 b).1 (b + (n + 2))) _) H
    rw [hz, sg_yfields hs]
    refine vq_congr (h 2 _ rfl) (fun i hi => ?_)
    show gr_i _ 8 i = some (b + (n + 2) + 1 + 18 * i)
    unfold gr_i
    rw [if_pos hi]
    show some (b + (n + 3 + 18 * i)) = some (b + (n + 2) + 1 + 18 * i)
    congr 1
    omega
  · obtain ⟨k, o, hk, ho, rfl⟩ : ∃ k o, k < 8 ∧ o < 18 ∧ t = 3 + 18 * k + o := ⟨(t - 3) / 18, (t - 3) % 18, by omega, by omega, by omega⟩
    have h3 := md_fld (D := D) (κ := κ) (b := b) (H := H) (n := n + 3 + 18 * k) (r := r) (j := k) (by omega) hr hk (fun o e he => by
      by_cases hol : o < 18
      · have h4 := h (3 + (18 * k + o)) e (by
          show ([_, _, _] ++ tl_i (ct_X1_init κ b) (n + 3) 18 8)[3 + (18 * k + o)]? = _
          rw [gl (n := 3) rfl, tl_get (ctl_X1_init κ b) 8 k o hk hol]
          exact he)
        rw [show n + 3 + 18 * k + o = n + (3 + (18 * k + o)) by omega]
        exact h4
      · have : o < (ct_X1_init κ b (n + 3 + 18 * k)).length := (List.getElem?_eq_some_iff.mp he).1
        rw [ctl_X1_init] at this
        omega) o ho
    rw [show n + (3 + 18 * k + o) = n + 3 + 18 * k + o by omega]
    exact h3
theorem md_shelf (h : ∀ (o : Nat) (e : va_E), (ct_X7_init κ b 0)[o]? = some e → va_at D vwCl (b + o, e) H) : ∀ t, t < 892 → GdC D κ b H (b + t) := by
  intro t ht
  have hz : ∀ t, t ≠ 1 → (sg0 b).1 (b + t) = fun _ => 0 := fun t h => sg0_z (by omega)
  rcases (show t = 0 ∨ t = 1 ∨ t = 2 ∨ t = 3 ∨ t = 4 ∨ t = 5 ∨ t = 6 ∨ t = 7 ∨ t = 8 ∨ t = 9 ∨ 10 ≤ t by omega) with rfl | rfl | rfl | rfl | rfl | rfl | rfl | rfl | rfl | rfl | h2
  · show va_at D vwCl (b, lyC κ b (b - b) ((sg0 b).1 (b + 0)) _) H
    rw [hz 0 (by decide), sg_yShelf]
    have h0 := h 0 _ rfl
    simp only [Nat.zero_add] at h0
    exact h0
  · show va_at D vwCl (b + 1, lyC κ b (b + 1 - b) ((sg0 b).1 (b + 1)) _) H
    rw [sg_yReader]
    have h0 := h 1 _ rfl
    simp only [Nat.zero_add] at h0
    have e6 : (sg0 b).1 (b + 1) 6 = -1 := if_pos ⟨rfl, Or.inl rfl⟩
    have e7 : (sg0 b).1 (b + 1) 7 = -1 := if_pos ⟨rfl, Or.inr rfl⟩
    have ez : ∀ k, k < 6 → (sg0 b).1 (b + 1) k = 0 := fun k hk => if_neg (by omega)
    rw [e6, e7, ez 2 (by decide), ez 3 (by decide), ez 4 (by decide), ez 5 (by decide)]
    exact h0
  · show va_at D vwCl (b + 2, lyC κ b (b + 2 - b) ((sg0 b).1 (b + 2)) _) H
    rw [hz 2 (by decide), sg_yText]
    have h0 := h 2 _ rfl
    simp only [Nat.zero_add] at h0
    exact h0
  · show va_at D vwCl (b + 3, lyC κ b (b + 3 - b) ((sg0 b).1 (b + 3)) _) H
    rw [hz 3 (by decide), sg_ytsigns]; exact h 3 _ rfl
  · show va_at D vwCl (b + 4, lyC κ b (b + 4 - b) ((sg0 b).1 (b + 4)) _) H
    rw [hz 4 (by decide), sg_ysizes]; exact h 4 _ rfl
  · show va_at D vwCl (b + 5, lyC κ b (b + 5 - b) ((sg0 b).1 (b + 5)) _) H
    rw [hz 5 (by decide), sg_ycards]
    refine vq_congr (h 5 _ rfl) (fun i hi => ?_)
    show gr_i _ 6 i = _
    unfold gr_i
    rw [if_pos hi]
    show some (b + (0 + 10 + 147 * i)) = some (b + 10 + 147 * i)
    congr 1
    omega
  · show va_at D vwCl (b + 6, lyC κ b (b + 6 - b) ((sg0 b).1 (b + 6)) _) H
    rw [hz 6 (by decide), sg_yHeadings]
    have h0 := h 6 _ rfl
    simp only [Nat.zero_add] at h0
    exact h0
  · show va_at D vwCl (b + 7, lyC κ b (b + 7 - b) ((sg0 b).1 (b + 7)) _) H
    rw [hz 7 (by decide), sg_yplaces]; exact h 7 _ rfl
  · show va_at D vwCl (b + 8, lyC κ b (b + 8 - b) ((sg0 b).1 (b + 8)) _) H
    rw [hz 8 (by decide), sg_ysKey]
    have h0 := h 8 _ rfl
    simp only [Nat.zero_add] at h0
    exact h0
  · show va_at D vwCl (b + 9, lyC κ b (b + 9 - b) ((sg0 b).1 (b + 9)) _) H
    rw [hz 9 (by decide), sg_yssigns]; exact h 9 _ rfl
  · obtain ⟨k, o, hk, ho, rfl⟩ : ∃ k o, k < 6 ∧ o < 147 ∧ t = 10 + 147 * k + o := ⟨(t - 10) / 147, (t - 10) % 147, by omega, by omega, by omega⟩
    exact md_card (D := D) (κ := κ) (b := b) (H := H) (n := 10 + 147 * k) (r := k) rfl hk (fun o e he => by
      by_cases hol : o < 147
      · have h4 := h (10 + (147 * k + o)) e (by
          show ([_, _, _, _, _, _, _, _, _, _] ++ tl_i (ct_X0_init κ b) (0 + 10) 147 6)[10 + (147 * k + o)]? = _
          rw [gl (n := 10) rfl, tl_get (ctl_X0_init κ b) 6 k o hk hol, Nat.zero_add]
          exact he)
        rw [show 10 + 147 * k + o = 10 + (147 * k + o) by omega]
        exact h4
      · have : o < (ct_X0_init κ b (10 + 147 * k)).length := (List.getElem?_eq_some_iff.mp he).1
        rw [ctl_X0_init] at this
        omega) o ho
theorem CW_made (hG : GW D b (ct_X7_init κ b 0 ++ rest) H) : CW D κ b (sg0 b) H := by
  refine ⟨fun k q hk => ?_, fun a ha i hi => ?_⟩
  · have hl : k < 892 := by have := (List.getElem?_eq_some_iff.mp hk).1; rwa [sg_len] at this
    rw [sg_nth hl] at hk
    rw [← Option.some.inj hk]
    have h := md_shelf (D := D) (κ := κ) (b := b) (H := H) (fun o e he => hG.1 o e (by
      rw [List.getElem?_append_left (List.getElem?_eq_some_iff.mp he).1]
      exact he)) k hl
    have h1 : va_at D vwCl (b + k, lyC κ b (b + k - b) ((sg0 b).1 (b + k)) ((sg0 b).2 (b + k))) H := h
    rw [show b + k - b = k by omega] at h1
    exact h1
  · obtain ⟨r, hr, rfl⟩ := ha
    exact ⟨r, i, hr, hi, rfl⟩
theorem MW_made {m : Nat} (hm : m = b + 892) (hG : GW D b (ct_X7_init κ b 0 ++ ct_X8_init κ b 892) H) : MW D κ m (sg1 m) H := by
  have h : ∀ (o : Nat) (e : va_E), (ct_X8_init κ b 892)[o]? = some e → va_at D vwCl (m + o, e) H := fun o e he => by
    have h1 := hG.1 (892 + o) e (by rw [gl (ctl_X7_init κ b 0)]; exact he)
    rw [hm, Nat.add_assoc]
    exact h1
  have key : ∀ k, k < 16 → va_at D vwCl (m + k, lyM κ m (m + k - m) ((sg1 m).1 (m + k)) ((sg1 m).2 (m + k))) H := by
    intro k hk
    rcases (show k = 0 ∨ k = 1 ∨ k = 2 ∨ k = 3 ∨ k = 4 ∨ k = 5 ∨ k = 6 ∨ k = 7 ∨ k = 8 ∨ k = 9 ∨ k = 10 ∨ k = 11 ∨ k = 12 ∨ k = 13 ∨ k = 14 ∨ k = 15 by omega) with rfl | rfl | rfl | rfl | rfl | rfl | rfl | rfl | rfl | rfl | rfl | rfl | rfl | rfl | rfl | rfl
    · show va_at D vwCl (m, lyM κ m (m - m) ((sg1 m).1 m) _) H
      rw [sg_yModel, sg1_k (k := 1) (by decide), sg1_k (k := 2) (by decide), sg1_k (k := 12) (by decide), sg1_k (k := 15) (by decide), sg1_k (k := 20) (by decide), sg1_13]
      have h0 := h 0 _ rfl
      subst hm
      exact h0
    · show va_at D vwCl (m + 1, lyM κ m (m + 1 - m) ((sg1 m).1 (m + 1)) _) H
      rw [sg1_z (by omega), sg_ya_text]; exact h 1 _ rfl
    · show va_at D vwCl (m + 2, lyM κ m (m + 2 - m) ((sg1 m).1 (m + 2)) _) H
      rw [sg1_z (by omega), sg_ya_letters]; exact h 2 _ rfl
    · show va_at D vwCl (m + 3, lyM κ m (m + 3 - m) ((sg1 m).1 (m + 3)) _) H
      rw [sg1_z (by omega), sg_ya_fieldsOf]; exact h 3 _ rfl
    · show va_at D vwCl (m + 4, lyM κ m (m + 4 - m) ((sg1 m).1 (m + 4)) _) H
      rw [sg1_z (by omega), sg_ya_tags]; exact h 4 _ rfl
    · show va_at D vwCl (m + 5, lyM κ m (m + 5 - m) ((sg1 m).1 (m + 5)) _) H
      rw [sg1_z (by omega), sg_ya_firsts]; exact h 5 _ rfl
    · show va_at D vwCl (m + 6, lyM κ m (m + 6 - m) ((sg1 m).1 (m + 6)) _) H
      rw [sg1_z (by omega), sg_ya_seconds]; exact h 6 _ rfl
    · show va_at D vwCl (m + 7, lyM κ m (m + 7 - m) ((sg1 m).1 (m + 7)) _) H
      rw [sg1_z (by omega), sg_ya_subfields]; exact h 7 _ rfl
    · show va_at D vwCl (m + 8, lyM κ m (m + 8 - m) ((sg1 m).1 (m + 8)) _) H
      rw [sg1_z (by omega), sg_ya_codes]; exact h 8 _ rfl
    · show va_at D vwCl (m + 9, lyM κ m (m + 9 - m) ((sg1 m).1 (m + 9)) _) H
      rw [sg1_z (by omega), sg_ya_sizes]; exact h 9 _ rfl
    · show va_at D vwCl (m + 10, lyM κ m (m + 10 - m) ((sg1 m).1 (m + 10)) _) H
      rw [sg1_z (by omega), sg_ya_characters]; exact h 10 _ rfl
    · show va_at D vwCl (m + 11, lyM κ m (m + 11 - m) ((sg1 m).1 (m + 11)) _) H
      rw [sg1_z (by omega), sg_ya_lengths]; exact h 11 _ rfl
    · show va_at D vwCl (m + 12, lyM κ m (m + 12 - m) ((sg1 m).1 (m + 12)) _) H
      rw [sg1_z (by omega), sg_ya_headings]; exact h 12 _ rfl
    · show va_at D vwCl (m + 13, lyM κ m (m + 13 - m) ((sg1 m).1 (m + 13)) _) H
      rw [sg1_z (by omega), sg_ya_keys]; exact h 13 _ rfl
    · show va_at D vwCl (m + 14, lyM κ m (m + 14 - m) ((sg1 m).1 (m + 14)) _) H
      rw [sg1_z (by omega), sg_ya_keySizes]; exact h 14 _ rfl
    · show va_at D vwCl (m + 15, lyM κ m (m + 15 - m) ((sg1 m).1 (m + 15)) _) H
      rw [sg1_z (by omega), sg_ya_wanted]; exact h 15 _ rfl
  refine ⟨fun k q hk => ?_, trivial⟩
  have hl : k < 16 := by have := (List.getElem?_eq_some_iff.mp hk).1; rwa [sg_len] at this
  rw [sg_nth hl] at hk
  rw [← Option.some.inj hk]
  have h1 := key k hl
  rw [show m + k - m = k by omega] at h1
  exact h1
end Made
