/-- the state of one side: the ints of every cell by its address and place, and the references of the rows that change -/
abbrev Sg : Type := (Nat → Nat → Int32) × (Nat → Nat → Nat)
def sg_w (σ : Sg) (a k : Nat) (v : Int32) : Sg := (fun a' => if a' = a then upd (σ.1 a') k v else σ.1 a', σ.2)
def sg_r (σ : Sg) (a k v : Nat) : Sg := (σ.1, fun a' => if a' = a then va_up (σ.2 a') k v else σ.2 a')
def sg_f (σ : Sg) (a : Nat) (f : Nat → Int32) : Sg := (fun a' => if a' = a then f else σ.1 a', σ.2)
def sg_A (b n : Nat) : Nat → Prop := fun q => b ≤ q ∧ q < b + n
abbrev sg_Y : Type := Nat → (Nat → Int32) → (Nat → Nat) → va_E
def sg_L (n : Nat) (ly : sg_Y) (b : Nat) (σ : Sg) : va_W := (List.range n).map (fun k => (b + k, ly k (σ.1 (b + k)) (σ.2 (b + k))))
def sg_lt {α β : Type} (x : α) (f : α → β) : β := f x
theorem sg_lte {α β : Type} {x : α} {f : α → Option β} {r : β} (h : sg_lt x f = some r) : ∃ y, x = y ∧ f y = some r := ⟨x, rfl, h⟩
theorem sg_gd {c : Prop} [Decidable c] {β : Type} {t : Option β} {r : β} (h : (if c then t else none) = some r) : c ∧ t = some r := by
  by_cases hc : c
  · exact ⟨hc, (if_pos hc).symm.trans h⟩
  · rw [if_neg hc] at h; cases h
abbrev sg_x (i : Int32) : Nat := i.toNatClampNeg
abbrev sg_ib (i : Int32) (n : Nat) : Prop := ¬ i < 0 ∧ i.toNatClampNeg < n
theorem sg_in {i : Int32} {n : Nat} (h : sg_ib i n) : vp_in i n := fun q => q.elim h.1 (fun q => Nat.not_le.mpr h.2 q)
abbrev sg_c (x : Int32) : Int32 := (x.toUInt32 % 65536).toInt32
abbrev sg_ic (x : Int32) : Prop := sg_c x = x
theorem sg_cn {x : Int32} (h : sg_ic x) : narrow .char (.int x) = .int x := h ▸ pk_nc x
theorem sg_cf {x : Int32} (h : sg_ic x) : fits .char (.int x) = true := h ▸ pk_fc x
abbrev sg_bo (x : Int32) : Prop := x = 0 ∨ x = 1
theorem sg_bn {x : Int32} (h : sg_bo x) : narrow .boolean (.int x) = .int x := by rcases h with rfl | rfl <;> decide
theorem sg_bf {x : Int32} (h : sg_bo x) : fits .boolean (.int x) = true := by rcases h with rfl | rfl <;> decide
abbrev sg_cp (sp dp n : Int32) (N : Nat) : Prop := ¬ sp < 0 ∧ ¬ dp < 0 ∧ ¬ n < 0 ∧ sp.toNatClampNeg + n.toNatClampNeg ≤ N ∧ dp.toNatClampNeg + n.toNatClampNeg ≤ N
def sg_N : Nat := 1000
theorem sg_inc {x v : Int32} {n : Int} {k : Int32} (hk : Int32.ofInt n = k) (h : x + k = v) : x + Int32.ofInt n = v := by rw [hk]; exact h
theorem sg_sw3t {x : Int32} (h0 : ¬ x = 0) (h1 : ¬ x = 1) (h2 : ¬ x = 2) : x.toInt < 0 ∨ 2 < x.toInt := by
  by_cases hn : x < 0
  · exact Or.inl (by simpa using Int32.lt_iff_toInt_lt.mp hn)
  · obtain ⟨j, hj, rfl⟩ := nI_of hn
    right
    rw [nI_toInt hj]
    have a0 : j ≠ 0 := fun q => h0 (by rw [q]; rfl)
    have a1 : j ≠ 1 := fun q => h1 (by rw [q]; rfl)
    have a2 : j ≠ 2 := fun q => h2 (by rw [q]; rfl)
    omega
theorem sg_sw2l {x : Int32} {o0 o1 d : Int} (h0 : ¬ x = 0) (h1 : ¬ x = 1) : Op.lookupswitch.offset [(0, o0), (1, o1)] d x.toInt = d := by
  have a0 : ¬ x.toInt = 0 := fun q => h0 (Int32.toInt_inj.mp (by rw [q]; rfl))
  have a1 : ¬ x.toInt = 1 := fun q => h1 (Int32.toInt_inj.mp (by rw [q]; rfl))
  simp only [Op.lookupswitch.offset]
  rw [if_neg (fun q => a0 q.symm), if_neg (fun q => a1 q.symm)]
section SgTop
variable {p : Program} {l : Launch} {e : Env} {R : Room} {s : State} {m : MethodId} {args : Array Value} {below : List Frame} {meth : Method} {c : Code} {H : Heap} {locs : List Loc} {cells slots : Nat} {Q : State → Prop} {pc : Nat} {ls : Array Slot} {rest : List Value}
theorem sg_topi {x y : Int32} (h : x = y) (k : W p l e R s m args below meth c H locs cells slots Q (F0 m pc ls (.int y :: rest))) : W p l e R s m args below meth c H locs cells slots Q (F0 m pc ls (.int x :: rest)) := by rw [h]; exact k
theorem sg_topl {x y : Int64} (h : x = y) (k : W p l e R s m args below meth c H locs cells slots Q (F0 m pc ls (.long y :: rest))) : W p l e R s m args below meth c H locs cells slots Q (F0 m pc ls (.long x :: rest)) := by rw [h]; exact k
theorem sg_topr {x y : Nat} (h : x = y) (k : W p l e R s m args below meth c H locs cells slots Q (F0 m pc ls (.ref y :: rest))) : W p l e R s m args below meth c H locs cells slots Q (F0 m pc ls (.ref x :: rest)) := by rw [h]; exact k
end SgTop
section SgL
variable {n : Nat} {ly : sg_Y} {b : Nat} {σ : Sg} {a : Nat}
theorem sg_nth {k : Nat} (h : k < n) : (sg_L n ly b σ)[k]? = some (b + k, ly k (σ.1 (b + k)) (σ.2 (b + k))) := by
  unfold sg_L
  rw [List.getElem?_map, List.getElem?_range h]
  rfl
theorem sg_get (h : sg_A b n a) : (sg_L n ly b σ)[a - b]? = some (a, ly (a - b) (σ.1 a) (σ.2 a)) := by
  have h1 : a - b < n := by have := h.1; have := h.2; omega
  have h2 : b + (a - b) = a := by have := h.1; omega
  rw [sg_nth h1, h2]
theorem sg_len : (sg_L n ly b σ).length = n := by unfold sg_L; rw [List.length_map, List.length_range]
theorem sg_D : va_D (sg_A b n) (sg_L n ly b σ) := by
  have key : ∀ (k : Nat) (q : Nat × va_E), (sg_L n ly b σ)[k]? = some q → k < n ∧ q.1 = b + k := by
    intro k q hk
    have hl : k < n := by have := (List.getElem?_eq_some_iff.mp hk).1; rwa [sg_len] at this
    rw [sg_nth hl] at hk
    exact ⟨hl, by rw [← Option.some.inj hk]⟩
  refine ⟨fun i j x y hi hj hxy => ?_, fun k q hk => ?_⟩
  · have h1 := (key i x hi).2
    have h2 := (key j y hj).2
    omega
  · obtain ⟨h1, h2⟩ := key k q hk
    rw [h2]
    exact ⟨Nat.le_add_right _ _, Nat.add_lt_add_left h1 b⟩
/-- one cell of a world is put in another's place: the new state differs there alone -/
theorem sg_set {τ : Sg} {e : va_E} (h : sg_A b n a) (he : ly (a - b) (τ.1 a) (τ.2 a) = e) (ho : ∀ q, q ≠ a → τ.1 q = σ.1 q ∧ τ.2 q = σ.2 q) : (sg_L n ly b σ).set (a - b) (a, e) = sg_L n ly b τ := by
  apply List.ext_getElem?
  intro k
  by_cases hk : k < n
  · by_cases hka : k = a - b
    · subst hka
      rw [List.getElem?_set_self (by rw [sg_len]; exact hk), sg_get h, he]
    · rw [List.getElem?_set_ne (Ne.symm hka), sg_nth hk, sg_nth hk]
      have hne : b + k ≠ a := fun q => hka (by omega)
      rw [(ho _ hne).1, (ho _ hne).2]
  · rw [List.getElem?_eq_none (by rw [List.length_set, sg_len]; omega), List.getElem?_eq_none (by rw [sg_len]; omega)]
theorem sg_w_at {k : Nat} {v : Int32} : (sg_w σ a k v).1 a = upd (σ.1 a) k v := by simp [sg_w]
theorem sg_w_ne {k q : Nat} {v : Int32} (h : q ≠ a) : (sg_w σ a k v).1 q = σ.1 q := by simp [sg_w, h]
theorem sg_f_at {f : Nat → Int32} : (sg_f σ a f).1 a = f := by simp [sg_f]
theorem sg_f_ne {q : Nat} {f : Nat → Int32} (h : q ≠ a) : (sg_f σ a f).1 q = σ.1 q := by simp [sg_f, h]
theorem sg_r_at {k v : Nat} : (sg_r σ a k v).2 a = va_up (σ.2 a) k v := by simp [sg_r]
theorem sg_r_ne {k v q : Nat} (h : q ≠ a) : (sg_r σ a k v).2 q = σ.2 q := by simp [sg_r, h]
end SgL
