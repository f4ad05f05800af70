/-- the heap ends with the cells es, which stand from b on -/
def GW (D : va_G) (b : Nat) (es : List va_E) (H : Heap) : Prop := (∀ (k : Nat) (e : va_E), es[k]? = some e → va_at D vwCl (b + k, e) H) ∧ H.size = b + es.length
section GWs
variable {D : va_G} {b : Nat} {es : List va_E} {H H1 : Heap}
theorem GW_P {k : Nat} {e : va_E} (h : GW D b es H) (he : es[k]? = some e) : va_P D vwCl [(b + k, e)] H := by
  intro i q hi
  have h0 : i = 0 := by have := (List.getElem?_eq_some_iff.mp hi).1; simp at this; exact this
  subst h0
  cases hi
  exact h.1 k e he
theorem GW_set {k : Nat} {e0 e : va_E} (h : GW D b es H) (he0 : es[k]? = some e0) (he : va_at D vwCl (b + k, e) H1) (z : H1.size = H.size) (oq : ∀ q : Nat, q ≠ b + k → H1[q]? = H[q]?) : GW D b (es.set k e) H1 := by
  have hl := (List.getElem?_eq_some_iff.mp he0).1
  refine ⟨fun i x hi => ?_, by rw [z, h.2, List.length_set]⟩
  by_cases hik : i = k
  · subst hik
    rw [List.getElem?_set_self hl] at hi
    cases hi
    exact he
  · rw [List.getElem?_set_ne (Ne.symm hik)] at hi
    exact (h.1 i x hi).kept (oq _ (fun q => hik (Nat.add_left_cancel q)))
theorem GW_push {e : va_E} (h : GW D b es H) (he : va_at D vwCl (b + es.length, e) H1) (z : H1.size = b + es.length + 1) (oq : ∀ q : Nat, q < b + es.length → H1[q]? = H[q]?) : GW D b (es ++ [e]) H1 := by
  refine ⟨fun i x hi => ?_, by rw [z, List.length_append]; rfl⟩
  by_cases hl : i < es.length
  · rw [List.getElem?_append_left hl] at hi
    exact (h.1 i x hi).kept (oq _ (Nat.add_lt_add_left hl b))
  · rw [List.getElem?_append_right (by omega)] at hi
    have hz : i - es.length < 1 := (List.getElem?_eq_some_iff.mp hi).1
    have hi0 : i = es.length := by omega
    subst hi0
    rw [Nat.sub_self] at hi
    cases hi
    exact he
end GWs
section GWi
variable {p : Program} {l : Launch} {e : Env} {R : Room} {s : State} {m : MethodId} {args : Array Value} {below : List Frame} {meth : Method} {c : Code} {H : Heap} {locs : List Loc} {cells slots : Nat} {Q : State → Prop}
variable {cc : ByteArray} {pc : Nat} {ls : Array Slot} {rest : List Value} {D : va_G} {b b0 : Nat} {tys : List (ClassId × FieldType)} {es : List va_E} {H0 : Heap}
theorem gc_S {H1 : Heap} {a k : Nat} (hS : va_S (fun q => b0 ≤ q) H0 H locs) (z : H1.size = H.size) (oq : ∀ q : Nat, q ≠ a → H1[q]? = H[q]?) (ha : b0 ≤ a) : va_S (fun q => b0 ≤ q) H0 H1 (locs ++ [⟨a, k⟩]) := hS.put z oq ha
theorem gc_Sn {H1 : Heap} {h : Nat} (hS : va_S (fun q => b0 ≤ q) H0 H locs) (hh : H.size = h) (z : H1.size = h + 1) (oq : ∀ q : Nat, q < h → H1[q]? = H[q]?) : va_S (fun q => b0 ≤ q) H0 H1 locs :=
  ⟨Nat.le_trans hS.1 (by omega), fun q h1 h2 => (oq q (by have := hS.1; omega)).trans (hS.2.1 q h1 h2), hS.2.2⟩
/-- a final field of an object that is being made -/
theorem gc_putF (hexec : p.tables.exec = Jvm.exec) (hb : c.code = cc) {own ref C : String} {T : u_T} {N ci index : Nat} {Ts : List Cond} (hts : ∀ w ∈ Ts, w.before args s = true) (hin : ∀ w ∈ u_ws C T N, w ∈ Ts) (ty0 : Nat → FieldType) (hty : ∀ k, k < N → parseFieldDescriptor (T k).2.2.1 = some (ty0 k)) (hnm : ∀ a, a < N → ∀ b, b < N → a ≠ b → (T a).2.1 ≠ (T b).2.1) (hown : s.vm.findClass own = some m.cls) (hK : va_K D vwCl tys s) (hG : GW D b es H) (hS0 : va_S (fun q => b0 ≤ q) H0 H locs) (q0 : Nat) (hb0 : b0 ≤ b + q0) {fs : List Value} (he : es[q0]? = some (.inr (ci, fs))) (hc : vwCl[ci]? = some (C, T, N)) (k : Nat) (hk : k < N) (hlink : (Cond.fieldLink own index ref (T k).2.1 (T k).2.2.1).before args s = true) (hsame : ∀ x, s.fieldFound? (T k).1 (T k).2.1 (T k).2.2.1 = some x → s.fieldFound? ref (T k).2.1 (T k).2.2.1 = some x) (hfin : (T k).2.2.2 = true) (hin2 : meth.name = "<init>") (hdecl : (T k).1 = own) {ty : FieldType} {v : Value} (hd : parseFieldDescriptor (T k).2.2.1 = some ty) (hn : narrow ty v = v) (hfit : fits ty v = true) (hl : k < fs.length)
    (hdg : decode cc pc = .ok (.putfield index, 3)) (kk : ∀ (H1 : Heap) (locs1 : List Loc), GW D b (es.set q0 (.inr (ci, fs.set k v))) H1 → va_S (fun q => b0 ≤ q) H0 H1 locs1 → W p l e R s m args below meth c H1 locs1 cells slots Q (F0 m (pc + 3) ls rest)) : W p l e R s m args below meth c H locs cells slots Q (F0 m pc ls (v :: .ref (b + q0) :: rest)) := by
  have hap := va_apart (own := own) hts hin ty0 hty hnm hK hc
  obtain ⟨r, h1, cell, q1, q2, q3, q4⟩ := hG.1 q0 _ he
  have hr : r = (C, T, N) := Option.some.inj (h1.symm.trans hc)
  subst hr
  obtain ⟨hS, hfc, kC, hkC, hkind⟩ := hK.1 ci _ hc
  obtain ⟨cf, kf, fi, f, hi, hsl⟩ := hS k hk
  have hlay := hts _ (hin _ (u_in_lay hk))
  unfold u_lay at hlay
  rw [if_pos hfin] at hlay
  have hst := (u_facts hfc hkC (u_lays hts hin hk) hi).1
  have hcf : m.cls = cf := by
    obtain ⟨_, _, c', _, _, _, -, -, hf', -, -, -, hown2, -⟩ := Cond.laysFinal_spec hlay
    have e1 : c' = cf := by have := hi.symm.trans hf'; simp at this; exact this.1.symm
    rw [hdecl] at hown2
    rw [← e1]; exact Option.some.inj (hown.symm.trans hown2)
  have h6 := u_fits hfc hkC hkind (Or.inr hlay) hi hd hn hfit
  refine W.putFinK hexec hb hown hlink (hsame _ hi) hst hcf hin2 (by rw [q2]; exact h6) q1 q3 (by rw [hsl]; exact k2_hasslot (q4 k hk)) rfl rfl hdg fun H' e1 e2 e3 => ?_
  rw [hsl] at e1 ⊢
  exact kk H' _ (GW_set hG he ⟨_, hc, t_OB.to (V := updV (vp_V fs) k v) ⟨_, e1, q2, q3, t_set q4 hap hk v⟩ (fun j _ => vp_updV_set hl v j)⟩ e2 e3) (gc_S hS0 e2 e3 hb0)
/-- a field that isn't final -/
theorem gc_put (hexec : p.tables.exec = Jvm.exec) (hb : c.code = cc) {own ref C : String} {T : u_T} {N ci index : Nat} {Ts : List Cond} (hts : ∀ w ∈ Ts, w.before args s = true) (hin : ∀ w ∈ u_ws C T N, w ∈ Ts) (ty0 : Nat → FieldType) (hty : ∀ k, k < N → parseFieldDescriptor (T k).2.2.1 = some (ty0 k)) (hnm : ∀ a, a < N → ∀ b, b < N → a ≠ b → (T a).2.1 ≠ (T b).2.1) (hown : s.vm.findClass own = some m.cls) (hK : va_K D vwCl tys s) (hG : GW D b es H) (hS0 : va_S (fun q => b0 ≤ q) H0 H locs) (q0 : Nat) (hb0 : b0 ≤ b + q0) {fs : List Value} (he : es[q0]? = some (.inr (ci, fs))) (hc : vwCl[ci]? = some (C, T, N)) (k : Nat) (hk : k < N) (hlink : (Cond.fieldLink own index ref (T k).2.1 (T k).2.2.1).before args s = true) (hsame : ∀ x, s.fieldFound? (T k).1 (T k).2.1 (T k).2.2.1 = some x → s.fieldFound? ref (T k).2.1 (T k).2.2.1 = some x) (hfin : (T k).2.2.2 = false) {ty : FieldType} {v : Value} (hd : parseFieldDescriptor (T k).2.2.1 = some ty) (hn : narrow ty v = v) (hfit : fits ty v = true) (hl : k < fs.length)
    (hdg : decode cc pc = .ok (.putfield index, 3)) (kk : ∀ (H1 : Heap) (locs1 : List Loc), GW D b (es.set q0 (.inr (ci, fs.set k v))) H1 → va_S (fun q => b0 ≤ q) H0 H1 locs1 → W p l e R s m args below meth c H1 locs1 cells slots Q (F0 m (pc + 3) ls rest)) : W p l e R s m args below meth c H locs cells slots Q (F0 m pc ls (v :: .ref (b + q0) :: rest)) := by
  have hap := va_apart (own := own) hts hin ty0 hty hnm hK hc
  obtain ⟨r, h1, cell, q1, q2, q3, q4⟩ := hG.1 q0 _ he
  have hr : r = (C, T, N) := Option.some.inj (h1.symm.trans hc)
  subst hr
  obtain ⟨hS, hfc, kC, hkC, hkind⟩ := hK.1 ci _ hc
  obtain ⟨cf, kf, fi, f, hi, hsl⟩ := hS k hk
  have hlay := hts _ (hin _ (u_in_lay hk))
  unfold u_lay at hlay
  rw [if_neg (by rw [hfin]; decide)] at hlay
  have hst := (u_facts hfc hkC (u_lays hts hin hk) hi).1
  have h6 := u_store hfc hkC hkind hlay hi hd hn hfit
  refine W.putK hexec hb (f := f) ⟨hown, hlink, ⟨_, _, _, hsame _ hi⟩, hst⟩ (by rw [q2]; exact h6) q1 q3 (by rw [hsl]; exact k2_hasslot (q4 k hk)) rfl rfl hdg fun H' e1 e2 e3 => ?_
  rw [hsl] at e1 ⊢
  exact kk H' _ (GW_set hG he ⟨_, hc, t_OB.to (V := updV (vp_V fs) k v) ⟨_, e1, q2, q3, t_set q4 hap hk v⟩ (fun j _ => vp_updV_set hl v j)⟩ e2 e3) (gc_S hS0 e2 e3 hb0)
/-- new -/
theorem gc_new (hexec : p.tables.exec = Jvm.exec) (hb : c.code = cc) {own C : String} {T : u_T} {N ci index : Nat} {Ts : List Cond} (hts : ∀ w ∈ Ts, w.before args s = true) (hin : ∀ w ∈ u_ws C T N, w ∈ Ts) (ty : Nat → FieldType) (hty : ∀ k, k < N → parseFieldDescriptor (T k).2.2.1 = some (ty k)) (hown : s.vm.findClass own = some m.cls) (hcl : (Cond.classLink own index C).before args s = true) (hinst : (Cond.instantiable C N).before args s = true) (hini : (Cond.initialized C).before args s = true)
    (hK : va_K D vwCl tys s) (hG : GW D b es H) {n9 : Nat} (h9 : es.length = n9) (hS : va_S (fun q => b0 ≤ q) H0 H locs) (hc : vwCl[ci]? = some (C, T, N)) {fs : List Value} (hfs : ∀ j, j < N → defaultValue (ty j) = vp_V fs j) (hcells : cells + 1 ≤ R.cells) (hslots : slots + N ≤ R.slots) (hdg : decode cc pc = .ok (.new index, 3))
    (kk : ∀ (H1 : Heap), GW D b (es ++ [.inr (ci, fs)]) H1 → va_S (fun q => b0 ≤ q) H0 H1 locs → W p l e R s m args below meth c H1 locs (cells + 1) (slots + N) Q (F0 m (pc + 3) ls (.ref (b + n9) :: rest))) : W p l e R s m args below meth c H locs cells slots Q (F0 m pc ls rest) := by
  subst h9
  have hKn := hK.1 ci _ hc
  refine W.newcK hexec hb hown hcl hinst hini rfl hdg hcells hslots hKn.2.1 hG.2 fun H1 kC hkC e1 z1 o1 => ?_
  exact kk H1 (GW_push hG ⟨_, hc, (u_born ty hts hin hKn hkC e1 hty).to hfs⟩ z1 o1) (gc_Sn hS hG.2 z1 o1)
/-- a row of ints or chars -/
theorem gc_newa (hexec : p.tables.exec = Jvm.exec) (hb : c.code = cc) {atype : ArrayType} (harr : (Cond.arrayClass (newarray.typeOf atype)).before args s = true) {ty : FieldType} (hty : newarray.typeOf atype = ty) (hpr : refKind ty = false) (hK : va_K D vwCl tys s) {t0 : Nat} {cA0 : ClassId} (ht0 : tys[t0]? = some (cA0, ty)) (hG : GW D b es H) {n9 : Nat} (h9 : es.length = n9) (hS : va_S (fun q => b0 ≤ q) H0 H locs)
    {n : Int32} {N' : Nat} {a0 : vp_A} (ha : ∀ cA : ClassId, vp_cell cA a0 = arrV cA N' (fun _ => defaultValue ty)) (hn : ¬ n < 0) (hN : n.toNatClampNeg = N') (hbytes : N' * componentBytes ty ≤ 536870912) (hcells : cells + 1 ≤ R.cells) (hslots : slots + N' ≤ R.slots) (hdg : decode cc pc = .ok (.newarray atype, 2))
    (kk : ∀ (H1 : Heap), GW D b (es ++ [.inl (cA0, a0)]) H1 → va_S (fun q => b0 ≤ q) H0 H1 locs → W p l e R s m args below meth c H1 locs (cells + 1) (slots + N') Q (F0 m (pc + 2) ls (.ref (b + n9) :: rest))) : W p l e R s m args below meth c H locs cells slots Q (F0 m pc ls (.int n :: rest)) := by
  subst h9
  subst hty
  refine va_newaK hexec hb harr rfl hdg rfl hn hN hbytes hcells hslots hG.2 fun H1 cA e1 z1 o1 hAr hNm => ?_
  have hra := (hK.2 t0 _ ht0).2
  have hcA : cA = cA0 := by
    have h2 : s.vm.findClass ("[" ++ (newarray.typeOf atype).toString) = some cA0 := by
      cases atype <;> exact hra
    exact Option.some.inj (hNm.symm.trans h2)
  subst hcA
  refine kk H1 (GW_push hG ?_ z1 o1) (gc_Sn hS hG.2 z1 o1)
  show H1[b + es.length]? = some (vp_cell _ _)
  rw [ha]
  exact e1
/-- a row of references -/
theorem gc_newq (hexec : p.tables.exec = Jvm.exec) (hb : c.code = cc) {own C : String} {index : Nat} (hown : s.vm.findClass own = some m.cls) (hclink : (Cond.classLink own index C).before args s = true) (hover : (Cond.arrayOver (.object C)).before args s = true) (hK : va_K D vwCl tys s) {t0 : Nat} {cA0 : ClassId} (ht0 : tys[t0]? = some (cA0, .object C)) (hG : GW D b es H) {n9 : Nat} (h9 : es.length = n9) (hS : va_S (fun q => b0 ≤ q) H0 H locs)
    {n : Int32} {N' : Nat} (hn : ¬ n < 0) (hN : n.toNatClampNeg = N') (hbytes : N' * 4 ≤ 536870912) (hcells : cells + 1 ≤ R.cells) (hslots : slots + N' ≤ R.slots) (hdg : decode cc pc = .ok (.anewarray index, 3))
    (kk : ∀ (H1 : Heap), GW D b (es ++ [.inl (cA0, N', .inr (.inr (.inr (.inr (fun _ => none)))))]) H1 → va_S (fun q => b0 ≤ q) H0 H1 locs → W p l e R s m args below meth c H1 locs (cells + 1) (slots + N') Q (F0 m (pc + 3) ls (.ref (b + n9) :: rest))) : W p l e R s m args below meth c H locs cells slots Q (F0 m pc ls (.int n :: rest)) := by
  subst h9
  subst hN
  refine W.anew hexec hb hown hclink hover rfl hdg rfl hn hbytes hcells hslots fun cA kA comp f1 f2 f3 f4 => ?_
  obtain ⟨kA', comp', -, -, -, g4⟩ := (hK.2 t0 _ ht0).2
  have hcA : cA = cA0 := Option.some.inj (f1.symm.trans g4)
  subst hcA
  generalize hH1 : H.push ({ cls := cA, slots := Array.replicate n.toNatClampNeg .null, vm := .none } : Cell) = H1
  have z1 : H1.size = b + es.length + 1 := by rw [← hH1, Array.size_push, hG.2]
  have e1 : H1[b + es.length]? = some (arrV cA n.toNatClampNeg (fun _ => .null)) := by rw [← hH1, ← hG.2, Array.getElem?_push_size, ← arrV_new]
  have o1 : ∀ q : Nat, q < b + es.length → H1[q]? = H[q]? := fun q hq => by rw [← hH1, Array.getElem?_push, if_neg (by rw [hG.2]; exact Nat.ne_of_lt hq)]
  rw [hG.2]
  refine kk H1 (GW_push hG ?_ z1 o1) (gc_Sn hS hG.2 z1 o1)
  show H1[b + es.length]? = some (vp_cell _ _)
  rw [vp_cell_q]
  exact e1
/-- a reference into a row -/
theorem gc_astq (hexec : p.tables.exec = Jvm.exec) (hb : c.code = cc) (hK : va_K D vwCl tys s) (hG : GW D b es H) (hS : va_S (fun q => b0 ≤ q) H0 H locs) (q0 t0 qk ci : Nat) (hb0 : b0 ≤ b + q0) {cA : ClassId} {r : vw_C} {n : Nat} {vs : List Value} {f : Nat → Option Nat} (ha : es[q0]? = some (.inl (cA, n, .inr (.inr (.inr (.inr f)))))) (ht : tys[t0]? = some (cA, .object r.1)) (hv : es[qk]? = some (.inr (ci, vs))) (hc : vwCl[ci]? = some r) {i : Int32} (hin : vp_in i n) (hdg : decode cc pc = .ok (.aastore, 1))
    (kk : ∀ (H1 : Heap) (locs1 : List Loc), GW D b (es.set q0 (.inl (cA, n, .inr (.inr (.inr (.inr (va_up f i.toNatClampNeg (some (b + qk))))))))) H1 → va_S (fun q => b0 ≤ q) H0 H1 locs1 → W p l e R s m args below meth c H1 locs1 cells slots Q (F0 m (pc + 1) ls rest)) : W p l e R s m args below meth c H locs cells slots Q (F0 m pc ls (.ref (b + qk) :: .int i :: .ref (b + q0) :: rest)) := by
  have hlt : i.toNatClampNeg < n := Nat.not_le.mp fun q => hin (Or.inr q)
  have h0 : ¬ i < 0 := fun q => hin (Or.inl q)
  obtain ⟨r', hr', cellV, g1, g2, g3, -⟩ := hG.1 qk _ hv
  have hcls := (hK.1 ci r hc).2
  obtain ⟨kA, comp, k1, k2, k3, -⟩ := (hK.2 t0 _ ht).2
  have hcomp : comp = D.1 ci := Option.some.inj (k3.symm.trans hcls.1)
  subst hcomp
  obtain ⟨kC, hkC, -⟩ := hcls.2
  refine W.aast hexec hb (hG.1 q0 _ ha) (fun q h => by cases h) (fun h => by cases h) k1 k2 rfl hkC ⟨h0, by show _ < (arrV _ _ _).slots.size; rw [arrV_size]; exact hlt⟩ g1 (fun q h => by rw [g3] at h; cases h) (by rw [g2]; exact hkC) (by rw [g2]; exact va_assign hcls) rfl rfl hdg fun H1 e z oq => ?_
  refine kk H1 _ (GW_set hG ha ?_ z oq) (gc_S hS z oq hb0)
  show H1[b + q0]? = some (vp_cell _ _)
  rw [e]
  rw [vp_cell_q, vp_cell_q, arrV_store]
  congr 2
  funext q
  by_cases hq : q = i.toNatClampNeg
  · subst hq
    simp [updV, va_up, va_rf]
  · simp [updV, va_up, hq]
end GWi
theorem gl {α : Type} {es : List α} {n : Nat} (hn : es.length = n) (l : List α) (k : Nat) : (es ++ l)[n + k]? = l[k]? := by
  subst hn
  rw [List.getElem?_append_right (Nat.le_add_right _ _), Nat.add_sub_cancel_left]
theorem gs {α : Type} {es : List α} {n : Nat} (hn : es.length = n) (l : List α) (k : Nat) (x : α) : (es ++ l).set (n + k) x = es ++ l.set k x := by
  subst hn
  rw [List.set_append_right _ _ (Nat.le_add_right _ _), Nat.add_sub_cancel_left]
/-- a row of references of which the first i are set -/
def gr_i (g : Nat → Nat) (i : Nat) : Nat → Option Nat := fun j => if j < i then some (g j) else none
theorem gr_i0 (g : Nat → Nat) : gr_i g 0 = fun _ => none := by funext j; simp [gr_i]
theorem gr_is (g : Nat → Nat) (i : Nat) : va_up (gr_i g i) i (some (g i)) = gr_i g (i + 1) := by
  funext j
  unfold va_up gr_i
  by_cases h : j = i
  · subst h; simp
  · rw [if_neg h]
    by_cases h2 : j < i
    · rw [if_pos h2, if_pos (by omega)]
    · rw [if_neg h2, if_neg (by omega)]
/-- parts of a kind, one behind another -/
def tl_i (ct : Nat → List va_E) (st sp : Nat) (i : Nat) : List va_E := (List.range i).flatMap (fun j => ct (st + sp * j))
theorem tl_i0 (ct : Nat → List va_E) (st sp : Nat) : tl_i ct st sp 0 = [] := rfl
theorem tl_is (ct : Nat → List va_E) (st sp i : Nat) : tl_i ct st sp (i + 1) = tl_i ct st sp i ++ ct (st + sp * i) := by
  unfold tl_i
  rw [List.range_succ, List.flatMap_append]
  simp
theorem tl_len {ct : Nat → List va_E} {st sp : Nat} (h : ∀ n, (ct n).length = sp) (i : Nat) : (tl_i ct st sp i).length = sp * i := by
  induction i with
  | zero => rfl
  | succ i ih => rw [tl_is, List.length_append, ih, h, Nat.mul_succ]
theorem GW_preS {D : va_G} {κ : Nat → ClassId} {b : Nat} {s : State} {H : Heap} {es : List va_E} (hK : KK D κ s) (hG : GW D b es H) {As : List Value} : PreS s H (va_Pc As (fun U => KK D κ U ∧ GW D b es U.heap)) As :=
  ⟨fun a U g mk q => ⟨q.1, q.2.1.call, q.2.2⟩, fun U hU hW => ⟨rfl, hK.warm hW, by rw [hU]; exact hG⟩⟩
theorem GW_e {D : va_G} {b : Nat} {H : Heap} {es : List va_E} {t : State} (ht : t.heap = H) (hG : GW D b es H) : GW D b es t.heap := by rw [ht]; exact hG
theorem GW_b {D : va_G} {b : Nat} {H : Heap} {es es' : List va_E} {t : State} (hG : GW D b es t.heap) (ht : t.heap = H) (he : es = es') : GW D b es' H := by rw [← ht, ← he]; exact hG
