-- RecordShelf.digitBefore(II)I
theorem dX7_digitBefore_0 : decode cX7_digitBefore 0 = .ok (.iload_n 1, 1) := by decide +kernel
theorem dX7_digitBefore_1 : decode cX7_digitBefore 1 = .ok (.istore_n 2, 1) := by decide +kernel
theorem dX7_digitBefore_2 : decode cX7_digitBefore 2 = .ok (.iconst 0, 1) := by decide +kernel
theorem dX7_digitBefore_3 : decode cX7_digitBefore 3 = .ok (.istore_n 3, 1) := by decide +kernel
theorem dX7_digitBefore_4 : decode cX7_digitBefore 4 = .ok (.iload_n 3, 1) := by decide +kernel
theorem dX7_digitBefore_5 : decode cX7_digitBefore 5 = .ok (.iload_n 0, 1) := by decide +kernel
theorem dX7_digitBefore_6 : decode cX7_digitBefore 6 = .ok (.if_icmp .ge 14, 3) := by decide +kernel
theorem dX7_digitBefore_9 : decode cX7_digitBefore 9 = .ok (.iload_n 2, 1) := by decide +kernel
theorem dX7_digitBefore_10 : decode cX7_digitBefore 10 = .ok (.bipush 10, 2) := by decide +kernel
theorem dX7_digitBefore_12 : decode cX7_digitBefore 12 = .ok (.idiv, 1) := by decide +kernel
theorem dX7_digitBefore_13 : decode cX7_digitBefore 13 = .ok (.istore_n 2, 1) := by decide +kernel
theorem dX7_digitBefore_14 : decode cX7_digitBefore 14 = .ok (.iinc 3 1, 3) := by decide +kernel
theorem dX7_digitBefore_17 : decode cX7_digitBefore 17 = .ok (.goto (-13), 3) := by decide +kernel
theorem dX7_digitBefore_20 : decode cX7_digitBefore 20 = .ok (.bipush 48, 2) := by decide +kernel
theorem dX7_digitBefore_22 : decode cX7_digitBefore 22 = .ok (.iload_n 2, 1) := by decide +kernel
theorem dX7_digitBefore_23 : decode cX7_digitBefore 23 = .ok (.bipush 10, 2) := by decide +kernel
theorem dX7_digitBefore_25 : decode cX7_digitBefore 25 = .ok (.irem, 1) := by decide +kernel
theorem dX7_digitBefore_26 : decode cX7_digitBefore 26 = .ok (.iadd, 1) := by decide +kernel
theorem dX7_digitBefore_27 : decode cX7_digitBefore 27 = .ok (.ireturn, 1) := by decide +kernel
def rm_X7_digitBefore : Room := { frames := 0, cells := 0, slots := 0, locals := 0 }
def fn_X7_digitBefore_B4b (z4 : Int32 → Int32 → Int32 → Option (Int32)) (x0 : Int32) (x2 : Int32) (x3 : Int32) : Option (Int32) :=
  (if (x0 : Int32) ≤ x3 then
  some (48 + (x2 - x2 / 10 * 10))
  else (sg_lt ((x2 / 10) : Int32) fun v1 =>
  (sg_lt (x3 + 1 : Int32) fun v2 =>
  z4 x0 v1 v2)))
def fn_X7_digitBefore_B4  : Nat → Int32 → Int32 → Int32 → Option (Int32)
  | 0 => fun _ _ _ => none
  | n + 1 => fun x0 x2 x3 => fn_X7_digitBefore_B4b (fn_X7_digitBefore_B4 n) x0 x2 x3
set_option maxHeartbeats 4000000 in
set_option maxRecDepth 100000 in
theorem w_X7_digitBefore_B4b {p : Program} {l : Launch} {e : Env} {s : State} {m : MethodId} {args : Array Value} {below : List Frame} {meth : Method} {c : Code} {Q : State → Prop} {D : va_G} {κ : Nat → ClassId} {b : Nat} {H0 : Heap} {rr : Int32} {σ : Sg} (hZ : sg_Z p c s m args D κ cX7_digitBefore 4 RX7 wsX7_digitBefore) (hret : ∀ (v : Int32) (H : Heap) (locs : List Loc) (pc : Nat) (ls : Array Slot), some v = some rr → CW D κ b σ H → va_S (sg_A b 892) H0 H locs → decode cX7_digitBefore pc = .ok (.ireturn, 1) → W p l e rm_X7_digitBefore s m args below meth c H locs 0 0 Q (F0 m pc ls [.int v])) {z4 : Int32 → Int32 → Int32 → Option (Int32)} (hr4 : ∀ {x0 : Int32} {x2 : Int32} {x3 : Int32} {H : Heap} {locs : List Loc} {ls : Array Slot}, z4 x0 x2 x3 = some rr → lv_has ls 4 [(0, .int x0), (2, .int x2), (3, .int x3)] → CW D κ b σ H → va_S (sg_A b 892) H0 H locs → W p l e rm_X7_digitBefore s m args below meth c H locs 0 0 Q (F0 m 4 ls [])) : ∀ {x0 : Int32} {x2 : Int32} {x3 : Int32} {H : Heap} {locs : List Loc} {ls : Array Slot}, fn_X7_digitBefore_B4b z4 x0 x2 x3 = some rr → lv_has ls 4 [(0, .int x0), (2, .int x2), (3, .int x3)] → CW D κ b σ H → va_S (sg_A b 892) H0 H locs → W p l e rm_X7_digitBefore s m args below meth c H locs 0 0 Q (F0 m 4 ls []) := by
  obtain ⟨hx, hb, hml, hown, hts, hK⟩ := hZ
  intro x0 x2 x3 H locs ls h hl hC hS
  unfold fn_X7_digitBefore_B4b at h
  refine lv_iload_n hx hb dX7_digitBefore_4 rfl (lv_at hl 2 rfl) ?_
  refine lv_iload_n hx hb dX7_digitBefore_5 rfl (lv_at hl 0 rfl) ?_
  refine lv_icmp_ge (tgt := 20) hx hb dX7_digitBefore_6 (by decide) (fun hc => ?_) (fun hc => ?_)
  · replace h := (if_pos hc).symm.trans h
    refine lv_bipush (v := 48) hx hb dX7_digitBefore_20 (by decide) ?_
    refine lv_iload_n hx hb dX7_digitBefore_22 rfl (lv_at hl 1 rfl) ?_
    refine lv_bipush (v := 10) hx hb dX7_digitBefore_23 (by decide) ?_
    refine lv_irem hx hb dX7_digitBefore_25 (by decide) ?_
    refine lv_iadd hx hb dX7_digitBefore_26 ?_
    exact hret _ _ _ _ _ h hC hS dX7_digitBefore_27
  · replace h := (if_neg hc).symm.trans h
    refine lv_iload_n hx hb dX7_digitBefore_9 rfl (lv_at hl 1 rfl) ?_
    refine lv_bipush (v := 10) hx hb dX7_digitBefore_10 (by decide) ?_
    refine lv_idiv hx hb dX7_digitBefore_12 (by decide) ?_
    obtain ⟨v1, ev1, h⟩ := sg_lte h
    refine sg_topi ev1 ?_
    refine lv_istore_n (lv' := [(2, .int v1), (0, .int x0), (3, .int x3)]) hx hb dX7_digitBefore_13 rfl hl (by decide) rfl (fun ls hl => ?_)
    obtain ⟨v2, ev2, h⟩ := sg_lte h
    refine lv_iinc (v := v2) (lv' := [(3, .int v2), (2, .int v1), (0, .int x0)]) (k := 2) hx hb dX7_digitBefore_14 hl rfl (sg_inc (by decide) ev2) (by decide) rfl (fun ls hl => ?_)
    refine lv_goto (tgt := 4) hx hb dX7_digitBefore_17 (by decide) ?_
    exact hr4 h (lv_sub hl [2, 1, 0] rfl) hC hS
set_option maxHeartbeats 4000000 in
theorem w_X7_digitBefore_B4 {p : Program} {l : Launch} {e : Env} {s : State} {m : MethodId} {args : Array Value} {below : List Frame} {meth : Method} {c : Code} {Q : State → Prop} {D : va_G} {κ : Nat → ClassId} {b : Nat} {H0 : Heap} {rr : Int32} {σ : Sg} (hZ : sg_Z p c s m args D κ cX7_digitBefore 4 RX7 wsX7_digitBefore) (hret : ∀ (v : Int32) (H : Heap) (locs : List Loc) (pc : Nat) (ls : Array Slot), some v = some rr → CW D κ b σ H → va_S (sg_A b 892) H0 H locs → decode cX7_digitBefore pc = .ok (.ireturn, 1) → W p l e rm_X7_digitBefore s m args below meth c H locs 0 0 Q (F0 m pc ls [.int v])) : ∀ n : Nat, ∀ {x0 : Int32} {x2 : Int32} {x3 : Int32} {H : Heap} {locs : List Loc} {ls : Array Slot}, fn_X7_digitBefore_B4 n x0 x2 x3 = some rr → lv_has ls 4 [(0, .int x0), (2, .int x2), (3, .int x3)] → CW D κ b σ H → va_S (sg_A b 892) H0 H locs → W p l e rm_X7_digitBefore s m args below meth c H locs 0 0 Q (F0 m 4 ls []) := by
  intro n
  induction n with
  | zero => intro x0 x2 x3 H locs ls h hl hC hS; cases (show (none : Option (Int32)) = some rr from h)
  | succ n ih =>
    intro x0 x2 x3 H locs ls h hl hC hS
    exact w_X7_digitBefore_B4b hZ hret ih (show fn_X7_digitBefore_B4b (fn_X7_digitBefore_B4 n) x0 x2 x3 = some rr from h)  hl hC hS
def fn_X7_digitBefore (x0 : Int32) (x1 : Int32) : Option (Int32) :=
  fn_X7_digitBefore_B4 sg_N x0 x1 0
set_option maxHeartbeats 4000000 in
set_option maxRecDepth 100000 in
theorem w_X7_digitBefore_B0 {p : Program} {l : Launch} {e : Env} {s : State} {m : MethodId} {args : Array Value} {below : List Frame} {meth : Method} {c : Code} {Q : State → Prop} {D : va_G} {κ : Nat → ClassId} {b : Nat} {H0 : Heap} {rr : Int32} {σ : Sg} (hZ : sg_Z p c s m args D κ cX7_digitBefore 4 RX7 wsX7_digitBefore) (hret : ∀ (v : Int32) (H : Heap) (locs : List Loc) (pc : Nat) (ls : Array Slot), some v = some rr → CW D κ b σ H → va_S (sg_A b 892) H0 H locs → decode cX7_digitBefore pc = .ok (.ireturn, 1) → W p l e rm_X7_digitBefore s m args below meth c H locs 0 0 Q (F0 m pc ls [.int v])) : ∀ {x0 : Int32} {x1 : Int32} {H : Heap} {locs : List Loc} {ls : Array Slot}, fn_X7_digitBefore x0 x1 = some rr → lv_has ls 4 [(0, .int x0), (1, .int x1)] → CW D κ b σ H → va_S (sg_A b 892) H0 H locs → W p l e rm_X7_digitBefore s m args below meth c H locs 0 0 Q (F0 m 0 ls []) := by
  obtain ⟨hx, hb, hml, hown, hts, hK⟩ := hZ
  intro x0 x1 H locs ls h hl hC hS
  unfold fn_X7_digitBefore at h
  refine lv_iload_n hx hb dX7_digitBefore_0 rfl (lv_at hl 1 rfl) ?_
  refine lv_istore_n (lv' := [(2, .int x1), (0, .int x0), (1, .int x1)]) hx hb dX7_digitBefore_1 rfl hl (by decide) rfl (fun ls hl => ?_)
  refine lv_iconst (v := 0) hx hb dX7_digitBefore_2 (by decide) ?_
  refine lv_istore_n (lv' := [(3, .int 0), (2, .int x1), (0, .int x0), (1, .int x1)]) hx hb dX7_digitBefore_3 rfl hl (by decide) rfl (fun ls hl => ?_)
  exact w_X7_digitBefore_B4 ⟨hx, hb, hml, hown, hts, hK⟩ hret  sg_N h (lv_sub hl [2, 1, 0] rfl) hC hS
set_option maxHeartbeats 4000000 in
set_option maxRecDepth 100000 in
theorem c_X7_digitBefore (l : Launch) (D : va_G) (κ : Nat → ClassId) (b : Nat) (σ : Sg) (x0 : Int32) (x1 : Int32) (rr : Int32)  (h : fn_X7_digitBefore x0 x1 = some rr) : Met l yX7_digitBefore wsX7_digitBefore rm_X7_digitBefore (va_Pc [.int x0, .int x1] (fun U => KK D κ U ∧ CW D κ b σ U.heap)) (va_Qi (fun (r : Int32) (u : Sg) => r = rr ∧ u = σ) (fun u t => CW D κ b u t.heap) (sg_A b 892)) 0 0 (sg_A b 892) := by
  refine Met.ofW (cc := cX7_digitBefore) (maxL := 4) (ret := (some .int)) (by decide) rfl ?_
  intro p e s m args below meth c s₁ B hml hv
  obtain ⟨rfl, hK, hC⟩ := hv
  have hr := B.returns
  have hlocks := B.notSynchronized
  have hl := lv_entry ([.int x0, .int x1]) (n := 4) (Nat.le_of_ble_eq_true rfl)
  rw [lg_entry_eq]
  generalize (lg_sl ([.int x0, .int x1]) ++ List.replicate (4 - (lg_sl ([.int x0, .int x1])).length) Slot.unset).toArray = ls at hl ⊢
  have hl : lv_has ls 4 [(0, .int x0), (1, .int x1)] := hl
  exact w_X7_digitBefore_B0 ⟨B.exec, B.bytes, hml, findClass_of_methodNamed B.named, atoms_spec (ws := wsX7_digitBefore) B.pre, hK⟩ (fun v H locs pc ls hq hC hS hd => W.iret B.exec B.bytes hr (fun t ht hW => ⟨⟨v, _, rfl, ⟨Option.some.inj hq, rfl⟩, CW_e ht hC⟩, hS.F ht⟩) hS.2.2 hd) h  hl hC va_S.rf

-- RecordShelf.isCode(I)Z
theorem dX7_isCode_0 : decode cX7_isCode 0 = .ok (.iload_n 0, 1) := by decide +kernel
theorem dX7_isCode_1 : decode cX7_isCode 1 = .ok (.bipush 97, 2) := by decide +kernel
theorem dX7_isCode_3 : decode cX7_isCode 3 = .ok (.if_icmp .lt 9, 3) := by decide +kernel
theorem dX7_isCode_6 : decode cX7_isCode 6 = .ok (.iload_n 0, 1) := by decide +kernel
theorem dX7_isCode_7 : decode cX7_isCode 7 = .ok (.bipush 122, 2) := by decide +kernel
theorem dX7_isCode_9 : decode cX7_isCode 9 = .ok (.if_icmp .le 15, 3) := by decide +kernel
theorem dX7_isCode_12 : decode cX7_isCode 12 = .ok (.iload_n 0, 1) := by decide +kernel
theorem dX7_isCode_13 : decode cX7_isCode 13 = .ok (.bipush 48, 2) := by decide +kernel
theorem dX7_isCode_15 : decode cX7_isCode 15 = .ok (.if_icmp .lt 13, 3) := by decide +kernel
theorem dX7_isCode_18 : decode cX7_isCode 18 = .ok (.iload_n 0, 1) := by decide +kernel
theorem dX7_isCode_19 : decode cX7_isCode 19 = .ok (.bipush 57, 2) := by decide +kernel
theorem dX7_isCode_21 : decode cX7_isCode 21 = .ok (.if_icmp .gt 7, 3) := by decide +kernel
theorem dX7_isCode_24 : decode cX7_isCode 24 = .ok (.iconst 1, 1) := by decide +kernel
theorem dX7_isCode_25 : decode cX7_isCode 25 = .ok (.goto 4, 3) := by decide +kernel
theorem dX7_isCode_28 : decode cX7_isCode 28 = .ok (.iconst 0, 1) := by decide +kernel
theorem dX7_isCode_29 : decode cX7_isCode 29 = .ok (.ireturn, 1) := by decide +kernel
def rm_X7_isCode : Room := { frames := 0, cells := 0, slots := 0, locals := 0 }
def fn_X7_isCode_B24  : Option (Int32) :=
  some 1
set_option maxHeartbeats 4000000 in
set_option maxRecDepth 100000 in
theorem w_X7_isCode_B24 {p : Program} {l : Launch} {e : Env} {s : State} {m : MethodId} {args : Array Value} {below : List Frame} {meth : Method} {c : Code} {Q : State → Prop} {D : va_G} {κ : Nat → ClassId} {b : Nat} {H0 : Heap} {rr : Int32} {σ : Sg} (hZ : sg_Z p c s m args D κ cX7_isCode 1 RX7 wsX7_isCode) (hret : ∀ (v : Int32) (H : Heap) (locs : List Loc) (pc : Nat) (ls : Array Slot), some v = some rr → narrow .boolean (.int v) = .int v → CW D κ b σ H → va_S (sg_A b 892) H0 H locs → decode cX7_isCode pc = .ok (.ireturn, 1) → W p l e rm_X7_isCode s m args below meth c H locs 0 0 Q (F0 m pc ls [.int v])) : ∀ {H : Heap} {locs : List Loc} {ls : Array Slot}, fn_X7_isCode_B24 = some rr → lv_has ls 1 [] → CW D κ b σ H → va_S (sg_A b 892) H0 H locs → W p l e rm_X7_isCode s m args below meth c H locs 0 0 Q (F0 m 24 ls []) := by
  obtain ⟨hx, hb, hml, hown, hts, hK⟩ := hZ
  intro H locs ls h hl hC hS
  unfold fn_X7_isCode_B24 at h
  refine lv_iconst (v := 1) hx hb dX7_isCode_24 (by decide) ?_
  refine lv_goto (tgt := 29) hx hb dX7_isCode_25 (by decide) ?_
  exact hret _ _ _ _ _ h (by decide) hC hS dX7_isCode_29
def fn_X7_isCode_B12 (x0 : Int32) : Option (Int32) :=
  (if x0 < 48 then
  some 0
  else (if (57 : Int32) < x0 then
  some 0
  else fn_X7_isCode_B24))
set_option maxHeartbeats 4000000 in
set_option maxRecDepth 100000 in
theorem w_X7_isCode_B12 {p : Program} {l : Launch} {e : Env} {s : State} {m : MethodId} {args : Array Value} {below : List Frame} {meth : Method} {c : Code} {Q : State → Prop} {D : va_G} {κ : Nat → ClassId} {b : Nat} {H0 : Heap} {rr : Int32} {σ : Sg} (hZ : sg_Z p c s m args D κ cX7_isCode 1 RX7 wsX7_isCode) (hret : ∀ (v : Int32) (H : Heap) (locs : List Loc) (pc : Nat) (ls : Array Slot), some v = some rr → narrow .boolean (.int v) = .int v → CW D κ b σ H → va_S (sg_A b 892) H0 H locs → decode cX7_isCode pc = .ok (.ireturn, 1) → W p l e rm_X7_isCode s m args below meth c H locs 0 0 Q (F0 m pc ls [.int v])) : ∀ {x0 : Int32} {H : Heap} {locs : List Loc} {ls : Array Slot}, fn_X7_isCode_B12 x0 = some rr → lv_has ls 1 [(0, .int x0)] → CW D κ b σ H → va_S (sg_A b 892) H0 H locs → W p l e rm_X7_isCode s m args below meth c H locs 0 0 Q (F0 m 12 ls []) := by
  obtain ⟨hx, hb, hml, hown, hts, hK⟩ := hZ
  intro x0 H locs ls h hl hC hS
  unfold fn_X7_isCode_B12 at h
  refine lv_iload_n hx hb dX7_isCode_12 rfl (lv_at hl 0 rfl) ?_
  refine lv_bipush (v := 48) hx hb dX7_isCode_13 (by decide) ?_
  refine lv_icmp_lt (tgt := 28) hx hb dX7_isCode_15 (by decide) (fun hc => ?_) (fun hc => ?_)
  · replace h := (if_pos hc).symm.trans h
    refine lv_iconst (v := 0) hx hb dX7_isCode_28 (by decide) ?_
    exact hret _ _ _ _ _ h (by decide) hC hS dX7_isCode_29
  · replace h := (if_neg hc).symm.trans h
    refine lv_iload_n hx hb dX7_isCode_18 rfl (lv_at hl 0 rfl) ?_
    refine lv_bipush (v := 57) hx hb dX7_isCode_19 (by decide) ?_
    refine lv_icmp_gt (tgt := 28) hx hb dX7_isCode_21 (by decide) (fun hc => ?_) (fun hc => ?_)
    · replace h := (if_pos hc).symm.trans h
      refine lv_iconst (v := 0) hx hb dX7_isCode_28 (by decide) ?_
      exact hret _ _ _ _ _ h (by decide) hC hS dX7_isCode_29
    · replace h := (if_neg hc).symm.trans h
      exact w_X7_isCode_B24 ⟨hx, hb, hml, hown, hts, hK⟩ hret  h (lv_sub hl [] rfl) hC hS
def fn_X7_isCode (x0 : Int32) : Option (Int32) :=
  (if x0 < 97 then
  fn_X7_isCode_B12 x0
  else (if x0 ≤ 122 then
  fn_X7_isCode_B24
  else fn_X7_isCode_B12 x0))
set_option maxHeartbeats 4000000 in
set_option maxRecDepth 100000 in
theorem w_X7_isCode_B0 {p : Program} {l : Launch} {e : Env} {s : State} {m : MethodId} {args : Array Value} {below : List Frame} {meth : Method} {c : Code} {Q : State → Prop} {D : va_G} {κ : Nat → ClassId} {b : Nat} {H0 : Heap} {rr : Int32} {σ : Sg} (hZ : sg_Z p c s m args D κ cX7_isCode 1 RX7 wsX7_isCode) (hret : ∀ (v : Int32) (H : Heap) (locs : List Loc) (pc : Nat) (ls : Array Slot), some v = some rr → narrow .boolean (.int v) = .int v → CW D κ b σ H → va_S (sg_A b 892) H0 H locs → decode cX7_isCode pc = .ok (.ireturn, 1) → W p l e rm_X7_isCode s m args below meth c H locs 0 0 Q (F0 m pc ls [.int v])) : ∀ {x0 : Int32} {H : Heap} {locs : List Loc} {ls : Array Slot}, fn_X7_isCode x0 = some rr → lv_has ls 1 [(0, .int x0)] → CW D κ b σ H → va_S (sg_A b 892) H0 H locs → W p l e rm_X7_isCode s m args below meth c H locs 0 0 Q (F0 m 0 ls []) := by
  obtain ⟨hx, hb, hml, hown, hts, hK⟩ := hZ
  intro x0 H locs ls h hl hC hS
  unfold fn_X7_isCode at h
  refine lv_iload_n hx hb dX7_isCode_0 rfl (lv_at hl 0 rfl) ?_
  refine lv_bipush (v := 97) hx hb dX7_isCode_1 (by decide) ?_
  refine lv_icmp_lt (tgt := 12) hx hb dX7_isCode_3 (by decide) (fun hc => ?_) (fun hc => ?_)
  · replace h := (if_pos hc).symm.trans h
    exact w_X7_isCode_B12 ⟨hx, hb, hml, hown, hts, hK⟩ hret  h (lv_sub hl [0] rfl) hC hS
  · replace h := (if_neg hc).symm.trans h
    refine lv_iload_n hx hb dX7_isCode_6 rfl (lv_at hl 0 rfl) ?_
    refine lv_bipush (v := 122) hx hb dX7_isCode_7 (by decide) ?_
    refine lv_icmp_le (tgt := 24) hx hb dX7_isCode_9 (by decide) (fun hc => ?_) (fun hc => ?_)
    · replace h := (if_pos hc).symm.trans h
      exact w_X7_isCode_B24 ⟨hx, hb, hml, hown, hts, hK⟩ hret  h (lv_sub hl [] rfl) hC hS
    · replace h := (if_neg hc).symm.trans h
      exact w_X7_isCode_B12 ⟨hx, hb, hml, hown, hts, hK⟩ hret  h (lv_sub hl [0] rfl) hC hS
set_option maxHeartbeats 4000000 in
set_option maxRecDepth 100000 in
theorem c_X7_isCode (l : Launch) (D : va_G) (κ : Nat → ClassId) (b : Nat) (σ : Sg) (x0 : Int32) (rr : Int32)  (h : fn_X7_isCode x0 = some rr) : Met l yX7_isCode wsX7_isCode rm_X7_isCode (va_Pc [.int x0] (fun U => KK D κ U ∧ CW D κ b σ U.heap)) (va_Qi (fun (r : Int32) (u : Sg) => r = rr ∧ u = σ) (fun u t => CW D κ b u t.heap) (sg_A b 892)) 0 0 (sg_A b 892) := by
  refine Met.ofW (cc := cX7_isCode) (maxL := 1) (ret := (some .boolean)) (by decide) rfl ?_
  intro p e s m args below meth c s₁ B hml hv
  obtain ⟨rfl, hK, hC⟩ := hv
  have hr := B.returns
  have hlocks := B.notSynchronized
  have hl := lv_entry ([.int x0]) (n := 1) (Nat.le_of_ble_eq_true rfl)
  rw [lg_entry_eq]
  generalize (lg_sl ([.int x0]) ++ List.replicate (1 - (lg_sl ([.int x0])).length) Slot.unset).toArray = ls at hl ⊢
  have hl : lv_has ls 1 [(0, .int x0)] := hl
  exact w_X7_isCode_B0 ⟨B.exec, B.bytes, hml, findClass_of_methodNamed B.named, atoms_spec (ws := wsX7_isCode) B.pre, hK⟩ (fun v H locs pc ls hq hbo hC hS hd => W.zret B.exec B.bytes hr hbo (fun t ht hW => ⟨⟨v, _, rfl, ⟨Option.some.inj hq, rfl⟩, CW_e ht hC⟩, hS.F ht⟩) hS.2.2 hd) h  hl hC va_S.rf

-- RecordShelf.isPlain(I)Z
theorem dX7_isPlain_0 : decode cX7_isPlain 0 = .ok (.iload_n 0, 1) := by decide +kernel
theorem dX7_isPlain_1 : decode cX7_isPlain 1 = .ok (.bipush 31, 2) := by decide +kernel
theorem dX7_isPlain_3 : decode cX7_isPlain 3 = .ok (.if_icmp .le 13, 3) := by decide +kernel
theorem dX7_isPlain_6 : decode cX7_isPlain 6 = .ok (.iload_n 0, 1) := by decide +kernel
theorem dX7_isPlain_7 : decode cX7_isPlain 7 = .ok (.bipush 126, 2) := by decide +kernel
theorem dX7_isPlain_9 : decode cX7_isPlain 9 = .ok (.if_icmp .gt 7, 3) := by decide +kernel
theorem dX7_isPlain_12 : decode cX7_isPlain 12 = .ok (.iconst 1, 1) := by decide +kernel
theorem dX7_isPlain_13 : decode cX7_isPlain 13 = .ok (.goto 4, 3) := by decide +kernel
theorem dX7_isPlain_16 : decode cX7_isPlain 16 = .ok (.iconst 0, 1) := by decide +kernel
theorem dX7_isPlain_17 : decode cX7_isPlain 17 = .ok (.ireturn, 1) := by decide +kernel
def rm_X7_isPlain : Room := { frames := 0, cells := 0, slots := 0, locals := 0 }
def fn_X7_isPlain (x0 : Int32) : Option (Int32) :=
  (if x0 ≤ 31 then
  some 0
  else (if (126 : Int32) < x0 then
  some 0
  else some 1))
set_option maxHeartbeats 4000000 in
set_option maxRecDepth 100000 in
theorem w_X7_isPlain_B0 {p : Program} {l : Launch} {e : Env} {s : State} {m : MethodId} {args : Array Value} {below : List Frame} {meth : Method} {c : Code} {Q : State → Prop} {D : va_G} {κ : Nat → ClassId} {b : Nat} {H0 : Heap} {rr : Int32} {σ : Sg} (hZ : sg_Z p c s m args D κ cX7_isPlain 1 RX7 wsX7_isPlain) (hret : ∀ (v : Int32) (H : Heap) (locs : List Loc) (pc : Nat) (ls : Array Slot), some v = some rr → narrow .boolean (.int v) = .int v → CW D κ b σ H → va_S (sg_A b 892) H0 H locs → decode cX7_isPlain pc = .ok (.ireturn, 1) → W p l e rm_X7_isPlain s m args below meth c H locs 0 0 Q (F0 m pc ls [.int v])) : ∀ {x0 : Int32} {H : Heap} {locs : List Loc} {ls : Array Slot}, fn_X7_isPlain x0 = some rr → lv_has ls 1 [(0, .int x0)] → CW D κ b σ H → va_S (sg_A b 892) H0 H locs → W p l e rm_X7_isPlain s m args below meth c H locs 0 0 Q (F0 m 0 ls []) := by
  obtain ⟨hx, hb, hml, hown, hts, hK⟩ := hZ
  intro x0 H locs ls h hl hC hS
  unfold fn_X7_isPlain at h
  refine lv_iload_n hx hb dX7_isPlain_0 rfl (lv_at hl 0 rfl) ?_
  refine lv_bipush (v := 31) hx hb dX7_isPlain_1 (by decide) ?_
  refine lv_icmp_le (tgt := 16) hx hb dX7_isPlain_3 (by decide) (fun hc => ?_) (fun hc => ?_)
  · replace h := (if_pos hc).symm.trans h
    refine lv_iconst (v := 0) hx hb dX7_isPlain_16 (by decide) ?_
    exact hret _ _ _ _ _ h (by decide) hC hS dX7_isPlain_17
  · replace h := (if_neg hc).symm.trans h
    refine lv_iload_n hx hb dX7_isPlain_6 rfl (lv_at hl 0 rfl) ?_
    refine lv_bipush (v := 126) hx hb dX7_isPlain_7 (by decide) ?_
    refine lv_icmp_gt (tgt := 16) hx hb dX7_isPlain_9 (by decide) (fun hc => ?_) (fun hc => ?_)
    · replace h := (if_pos hc).symm.trans h
      refine lv_iconst (v := 0) hx hb dX7_isPlain_16 (by decide) ?_
      exact hret _ _ _ _ _ h (by decide) hC hS dX7_isPlain_17
    · replace h := (if_neg hc).symm.trans h
      refine lv_iconst (v := 1) hx hb dX7_isPlain_12 (by decide) ?_
      refine lv_goto (tgt := 17) hx hb dX7_isPlain_13 (by decide) ?_
      exact hret _ _ _ _ _ h (by decide) hC hS dX7_isPlain_17
set_option maxHeartbeats 4000000 in
set_option maxRecDepth 100000 in
theorem c_X7_isPlain (l : Launch) (D : va_G) (κ : Nat → ClassId) (b : Nat) (σ : Sg) (x0 : Int32) (rr : Int32)  (h : fn_X7_isPlain x0 = some rr) : Met l yX7_isPlain wsX7_isPlain rm_X7_isPlain (va_Pc [.int x0] (fun U => KK D κ U ∧ CW D κ b σ U.heap)) (va_Qi (fun (r : Int32) (u : Sg) => r = rr ∧ u = σ) (fun u t => CW D κ b u t.heap) (sg_A b 892)) 0 0 (sg_A b 892) := by
  refine Met.ofW (cc := cX7_isPlain) (maxL := 1) (ret := (some .boolean)) (by decide) rfl ?_
  intro p e s m args below meth c s₁ B hml hv
  obtain ⟨rfl, hK, hC⟩ := hv
  have hr := B.returns
  have hlocks := B.notSynchronized
  have hl := lv_entry ([.int x0]) (n := 1) (Nat.le_of_ble_eq_true rfl)
  rw [lg_entry_eq]
  generalize (lg_sl ([.int x0]) ++ List.replicate (1 - (lg_sl ([.int x0])).length) Slot.unset).toArray = ls at hl ⊢
  have hl : lv_has ls 1 [(0, .int x0)] := hl
  exact w_X7_isPlain_B0 ⟨B.exec, B.bytes, hml, findClass_of_methodNamed B.named, atoms_spec (ws := wsX7_isPlain) B.pre, hK⟩ (fun v H locs pc ls hq hbo hC hS hd => W.zret B.exec B.bytes hr hbo (fun t ht hW => ⟨⟨v, _, rfl, ⟨Option.some.inj hq, rfl⟩, CW_e ht hC⟩, hS.F ht⟩) hS.2.2 hd) h  hl hC va_S.rf

-- RecordShelf.isDigit(I)Z
theorem dX7_isDigit_0 : decode cX7_isDigit 0 = .ok (.iload_n 0, 1) := by decide +kernel
theorem dX7_isDigit_1 : decode cX7_isDigit 1 = .ok (.bipush 48, 2) := by decide +kernel
theorem dX7_isDigit_3 : decode cX7_isDigit 3 = .ok (.if_icmp .lt 13, 3) := by decide +kernel
theorem dX7_isDigit_6 : decode cX7_isDigit 6 = .ok (.iload_n 0, 1) := by decide +kernel
theorem dX7_isDigit_7 : decode cX7_isDigit 7 = .ok (.bipush 57, 2) := by decide +kernel
theorem dX7_isDigit_9 : decode cX7_isDigit 9 = .ok (.if_icmp .gt 7, 3) := by decide +kernel
theorem dX7_isDigit_12 : decode cX7_isDigit 12 = .ok (.iconst 1, 1) := by decide +kernel
theorem dX7_isDigit_13 : decode cX7_isDigit 13 = .ok (.goto 4, 3) := by decide +kernel
theorem dX7_isDigit_16 : decode cX7_isDigit 16 = .ok (.iconst 0, 1) := by decide +kernel
theorem dX7_isDigit_17 : decode cX7_isDigit 17 = .ok (.ireturn, 1) := by decide +kernel
def rm_X7_isDigit : Room := { frames := 0, cells := 0, slots := 0, locals := 0 }
def fn_X7_isDigit (x0 : Int32) : Option (Int32) :=
  (if x0 < 48 then
  some 0
  else (if (57 : Int32) < x0 then
  some 0
  else some 1))
set_option maxHeartbeats 4000000 in
set_option maxRecDepth 100000 in
theorem w_X7_isDigit_B0 {p : Program} {l : Launch} {e : Env} {s : State} {m : MethodId} {args : Array Value} {below : List Frame} {meth : Method} {c : Code} {Q : State → Prop} {D : va_G} {κ : Nat → ClassId} {b : Nat} {H0 : Heap} {rr : Int32} {σ : Sg} (hZ : sg_Z p c s m args D κ cX7_isDigit 1 RX7 wsX7_isDigit) (hret : ∀ (v : Int32) (H : Heap) (locs : List Loc) (pc : Nat) (ls : Array Slot), some v = some rr → narrow .boolean (.int v) = .int v → CW D κ b σ H → va_S (sg_A b 892) H0 H locs → decode cX7_isDigit pc = .ok (.ireturn, 1) → W p l e rm_X7_isDigit s m args below meth c H locs 0 0 Q (F0 m pc ls [.int v])) : ∀ {x0 : Int32} {H : Heap} {locs : List Loc} {ls : Array Slot}, fn_X7_isDigit x0 = some rr → lv_has ls 1 [(0, .int x0)] → CW D κ b σ H → va_S (sg_A b 892) H0 H locs → W p l e rm_X7_isDigit s m args below meth c H locs 0 0 Q (F0 m 0 ls []) := by
  obtain ⟨hx, hb, hml, hown, hts, hK⟩ := hZ
  intro x0 H locs ls h hl hC hS
  unfold fn_X7_isDigit at h
  refine lv_iload_n hx hb dX7_isDigit_0 rfl (lv_at hl 0 rfl) ?_
  refine lv_bipush (v := 48) hx hb dX7_isDigit_1 (by decide) ?_
  refine lv_icmp_lt (tgt := 16) hx hb dX7_isDigit_3 (by decide) (fun hc => ?_) (fun hc => ?_)
  · replace h := (if_pos hc).symm.trans h
    refine lv_iconst (v := 0) hx hb dX7_isDigit_16 (by decide) ?_
    exact hret _ _ _ _ _ h (by decide) hC hS dX7_isDigit_17
  · replace h := (if_neg hc).symm.trans h
    refine lv_iload_n hx hb dX7_isDigit_6 rfl (lv_at hl 0 rfl) ?_
    refine lv_bipush (v := 57) hx hb dX7_isDigit_7 (by decide) ?_
    refine lv_icmp_gt (tgt := 16) hx hb dX7_isDigit_9 (by decide) (fun hc => ?_) (fun hc => ?_)
    · replace h := (if_pos hc).symm.trans h
      refine lv_iconst (v := 0) hx hb dX7_isDigit_16 (by decide) ?_
      exact hret _ _ _ _ _ h (by decide) hC hS dX7_isDigit_17
    · replace h := (if_neg hc).symm.trans h
      refine lv_iconst (v := 1) hx hb dX7_isDigit_12 (by decide) ?_
      refine lv_goto (tgt := 17) hx hb dX7_isDigit_13 (by decide) ?_
      exact hret _ _ _ _ _ h (by decide) hC hS dX7_isDigit_17
set_option maxHeartbeats 4000000 in
set_option maxRecDepth 100000 in
theorem c_X7_isDigit (l : Launch) (D : va_G) (κ : Nat → ClassId) (b : Nat) (σ : Sg) (x0 : Int32) (rr : Int32)  (h : fn_X7_isDigit x0 = some rr) : Met l yX7_isDigit wsX7_isDigit rm_X7_isDigit (va_Pc [.int x0] (fun U => KK D κ U ∧ CW D κ b σ U.heap)) (va_Qi (fun (r : Int32) (u : Sg) => r = rr ∧ u = σ) (fun u t => CW D κ b u t.heap) (sg_A b 892)) 0 0 (sg_A b 892) := by
  refine Met.ofW (cc := cX7_isDigit) (maxL := 1) (ret := (some .boolean)) (by decide) rfl ?_
  intro p e s m args below meth c s₁ B hml hv
  obtain ⟨rfl, hK, hC⟩ := hv
  have hr := B.returns
  have hlocks := B.notSynchronized
  have hl := lv_entry ([.int x0]) (n := 1) (Nat.le_of_ble_eq_true rfl)
  rw [lg_entry_eq]
  generalize (lg_sl ([.int x0]) ++ List.replicate (1 - (lg_sl ([.int x0])).length) Slot.unset).toArray = ls at hl ⊢
  have hl : lv_has ls 1 [(0, .int x0)] := hl
  exact w_X7_isDigit_B0 ⟨B.exec, B.bytes, hml, findClass_of_methodNamed B.named, atoms_spec (ws := wsX7_isDigit) B.pre, hK⟩ (fun v H locs pc ls hq hbo hC hS hd => W.zret B.exec B.bytes hr hbo (fun t ht hW => ⟨⟨v, _, rfl, ⟨Option.some.inj hq, rfl⟩, CW_e ht hC⟩, hS.F ht⟩) hS.2.2 hd) h  hl hC va_S.rf

-- RecordShelf.isIndicator(I)Z
theorem dX7_isIndicator_0 : decode cX7_isIndicator 0 = .ok (.iload_n 0, 1) := by decide +kernel
theorem dX7_isIndicator_1 : decode cX7_isIndicator 1 = .ok (.bipush 32, 2) := by decide +kernel
theorem dX7_isIndicator_3 : decode cX7_isIndicator 3 = .ok (.if_icmp .eq 10, 3) := by decide +kernel
theorem dX7_isIndicator_6 : decode cX7_isIndicator 6 = .ok (.iload_n 0, 1) := by decide +kernel
theorem dX7_isIndicator_7 : decode cX7_isIndicator 7 = .ok (.invokestatic 191, 3) := by decide +kernel
theorem dX7_isIndicator_10 : decode cX7_isIndicator 10 = .ok (.ifCond .eq 7, 3) := by decide +kernel
theorem dX7_isIndicator_13 : decode cX7_isIndicator 13 = .ok (.iconst 1, 1) := by decide +kernel
theorem dX7_isIndicator_14 : decode cX7_isIndicator 14 = .ok (.goto 4, 3) := by decide +kernel
theorem dX7_isIndicator_17 : decode cX7_isIndicator 17 = .ok (.iconst 0, 1) := by decide +kernel
theorem dX7_isIndicator_18 : decode cX7_isIndicator 18 = .ok (.ireturn, 1) := by decide +kernel
def rm_X7_isIndicator : Room := { frames := 1, cells := 0, slots := 0, locals := 20 }
def fn_X7_isIndicator_B13  : Option (Int32) :=
  some 1
set_option maxHeartbeats 4000000 in
set_option maxRecDepth 100000 in
theorem w_X7_isIndicator_B13 {p : Program} {l : Launch} {e : Env} {s : State} {m : MethodId} {args : Array Value} {below : List Frame} {meth : Method} {c : Code} {Q : State → Prop} {D : va_G} {κ : Nat → ClassId} {b : Nat} {H0 : Heap} {rr : Int32} {σ : Sg} (hZ : sg_Z p c s m args D κ cX7_isIndicator 1 RX7 wsX7_isIndicator) (hret : ∀ (v : Int32) (H : Heap) (locs : List Loc) (pc : Nat) (ls : Array Slot), some v = some rr → narrow .boolean (.int v) = .int v → CW D κ b σ H → va_S (sg_A b 892) H0 H locs → decode cX7_isIndicator pc = .ok (.ireturn, 1) → W p l e rm_X7_isIndicator s m args below meth c H locs 0 0 Q (F0 m pc ls [.int v])) : ∀ {H : Heap} {locs : List Loc} {ls : Array Slot}, fn_X7_isIndicator_B13 = some rr → lv_has ls 1 [] → CW D κ b σ H → va_S (sg_A b 892) H0 H locs → W p l e rm_X7_isIndicator s m args below meth c H locs 0 0 Q (F0 m 13 ls []) := by
  obtain ⟨hx, hb, hml, hown, hts, hK⟩ := hZ
  intro H locs ls h hl hC hS
  unfold fn_X7_isIndicator_B13 at h
  refine lv_iconst (v := 1) hx hb dX7_isIndicator_13 (by decide) ?_
  refine lv_goto (tgt := 18) hx hb dX7_isIndicator_14 (by decide) ?_
  exact hret _ _ _ _ _ h (by decide) hC hS dX7_isIndicator_18
def fn_X7_isIndicator (x0 : Int32) : Option (Int32) :=
  (if x0 = 32 then
  fn_X7_isIndicator_B13
  else ((fn_X7_isDigit x0).bind fun r1 =>
  (if r1 = 0 then
  some 0
  else fn_X7_isIndicator_B13)))
set_option maxHeartbeats 4000000 in
set_option maxRecDepth 100000 in
theorem w_X7_isIndicator_B0 {p : Program} {l : Launch} {e : Env} {s : State} {m : MethodId} {args : Array Value} {below : List Frame} {meth : Method} {c : Code} {Q : State → Prop} {D : va_G} {κ : Nat → ClassId} {b : Nat} {H0 : Heap} {rr : Int32} {σ : Sg} (hZ : sg_Z p c s m args D κ cX7_isIndicator 1 RX7 wsX7_isIndicator) (hret : ∀ (v : Int32) (H : Heap) (locs : List Loc) (pc : Nat) (ls : Array Slot), some v = some rr → narrow .boolean (.int v) = .int v → CW D κ b σ H → va_S (sg_A b 892) H0 H locs → decode cX7_isIndicator pc = .ok (.ireturn, 1) → W p l e rm_X7_isIndicator s m args below meth c H locs 0 0 Q (F0 m pc ls [.int v])) : ∀ {x0 : Int32} {H : Heap} {locs : List Loc} {ls : Array Slot}, fn_X7_isIndicator x0 = some rr → lv_has ls 1 [(0, .int x0)] → CW D κ b σ H → va_S (sg_A b 892) H0 H locs → W p l e rm_X7_isIndicator s m args below meth c H locs 0 0 Q (F0 m 0 ls []) := by
  obtain ⟨hx, hb, hml, hown, hts, hK⟩ := hZ
  intro x0 H locs ls h hl hC hS
  unfold fn_X7_isIndicator at h
  refine lv_iload_n hx hb dX7_isIndicator_0 rfl (lv_at hl 0 rfl) ?_
  refine lv_bipush (v := 32) hx hb dX7_isIndicator_1 (by decide) ?_
  refine lv_icmp_eq (tgt := 13) hx hb dX7_isIndicator_3 (by decide) (fun hc => ?_) (fun hc => ?_)
  · replace h := (if_pos hc).symm.trans h
    exact w_X7_isIndicator_B13 ⟨hx, hb, hml, hown, hts, hK⟩ hret  h (lv_sub hl [] rfl) hC hS
  · replace h := (if_neg hc).symm.trans h
    refine lv_iload_n hx hb dX7_isIndicator_6 rfl (lv_at hl 0 rfl) ?_
    obtain ⟨r1, er1, h⟩ := Option.bind_eq_some_iff.mp h
    refine va_calli (va_runS (As := [.int x0]) (rest := []) ⟨hx, hb, hml, hown, hts⟩ (c_X7_isDigit l D κ b σ x0 _ er1) (va_cwS 1 hts (gwS wt_421 wt_336 wt_1 wt_337) rfl rfl rfl (by decide +kernel) ⟨Nat.le_of_ble_eq_true rfl, Nat.le_of_ble_eq_true rfl⟩) (CW_preS hK hC) rfl rfl hl.1 rfl (lv_room (Nat.le_of_ble_eq_true rfl)) dX7_isIndicator_7 ⟨Nat.zero_le _, Nat.zero_le _⟩) hS (fun _ _ h => h) (fun _ h => h) (fun r u t H locs ht _ hp hB _ _ hS => ?_)
    refine sg_topi hp.1 ?_
    have hC : CW D κ b σ H := CW_b hB ht hp.2
    refine lv_if_eq (tgt := 17) hx hb dX7_isIndicator_10 (by decide) (fun hc => ?_) (fun hc => ?_)
    · replace h := (if_pos hc).symm.trans h
      refine lv_iconst (v := 0) hx hb dX7_isIndicator_17 (by decide) ?_
      exact hret _ _ _ _ _ h (by decide) hC hS dX7_isIndicator_18
    · replace h := (if_neg hc).symm.trans h
      exact w_X7_isIndicator_B13 ⟨hx, hb, hml, hown, hts, hK⟩ hret  h (lv_sub hl [] rfl) hC hS
set_option maxHeartbeats 4000000 in
set_option maxRecDepth 100000 in
theorem c_X7_isIndicator (l : Launch) (D : va_G) (κ : Nat → ClassId) (b : Nat) (σ : Sg) (x0 : Int32) (rr : Int32)  (h : fn_X7_isIndicator x0 = some rr) : Met l yX7_isIndicator wsX7_isIndicator rm_X7_isIndicator (va_Pc [.int x0] (fun U => KK D κ U ∧ CW D κ b σ U.heap)) (va_Qi (fun (r : Int32) (u : Sg) => r = rr ∧ u = σ) (fun u t => CW D κ b u t.heap) (sg_A b 892)) 0 0 (sg_A b 892) := by
  refine Met.ofW (cc := cX7_isIndicator) (maxL := 1) (ret := (some .boolean)) (by decide) rfl ?_
  intro p e s m args below meth c s₁ B hml hv
  obtain ⟨rfl, hK, hC⟩ := hv
  have hr := B.returns
  have hlocks := B.notSynchronized
  have hl := lv_entry ([.int x0]) (n := 1) (Nat.le_of_ble_eq_true rfl)
  rw [lg_entry_eq]
  generalize (lg_sl ([.int x0]) ++ List.replicate (1 - (lg_sl ([.int x0])).length) Slot.unset).toArray = ls at hl ⊢
  have hl : lv_has ls 1 [(0, .int x0)] := hl
  exact w_X7_isIndicator_B0 ⟨B.exec, B.bytes, hml, findClass_of_methodNamed B.named, atoms_spec (ws := wsX7_isIndicator) B.pre, hK⟩ (fun v H locs pc ls hq hbo hC hS hd => W.zret B.exec B.bytes hr hbo (fun t ht hW => ⟨⟨v, _, rfl, ⟨Option.some.inj hq, rfl⟩, CW_e ht hC⟩, hS.F ht⟩) hS.2.2 hd) h  hl hC va_S.rf

-- RecordShelf.byteOf(JI)I
theorem dX7_byteOf_0 : decode cX7_byteOf 0 = .ok (.lload_n 0, 1) := by decide +kernel
theorem dX7_byteOf_1 : decode cX7_byteOf 1 = .ok (.bipush 8, 2) := by decide +kernel
theorem dX7_byteOf_3 : decode cX7_byteOf 3 = .ok (.iload_n 2, 1) := by decide +kernel
theorem dX7_byteOf_4 : decode cX7_byteOf 4 = .ok (.imul, 1) := by decide +kernel
theorem dX7_byteOf_5 : decode cX7_byteOf 5 = .ok (.lshr, 1) := by decide +kernel
theorem dX7_byteOf_6 : decode cX7_byteOf 6 = .ok (.l2i, 1) := by decide +kernel
theorem dX7_byteOf_7 : decode cX7_byteOf 7 = .ok (.sipush 255, 3) := by decide +kernel
theorem dX7_byteOf_10 : decode cX7_byteOf 10 = .ok (.iand, 1) := by decide +kernel
theorem dX7_byteOf_11 : decode cX7_byteOf 11 = .ok (.ireturn, 1) := by decide +kernel
def rm_X7_byteOf : Room := { frames := 0, cells := 0, slots := 0, locals := 0 }
def fn_X7_byteOf (x0 : Int64) (x2 : Int32) : Option (Int32) :=
  some ((((x0 >>> ((((8 * x2) : Int32).toInt64) &&& 63)) : Int64).toInt32) &&& 255)
set_option maxHeartbeats 4000000 in
set_option maxRecDepth 100000 in
theorem w_X7_byteOf_B0 {p : Program} {l : Launch} {e : Env} {s : State} {m : MethodId} {args : Array Value} {below : List Frame} {meth : Method} {c : Code} {Q : State → Prop} {D : va_G} {κ : Nat → ClassId} {b : Nat} {H0 : Heap} {rr : Int32} {σ : Sg} (hZ : sg_Z p c s m args D κ cX7_byteOf 3 RX7 wsX7_byteOf) (hret : ∀ (v : Int32) (H : Heap) (locs : List Loc) (pc : Nat) (ls : Array Slot), some v = some rr → CW D κ b σ H → va_S (sg_A b 892) H0 H locs → decode cX7_byteOf pc = .ok (.ireturn, 1) → W p l e rm_X7_byteOf s m args below meth c H locs 0 0 Q (F0 m pc ls [.int v])) : ∀ {x0 : Int64} {x2 : Int32} {H : Heap} {locs : List Loc} {ls : Array Slot}, fn_X7_byteOf x0 x2 = some rr → lv_has ls 3 [(0, .long x0), (2, .int x2)] → CW D κ b σ H → va_S (sg_A b 892) H0 H locs → W p l e rm_X7_byteOf s m args below meth c H locs 0 0 Q (F0 m 0 ls []) := by
  obtain ⟨hx, hb, hml, hown, hts, hK⟩ := hZ
  intro x0 x2 H locs ls h hl hC hS
  unfold fn_X7_byteOf at h
  refine lv_lload_n hx hb dX7_byteOf_0 rfl (lv_at hl 0 rfl) ?_
  refine lv_bipush (v := 8) hx hb dX7_byteOf_1 (by decide) ?_
  refine lv_iload_n hx hb dX7_byteOf_3 rfl (lv_at hl 1 rfl) ?_
  refine lv_imul hx hb dX7_byteOf_4 ?_
  refine lv_lshr (v := (x0 >>> ((((8 * x2) : Int32).toInt64) &&& 63))) hx hb dX7_byteOf_5 rfl ?_
  refine lv_l2i (v := (((x0 >>> ((((8 * x2) : Int32).toInt64) &&& 63)) : Int64).toInt32)) hx hb dX7_byteOf_6 rfl ?_
  refine lv_sipush (v := 255) hx hb dX7_byteOf_7 (by decide) ?_
  refine lv_iand hx hb dX7_byteOf_10 ?_
  exact hret _ _ _ _ _ h hC hS dX7_byteOf_11
set_option maxHeartbeats 4000000 in
set_option maxRecDepth 100000 in
theorem c_X7_byteOf (l : Launch) (D : va_G) (κ : Nat → ClassId) (b : Nat) (σ : Sg) (x0 : Int64) (x2 : Int32) (rr : Int32)  (h : fn_X7_byteOf x0 x2 = some rr) : Met l yX7_byteOf wsX7_byteOf rm_X7_byteOf (va_Pc [.long x0, .int x2] (fun U => KK D κ U ∧ CW D κ b σ U.heap)) (va_Qi (fun (r : Int32) (u : Sg) => r = rr ∧ u = σ) (fun u t => CW D κ b u t.heap) (sg_A b 892)) 0 0 (sg_A b 892) := by
  refine Met.ofW (cc := cX7_byteOf) (maxL := 3) (ret := (some .int)) (by decide) rfl ?_
  intro p e s m args below meth c s₁ B hml hv
  obtain ⟨rfl, hK, hC⟩ := hv
  have hr := B.returns
  have hlocks := B.notSynchronized
  have hl := lv_entry ([.long x0, .int x2]) (n := 3) (Nat.le_of_ble_eq_true rfl)
  rw [lg_entry_eq]
  generalize (lg_sl ([.long x0, .int x2]) ++ List.replicate (3 - (lg_sl ([.long x0, .int x2])).length) Slot.unset).toArray = ls at hl ⊢
  have hl : lv_has ls 3 [(0, .long x0), (2, .int x2)] := hl
  exact w_X7_byteOf_B0 ⟨B.exec, B.bytes, hml, findClass_of_methodNamed B.named, atoms_spec (ws := wsX7_byteOf) B.pre, hK⟩ (fun v H locs pc ls hq hC hS hd => W.iret B.exec B.bytes hr (fun t ht hW => ⟨⟨v, _, rfl, ⟨Option.some.inj hq, rfl⟩, CW_e ht hC⟩, hS.F ht⟩) hS.2.2 hd) h  hl hC va_S.rf

-- RecordShelf.isSign(I)Z
theorem dX7_isSign_0 : decode cX7_isSign 0 = .ok (.iload_n 0, 1) := by decide +kernel
theorem dX7_isSign_1 : decode cX7_isSign 1 = .ok (.bipush 29, 2) := by decide +kernel
theorem dX7_isSign_3 : decode cX7_isSign 3 = .ok (.if_icmp .lt 13, 3) := by decide +kernel
theorem dX7_isSign_6 : decode cX7_isSign 6 = .ok (.iload_n 0, 1) := by decide +kernel
theorem dX7_isSign_7 : decode cX7_isSign 7 = .ok (.bipush 126, 2) := by decide +kernel
theorem dX7_isSign_9 : decode cX7_isSign 9 = .ok (.if_icmp .gt 7, 3) := by decide +kernel
theorem dX7_isSign_12 : decode cX7_isSign 12 = .ok (.iconst 1, 1) := by decide +kernel
theorem dX7_isSign_13 : decode cX7_isSign 13 = .ok (.goto 4, 3) := by decide +kernel
theorem dX7_isSign_16 : decode cX7_isSign 16 = .ok (.iconst 0, 1) := by decide +kernel
theorem dX7_isSign_17 : decode cX7_isSign 17 = .ok (.ireturn, 1) := by decide +kernel
def rm_X7_isSign : Room := { frames := 0, cells := 0, slots := 0, locals := 0 }
def fn_X7_isSign (x0 : Int32) : Option (Int32) :=
  (if x0 < 29 then
  some 0
  else (if (126 : Int32) < x0 then
  some 0
  else some 1))
set_option maxHeartbeats 4000000 in
set_option maxRecDepth 100000 in
theorem w_X7_isSign_B0 {p : Program} {l : Launch} {e : Env} {s : State} {m : MethodId} {args : Array Value} {below : List Frame} {meth : Method} {c : Code} {Q : State → Prop} {D : va_G} {κ : Nat → ClassId} {b : Nat} {H0 : Heap} {rr : Int32} {σ : Sg} (hZ : sg_Z p c s m args D κ cX7_isSign 1 RX7 wsX7_isSign) (hret : ∀ (v : Int32) (H : Heap) (locs : List Loc) (pc : Nat) (ls : Array Slot), some v = some rr → narrow .boolean (.int v) = .int v → CW D κ b σ H → va_S (sg_A b 892) H0 H locs → decode cX7_isSign pc = .ok (.ireturn, 1) → W p l e rm_X7_isSign s m args below meth c H locs 0 0 Q (F0 m pc ls [.int v])) : ∀ {x0 : Int32} {H : Heap} {locs : List Loc} {ls : Array Slot}, fn_X7_isSign x0 = some rr → lv_has ls 1 [(0, .int x0)] → CW D κ b σ H → va_S (sg_A b 892) H0 H locs → W p l e rm_X7_isSign s m args below meth c H locs 0 0 Q (F0 m 0 ls []) := by
  obtain ⟨hx, hb, hml, hown, hts, hK⟩ := hZ
  intro x0 H locs ls h hl hC hS
  unfold fn_X7_isSign at h
  refine lv_iload_n hx hb dX7_isSign_0 rfl (lv_at hl 0 rfl) ?_
  refine lv_bipush (v := 29) hx hb dX7_isSign_1 (by decide) ?_
  refine lv_icmp_lt (tgt := 16) hx hb dX7_isSign_3 (by decide) (fun hc => ?_) (fun hc => ?_)
  · replace h := (if_pos hc).symm.trans h
    refine lv_iconst (v := 0) hx hb dX7_isSign_16 (by decide) ?_
    exact hret _ _ _ _ _ h (by decide) hC hS dX7_isSign_17
  · replace h := (if_neg hc).symm.trans h
    refine lv_iload_n hx hb dX7_isSign_6 rfl (lv_at hl 0 rfl) ?_
    refine lv_bipush (v := 126) hx hb dX7_isSign_7 (by decide) ?_
    refine lv_icmp_gt (tgt := 16) hx hb dX7_isSign_9 (by decide) (fun hc => ?_) (fun hc => ?_)
    · replace h := (if_pos hc).symm.trans h
      refine lv_iconst (v := 0) hx hb dX7_isSign_16 (by decide) ?_
      exact hret _ _ _ _ _ h (by decide) hC hS dX7_isSign_17
    · replace h := (if_neg hc).symm.trans h
      refine lv_iconst (v := 1) hx hb dX7_isSign_12 (by decide) ?_
      refine lv_goto (tgt := 17) hx hb dX7_isSign_13 (by decide) ?_
      exact hret _ _ _ _ _ h (by decide) hC hS dX7_isSign_17
set_option maxHeartbeats 4000000 in
set_option maxRecDepth 100000 in
theorem c_X7_isSign (l : Launch) (D : va_G) (κ : Nat → ClassId) (b : Nat) (σ : Sg) (x0 : Int32) (rr : Int32)  (h : fn_X7_isSign x0 = some rr) : Met l yX7_isSign wsX7_isSign rm_X7_isSign (va_Pc [.int x0] (fun U => KK D κ U ∧ CW D κ b σ U.heap)) (va_Qi (fun (r : Int32) (u : Sg) => r = rr ∧ u = σ) (fun u t => CW D κ b u t.heap) (sg_A b 892)) 0 0 (sg_A b 892) := by
  refine Met.ofW (cc := cX7_isSign) (maxL := 1) (ret := (some .boolean)) (by decide) rfl ?_
  intro p e s m args below meth c s₁ B hml hv
  obtain ⟨rfl, hK, hC⟩ := hv
  have hr := B.returns
  have hlocks := B.notSynchronized
  have hl := lv_entry ([.int x0]) (n := 1) (Nat.le_of_ble_eq_true rfl)
  rw [lg_entry_eq]
  generalize (lg_sl ([.int x0]) ++ List.replicate (1 - (lg_sl ([.int x0])).length) Slot.unset).toArray = ls at hl ⊢
  have hl : lv_has ls 1 [(0, .int x0)] := hl
  exact w_X7_isSign_B0 ⟨B.exec, B.bytes, hml, findClass_of_methodNamed B.named, atoms_spec (ws := wsX7_isSign) B.pre, hK⟩ (fun v H locs pc ls hq hbo hC hS hd => W.zret B.exec B.bytes hr hbo (fun t ht hW => ⟨⟨v, _, rfl, ⟨Option.some.inj hq, rfl⟩, CW_e ht hC⟩, hS.F ht⟩) hS.2.2 hd) h  hl hC va_S.rf
