-- RecordShelf$Text.add(C)V
theorem dX6_add_0 : decode cX6_add 0 = .ok (.aload_n 0, 1) := by decide +kernel
theorem dX6_add_1 : decode cX6_add 1 = .ok (.getfield 15, 3) := by decide +kernel
theorem dX6_add_4 : decode cX6_add 4 = .ok (.aload_n 0, 1) := by decide +kernel
theorem dX6_add_5 : decode cX6_add 5 = .ok (.getfield 9, 3) := by decide +kernel
theorem dX6_add_8 : decode cX6_add 8 = .ok (.arraylength, 1) := by decide +kernel
theorem dX6_add_9 : decode cX6_add 9 = .ok (.if_icmp .ge 23, 3) := by decide +kernel
theorem dX6_add_12 : decode cX6_add 12 = .ok (.aload_n 0, 1) := by decide +kernel
theorem dX6_add_13 : decode cX6_add 13 = .ok (.getfield 9, 3) := by decide +kernel
theorem dX6_add_16 : decode cX6_add 16 = .ok (.aload_n 0, 1) := by decide +kernel
theorem dX6_add_17 : decode cX6_add 17 = .ok (.getfield 15, 3) := by decide +kernel
theorem dX6_add_20 : decode cX6_add 20 = .ok (.iload_n 1, 1) := by decide +kernel
theorem dX6_add_21 : decode cX6_add 21 = .ok (.castore, 1) := by decide +kernel
theorem dX6_add_22 : decode cX6_add 22 = .ok (.aload_n 0, 1) := by decide +kernel
theorem dX6_add_23 : decode cX6_add 23 = .ok (.dup, 1) := by decide +kernel
theorem dX6_add_24 : decode cX6_add 24 = .ok (.getfield 15, 3) := by decide +kernel
theorem dX6_add_27 : decode cX6_add 27 = .ok (.iconst 1, 1) := by decide +kernel
theorem dX6_add_28 : decode cX6_add 28 = .ok (.iadd, 1) := by decide +kernel
theorem dX6_add_29 : decode cX6_add 29 = .ok (.putfield 15, 3) := by decide +kernel
theorem dX6_add_32 : decode cX6_add 32 = .ok (.return_, 1) := by decide +kernel
def rm_X6_add : Room := { frames := 0, cells := 0, slots := 0, locals := 0 }
def fn_X6_add (b : Nat) (σ : Sg) (x1 : Int32) : Option (Sg) :=
  (if (600 : Int32) ≤ (σ.1 (b + 2) 1) then
  some σ
  else (if sg_ib (σ.1 (b + 2) 1) 600 then
  (sg_lt (sg_w σ (b + 3) (sg_x (σ.1 (b + 2) 1)) (vp_nar .char x1)) fun σ1 =>
  (sg_lt (sg_w σ1 (b + 2) 1 ((σ1.1 (b + 2) 1) + 1)) fun σ2 =>
  some σ2))
  else none))
set_option maxHeartbeats 4000000 in
set_option maxRecDepth 100000 in
theorem w_X6_add_B0 {p : Program} {l : Launch} {e : Env} {s : State} {m : MethodId} {args : Array Value} {below : List Frame} {meth : Method} {c : Code} {Q : State → Prop} {D : va_G} {κ : Nat → ClassId} {b : Nat} {H0 : Heap} {rr : Sg} (hZ : sg_Z p c s m args D κ cX6_add 2 RX6 wsX6_add) (hret : ∀ (u : Sg) (H : Heap) (locs : List Loc) (pc : Nat) (ls : Array Slot), some u = some rr → CW D κ b u H → va_S (sg_A b 892) H0 H locs → decode cX6_add pc = .ok (.return_, 1) → W p l e rm_X6_add s m args below meth c H locs 0 0 Q (F0 m pc ls [])) : ∀ {σ : Sg} {x1 : Int32} {H : Heap} {locs : List Loc} {ls : Array Slot}, fn_X6_add b σ x1 = some rr → lv_has ls 2 [(0, .ref (b + 2)), (1, .int x1)] → CW D κ b σ H → va_S (sg_A b 892) H0 H locs → W p l e rm_X6_add s m args below meth c H locs 0 0 Q (F0 m 0 ls []) := by
  obtain ⟨hx, hb, hml, hown, hts, hK⟩ := hZ
  intro σ x1 H locs ls h hl hC hS
  unfold fn_X6_add at h
  refine lv_aload_n hx hb dX6_add_0 rfl (lv_at hl 0 rfl) ?_
  refine va_get (D := D) (ci := 6) (v := .int (σ.1 (b + 2) 1)) (C := RX6) (T := TX6) (N := 2) hx hb hts (wqs inW_X6) hown hK.1 hC.1 ((b + 2) - b) sg_gText rfl 1 (by decide) (hts _ (wq wt_38)) (fun _ h9 => h9) rfl dX6_add_1 ?_
  refine lv_aload_n hx hb dX6_add_4 rfl (lv_at hl 0 rfl) ?_
  refine va_get (D := D) (ci := 6) (v := .ref (b + 3)) (C := RX6) (T := TX6) (N := 2) hx hb hts (wqs inW_X6) hown hK.1 hC.1 ((b + 2) - b) sg_gText rfl 0 (by decide) (hts _ (wq wt_36)) (fun _ h9 => h9) rfl dX6_add_5 ?_
  refine va_alen (v := 600) hx hb hK.1 hC.1 ((b + 3) - b) 1 sg_gtsigns rfl rfl dX6_add_8 ?_
  refine lv_icmp_ge (tgt := 32) hx hb dX6_add_9 (by decide) (fun hc => ?_) (fun hc => ?_)
  · replace h := (if_pos hc).symm.trans h
    exact hret _ _ _ _ _ h hC hS dX6_add_32
  · replace h := (if_neg hc).symm.trans h
    refine lv_aload_n hx hb dX6_add_12 rfl (lv_at hl 0 rfl) ?_
    refine va_get (D := D) (ci := 6) (v := .ref (b + 3)) (C := RX6) (T := TX6) (N := 2) hx hb hts (wqs inW_X6) hown hK.1 hC.1 ((b + 2) - b) sg_gText rfl 0 (by decide) (hts _ (wq wt_36)) (fun _ h9 => h9) rfl dX6_add_13 ?_
    refine lv_aload_n hx hb dX6_add_16 rfl (lv_at hl 0 rfl) ?_
    refine va_get (D := D) (ci := 6) (v := .int (σ.1 (b + 2) 1)) (C := RX6) (T := TX6) (N := 2) hx hb hts (wqs inW_X6) hown hK.1 hC.1 ((b + 2) - b) sg_gText rfl 1 (by decide) (hts _ (wq wt_38)) (fun _ h9 => h9) rfl dX6_add_17 ?_
    refine lv_iload_n hx hb dX6_add_20 rfl (lv_at hl 1 rfl) ?_
    obtain ⟨hg, h⟩ := sg_gd h
    refine va_cast hx hb hK.1 hC.1 sg_D hS ((b + 3) - b) 1 sg_gtsigns rfl (sg_in hg) dX6_add_21 (fun H locs hP _ hS => ?_)
    obtain ⟨σ1, eσ1, h⟩ := sg_lte h
    have hC : CW D κ b σ1 H := eσ1 ▸ CW_put (k := sg_x (σ.1 (b + 2) 1)) (v := (vp_nar .char x1)) hC sg_atsigns (sg_ytsigns _ _) hP
    refine lv_aload_n hx hb dX6_add_22 rfl (lv_at hl 0 rfl) ?_
    refine lv_dup hx hb dX6_add_23 rfl ?_
    refine va_get (D := D) (ci := 6) (v := .int (σ1.1 (b + 2) 1)) (C := RX6) (T := TX6) (N := 2) hx hb hts (wqs inW_X6) hown hK.1 hC.1 ((b + 2) - b) sg_gText rfl 1 (by decide) (hts _ (wq wt_38)) (fun _ h9 => h9) rfl dX6_add_24 ?_
    refine lv_iconst (v := 1) hx hb dX6_add_27 (by decide) ?_
    refine lv_iadd hx hb dX6_add_28 ?_
    refine va_put (D := D) (ci := 6) (v := .int ((σ1.1 (b + 2) 1) + 1)) (ty := .int) (C := RX6) (T := TX6) (N := 2) hx hb hts (wqs inW_X6) tyX6 tyX6_ok nmX6 hown hK.1 hC.1 sg_D hS ((b + 2) - b) sg_gText rfl 1 (by decide) (hts _ (wq wt_38)) (fun _ h9 => h9) rfl (by decide +kernel) rfl rfl (Nat.le_of_ble_eq_true rfl) dX6_add_29 (fun H locs hP _ hS => ?_)
    obtain ⟨σ2, eσ2, h⟩ := sg_lte h
    have hC : CW D κ b σ2 H := eσ2 ▸ CW_put (k := 1) (v := ((σ1.1 (b + 2) 1) + 1)) hC sg_aText (sg_yText _ _) hP
    exact hret _ _ _ _ _ h hC hS dX6_add_32
set_option maxHeartbeats 4000000 in
set_option maxRecDepth 100000 in
theorem c_X6_add (l : Launch) (D : va_G) (κ : Nat → ClassId) (b : Nat) (σ : Sg) (x1 : Int32) (rr : Sg)  (h : fn_X6_add b σ x1 = some rr) : Met l yX6_add wsX6_add rm_X6_add (va_Pc [.ref (b + 2), .int x1] (fun U => KK D κ U ∧ CW D κ b σ U.heap)) (va_Qv (fun u : Sg => u = rr) (fun u t => CW D κ b u t.heap) (sg_A b 892)) 0 0 (sg_A b 892) := by
  refine Met.ofW (cc := cX6_add) (maxL := 2) (ret := none) (by decide) rfl ?_
  intro p e s m args below meth c s₁ B hml hv
  obtain ⟨rfl, hK, hC⟩ := hv
  have hr := B.returns
  have hlocks := B.notSynchronized
  have hl := lv_entry ([.ref (b + 2), .int x1]) (n := 2) (Nat.le_of_ble_eq_true rfl)
  rw [lg_entry_eq]
  generalize (lg_sl ([.ref (b + 2), .int x1]) ++ List.replicate (2 - (lg_sl ([.ref (b + 2), .int x1])).length) Slot.unset).toArray = ls at hl ⊢
  have hl : lv_has ls 2 [(0, .ref (b + 2)), (1, .int x1)] := hl
  exact w_X6_add_B0 ⟨B.exec, B.bytes, hml, findClass_of_methodNamed B.named, atoms_spec (ws := wsX6_add) B.pre, hK⟩ (fun u H locs pc ls hq hC hS hd => W.vret B.exec B.bytes hr (fun t ht hW => ⟨⟨_, rfl, Option.some.inj hq, CW_e ht hC⟩, hS.F ht⟩) hS.2.2 hd) h  hl hC va_S.rf

-- RecordShelf$Text.addNumber(II)V
theorem dX6_addNumber_0 : decode cX6_addNumber 0 = .ok (.iload_n 2, 1) := by decide +kernel
theorem dX6_addNumber_1 : decode cX6_addNumber 1 = .ok (.iconst 1, 1) := by decide +kernel
theorem dX6_addNumber_2 : decode cX6_addNumber 2 = .ok (.isub, 1) := by decide +kernel
theorem dX6_addNumber_3 : decode cX6_addNumber 3 = .ok (.istore_n 3, 1) := by decide +kernel
theorem dX6_addNumber_4 : decode cX6_addNumber 4 = .ok (.iload_n 3, 1) := by decide +kernel
theorem dX6_addNumber_5 : decode cX6_addNumber 5 = .ok (.ifCond .lt 19, 3) := by decide +kernel
theorem dX6_addNumber_8 : decode cX6_addNumber 8 = .ok (.aload_n 0, 1) := by decide +kernel
theorem dX6_addNumber_9 : decode cX6_addNumber 9 = .ok (.iload_n 3, 1) := by decide +kernel
theorem dX6_addNumber_10 : decode cX6_addNumber 10 = .ok (.iload_n 1, 1) := by decide +kernel
theorem dX6_addNumber_11 : decode cX6_addNumber 11 = .ok (.invokestatic 28, 3) := by decide +kernel
theorem dX6_addNumber_14 : decode cX6_addNumber 14 = .ok (.i2c, 1) := by decide +kernel
theorem dX6_addNumber_15 : decode cX6_addNumber 15 = .ok (.invokevirtual 31, 3) := by decide +kernel
theorem dX6_addNumber_18 : decode cX6_addNumber 18 = .ok (.iinc 3 (-1), 3) := by decide +kernel
theorem dX6_addNumber_21 : decode cX6_addNumber 21 = .ok (.goto (-17), 3) := by decide +kernel
theorem dX6_addNumber_24 : decode cX6_addNumber 24 = .ok (.return_, 1) := by decide +kernel
def rm_X6_addNumber : Room := { frames := 1, cells := 0, slots := 0, locals := 23 }
def fn_X6_addNumber_B4b (b : Nat) (z4 : Sg → Int32 → Int32 → Option (Sg)) (σ : Sg) (x1 : Int32) (x3 : Int32) : Option (Sg) :=
  (if x3 < 0 then
  some σ
  else ((fn_X7_digitBefore x3 x1).bind fun r1 =>
  ((fn_X6_add b σ (sg_c r1)).bind fun r2 =>
  (sg_lt (x3 + (-1) : Int32) fun v3 =>
  z4 r2 x1 v3))))
def fn_X6_addNumber_B4 (b : Nat) : Nat → Sg → Int32 → Int32 → Option (Sg)
  | 0 => fun _ _ _ => none
  | n + 1 => fun σ x1 x3 => fn_X6_addNumber_B4b b (fn_X6_addNumber_B4 b n) σ x1 x3
set_option maxHeartbeats 4000000 in
set_option maxRecDepth 100000 in
theorem w_X6_addNumber_B4b {p : Program} {l : Launch} {e : Env} {s : State} {m : MethodId} {args : Array Value} {below : List Frame} {meth : Method} {c : Code} {Q : State → Prop} {D : va_G} {κ : Nat → ClassId} {b : Nat} {H0 : Heap} {rr : Sg} (hZ : sg_Z p c s m args D κ cX6_addNumber 4 RX6 wsX6_addNumber) (hret : ∀ (u : Sg) (H : Heap) (locs : List Loc) (pc : Nat) (ls : Array Slot), some u = some rr → CW D κ b u H → va_S (sg_A b 892) H0 H locs → decode cX6_addNumber pc = .ok (.return_, 1) → W p l e rm_X6_addNumber s m args below meth c H locs 0 0 Q (F0 m pc ls [])) {z4 : Sg → Int32 → Int32 → Option (Sg)} (hr4 : ∀ {σ : Sg} {x1 : Int32} {x3 : Int32} {H : Heap} {locs : List Loc} {ls : Array Slot}, z4 σ x1 x3 = some rr → lv_has ls 4 [(0, .ref (b + 2)), (1, .int x1), (3, .int x3)] → CW D κ b σ H → va_S (sg_A b 892) H0 H locs → W p l e rm_X6_addNumber s m args below meth c H locs 0 0 Q (F0 m 4 ls [])) : ∀ {σ : Sg} {x1 : Int32} {x3 : Int32} {H : Heap} {locs : List Loc} {ls : Array Slot}, fn_X6_addNumber_B4b b z4 σ x1 x3 = some rr → lv_has ls 4 [(0, .ref (b + 2)), (1, .int x1), (3, .int x3)] → CW D κ b σ H → va_S (sg_A b 892) H0 H locs → W p l e rm_X6_addNumber s m args below meth c H locs 0 0 Q (F0 m 4 ls []) := by
  obtain ⟨hx, hb, hml, hown, hts, hK⟩ := hZ
  intro σ x1 x3 H locs ls h hl hC hS
  unfold fn_X6_addNumber_B4b at h
  refine lv_iload_n hx hb dX6_addNumber_4 rfl (lv_at hl 2 rfl) ?_
  refine lv_if_lt (tgt := 24) hx hb dX6_addNumber_5 (by decide) (fun hc => ?_) (fun hc => ?_)
  · replace h := (if_pos hc).symm.trans h
    exact hret _ _ _ _ _ h hC hS dX6_addNumber_24
  · replace h := (if_neg hc).symm.trans h
    refine lv_aload_n hx hb dX6_addNumber_8 rfl (lv_at hl 0 rfl) ?_
    refine lv_iload_n hx hb dX6_addNumber_9 rfl (lv_at hl 2 rfl) ?_
    refine lv_iload_n hx hb dX6_addNumber_10 rfl (lv_at hl 1 rfl) ?_
    obtain ⟨r1, er1, h⟩ := Option.bind_eq_some_iff.mp h
    refine va_calli (va_runSN (As := [.int x3, .int x1]) (rest := [.ref (b + 2)]) ⟨hx, hb, hml, hown, hts⟩ (c_X7_digitBefore l D κ b σ x3 x1 _ er1) ⟨va_cnB 2 hts (gw0 wt_315) rfl rfl rfl (nm_10 hK) (hts _ (wq wt_1)) (by decide +kernel) ⟨Nat.le_of_ble_eq_true rfl, Nat.le_of_ble_eq_true rfl⟩, hts _ (wq wt_314), trivial⟩ (CW_preS hK hC) rfl rfl hl.1 rfl (lv_room (Nat.le_of_ble_eq_true rfl)) dX6_addNumber_11 ⟨Nat.zero_le _, Nat.zero_le _⟩) hS (fun _ _ h => h) (fun _ h => h) (fun r u t H locs ht _ hp hB _ _ hS => ?_)
    refine sg_topi hp.1 ?_
    have hC : CW D κ b σ H := CW_b hB ht hp.2
    refine lv_i2c (v := (sg_c r1)) hx hb dX6_addNumber_14 rfl ?_
    obtain ⟨r2, er2, h⟩ := Option.bind_eq_some_iff.mp h
    refine va_callv (va_runV (As := [.int (sg_c r1)]) (rest := []) ⟨hx, hb, hml, hown, hts⟩ (c_X6_add l D κ b σ (sg_c r1) _ er2) (cwV 1 hts (gwV wt_518 wt_222 wt_223 wt_3 wt_224) rfl rfl rfl (by decide +kernel) ⟨Nat.le_of_ble_eq_true rfl, Nat.le_of_ble_eq_true rfl⟩) (CW_preV hK hC sg_gText rfl) rfl rfl hl.1 rfl (lv_room (Nat.le_of_ble_eq_true rfl)) dX6_addNumber_15 ⟨Nat.zero_le _, Nat.zero_le _⟩) hS (fun _ _ h => h) (fun _ h => h) (fun u t H locs ht _ hp hB _ _ hS => ?_)
    have hC : CW D κ b r2 H := CW_b hB ht hp
    obtain ⟨v3, ev3, h⟩ := sg_lte h
    refine lv_iinc (v := v3) (lv' := [(3, .int v3), (0, .ref (b + 2)), (1, .int x1)]) (k := 2) hx hb dX6_addNumber_18 hl rfl (sg_inc (by decide) ev3) (by decide) rfl (fun ls hl => ?_)
    refine lv_goto (tgt := 4) hx hb dX6_addNumber_21 (by decide) ?_
    exact hr4 h (lv_sub hl [1, 2, 0] rfl) hC hS
set_option maxHeartbeats 4000000 in
theorem w_X6_addNumber_B4 {p : Program} {l : Launch} {e : Env} {s : State} {m : MethodId} {args : Array Value} {below : List Frame} {meth : Method} {c : Code} {Q : State → Prop} {D : va_G} {κ : Nat → ClassId} {b : Nat} {H0 : Heap} {rr : Sg} (hZ : sg_Z p c s m args D κ cX6_addNumber 4 RX6 wsX6_addNumber) (hret : ∀ (u : Sg) (H : Heap) (locs : List Loc) (pc : Nat) (ls : Array Slot), some u = some rr → CW D κ b u H → va_S (sg_A b 892) H0 H locs → decode cX6_addNumber pc = .ok (.return_, 1) → W p l e rm_X6_addNumber s m args below meth c H locs 0 0 Q (F0 m pc ls [])) : ∀ n : Nat, ∀ {σ : Sg} {x1 : Int32} {x3 : Int32} {H : Heap} {locs : List Loc} {ls : Array Slot}, fn_X6_addNumber_B4 b n σ x1 x3 = some rr → lv_has ls 4 [(0, .ref (b + 2)), (1, .int x1), (3, .int x3)] → CW D κ b σ H → va_S (sg_A b 892) H0 H locs → W p l e rm_X6_addNumber s m args below meth c H locs 0 0 Q (F0 m 4 ls []) := by
  intro n
  induction n with
  | zero => intro σ x1 x3 H locs ls h hl hC hS; cases (show (none : Option (Sg)) = some rr from h)
  | succ n ih =>
    intro σ x1 x3 H locs ls h hl hC hS
    exact w_X6_addNumber_B4b hZ hret ih (show fn_X6_addNumber_B4b b (fn_X6_addNumber_B4 b n) σ x1 x3 = some rr from h)  hl hC hS
def fn_X6_addNumber (b : Nat) (σ : Sg) (x1 : Int32) (x2 : Int32) : Option (Sg) :=
  (sg_lt ((x2 - 1) : Int32) fun v1 =>
  fn_X6_addNumber_B4 b sg_N σ x1 v1)
set_option maxHeartbeats 4000000 in
set_option maxRecDepth 100000 in
theorem w_X6_addNumber_B0 {p : Program} {l : Launch} {e : Env} {s : State} {m : MethodId} {args : Array Value} {below : List Frame} {meth : Method} {c : Code} {Q : State → Prop} {D : va_G} {κ : Nat → ClassId} {b : Nat} {H0 : Heap} {rr : Sg} (hZ : sg_Z p c s m args D κ cX6_addNumber 4 RX6 wsX6_addNumber) (hret : ∀ (u : Sg) (H : Heap) (locs : List Loc) (pc : Nat) (ls : Array Slot), some u = some rr → CW D κ b u H → va_S (sg_A b 892) H0 H locs → decode cX6_addNumber pc = .ok (.return_, 1) → W p l e rm_X6_addNumber s m args below meth c H locs 0 0 Q (F0 m pc ls [])) : ∀ {σ : Sg} {x1 : Int32} {x2 : Int32} {H : Heap} {locs : List Loc} {ls : Array Slot}, fn_X6_addNumber b σ x1 x2 = some rr → lv_has ls 4 [(0, .ref (b + 2)), (1, .int x1), (2, .int x2)] → CW D κ b σ H → va_S (sg_A b 892) H0 H locs → W p l e rm_X6_addNumber s m args below meth c H locs 0 0 Q (F0 m 0 ls []) := by
  obtain ⟨hx, hb, hml, hown, hts, hK⟩ := hZ
  intro σ x1 x2 H locs ls h hl hC hS
  unfold fn_X6_addNumber at h
  refine lv_iload_n hx hb dX6_addNumber_0 rfl (lv_at hl 2 rfl) ?_
  refine lv_iconst (v := 1) hx hb dX6_addNumber_1 (by decide) ?_
  refine lv_isub hx hb dX6_addNumber_2 ?_
  obtain ⟨v1, ev1, h⟩ := sg_lte h
  refine sg_topi ev1 ?_
  refine lv_istore_n (lv' := [(3, .int v1), (0, .ref (b + 2)), (1, .int x1), (2, .int x2)]) hx hb dX6_addNumber_3 rfl hl (by decide) rfl (fun ls hl => ?_)
  exact w_X6_addNumber_B4 ⟨hx, hb, hml, hown, hts, hK⟩ hret  sg_N h (lv_sub hl [1, 2, 0] rfl) hC hS
set_option maxHeartbeats 4000000 in
set_option maxRecDepth 100000 in
theorem c_X6_addNumber (l : Launch) (D : va_G) (κ : Nat → ClassId) (b : Nat) (σ : Sg) (x1 : Int32) (x2 : Int32) (rr : Sg)  (h : fn_X6_addNumber b σ x1 x2 = some rr) : Met l yX6_addNumber wsX6_addNumber rm_X6_addNumber (va_Pc [.ref (b + 2), .int x1, .int x2] (fun U => KK D κ U ∧ CW D κ b σ U.heap)) (va_Qv (fun u : Sg => u = rr) (fun u t => CW D κ b u t.heap) (sg_A b 892)) 0 0 (sg_A b 892) := by
  refine Met.ofW (cc := cX6_addNumber) (maxL := 4) (ret := none) (by decide) rfl ?_
  intro p e s m args below meth c s₁ B hml hv
  obtain ⟨rfl, hK, hC⟩ := hv
  have hr := B.returns
  have hlocks := B.notSynchronized
  have hl := lv_entry ([.ref (b + 2), .int x1, .int x2]) (n := 4) (Nat.le_of_ble_eq_true rfl)
  rw [lg_entry_eq]
  generalize (lg_sl ([.ref (b + 2), .int x1, .int x2]) ++ List.replicate (4 - (lg_sl ([.ref (b + 2), .int x1, .int x2])).length) Slot.unset).toArray = ls at hl ⊢
  have hl : lv_has ls 4 [(0, .ref (b + 2)), (1, .int x1), (2, .int x2)] := hl
  exact w_X6_addNumber_B0 ⟨B.exec, B.bytes, hml, findClass_of_methodNamed B.named, atoms_spec (ws := wsX6_addNumber) B.pre, hK⟩ (fun u H locs pc ls hq hC hS hd => W.vret B.exec B.bytes hr (fun t ht hW => ⟨⟨_, rfl, Option.some.inj hq, CW_e ht hC⟩, hS.F ht⟩) hS.2.2 hd) h  hl hC va_S.rf

-- RecordShelf$Text.codeAt(I)I
theorem dX6_codeAt_0 : decode cX6_codeAt 0 = .ok (.iload_n 1, 1) := by decide +kernel
theorem dX6_codeAt_1 : decode cX6_codeAt 1 = .ok (.ifCond .lt 20, 3) := by decide +kernel
theorem dX6_codeAt_4 : decode cX6_codeAt 4 = .ok (.iload_n 1, 1) := by decide +kernel
theorem dX6_codeAt_5 : decode cX6_codeAt 5 = .ok (.aload_n 0, 1) := by decide +kernel
theorem dX6_codeAt_6 : decode cX6_codeAt 6 = .ok (.getfield 15, 3) := by decide +kernel
theorem dX6_codeAt_9 : decode cX6_codeAt 9 = .ok (.if_icmp .ge 12, 3) := by decide +kernel
theorem dX6_codeAt_12 : decode cX6_codeAt 12 = .ok (.aload_n 0, 1) := by decide +kernel
theorem dX6_codeAt_13 : decode cX6_codeAt 13 = .ok (.getfield 9, 3) := by decide +kernel
theorem dX6_codeAt_16 : decode cX6_codeAt 16 = .ok (.iload_n 1, 1) := by decide +kernel
theorem dX6_codeAt_17 : decode cX6_codeAt 17 = .ok (.caload, 1) := by decide +kernel
theorem dX6_codeAt_18 : decode cX6_codeAt 18 = .ok (.goto 4, 3) := by decide +kernel
theorem dX6_codeAt_21 : decode cX6_codeAt 21 = .ok (.iconst (-1), 1) := by decide +kernel
theorem dX6_codeAt_22 : decode cX6_codeAt 22 = .ok (.ireturn, 1) := by decide +kernel
def rm_X6_codeAt : Room := { frames := 0, cells := 0, slots := 0, locals := 0 }
def fn_X6_codeAt (b : Nat) (σ : Sg) (x1 : Int32) : Option (Int32) :=
  (if x1 < 0 then
  some (-1)
  else (if ((σ.1 (b + 2) 1) : Int32) ≤ x1 then
  some (-1)
  else (if sg_ib x1 600 then
  some (σ.1 (b + 3) (sg_x x1))
  else none)))
set_option maxHeartbeats 4000000 in
set_option maxRecDepth 100000 in
theorem w_X6_codeAt_B0 {p : Program} {l : Launch} {e : Env} {s : State} {m : MethodId} {args : Array Value} {below : List Frame} {meth : Method} {c : Code} {Q : State → Prop} {D : va_G} {κ : Nat → ClassId} {b : Nat} {H0 : Heap} {rr : Int32} {σ : Sg} (hZ : sg_Z p c s m args D κ cX6_codeAt 2 RX6 wsX6_codeAt) (hret : ∀ (v : Int32) (H : Heap) (locs : List Loc) (pc : Nat) (ls : Array Slot), some v = some rr → CW D κ b σ H → va_S (sg_A b 892) H0 H locs → decode cX6_codeAt pc = .ok (.ireturn, 1) → W p l e rm_X6_codeAt s m args below meth c H locs 0 0 Q (F0 m pc ls [.int v])) : ∀ {x1 : Int32} {H : Heap} {locs : List Loc} {ls : Array Slot}, fn_X6_codeAt b σ x1 = some rr → lv_has ls 2 [(0, .ref (b + 2)), (1, .int x1)] → CW D κ b σ H → va_S (sg_A b 892) H0 H locs → W p l e rm_X6_codeAt s m args below meth c H locs 0 0 Q (F0 m 0 ls []) := by
  obtain ⟨hx, hb, hml, hown, hts, hK⟩ := hZ
  intro x1 H locs ls h hl hC hS
  unfold fn_X6_codeAt at h
  refine lv_iload_n hx hb dX6_codeAt_0 rfl (lv_at hl 1 rfl) ?_
  refine lv_if_lt (tgt := 21) hx hb dX6_codeAt_1 (by decide) (fun hc => ?_) (fun hc => ?_)
  · replace h := (if_pos hc).symm.trans h
    refine lv_iconst (v := (-1)) hx hb dX6_codeAt_21 (by decide) ?_
    exact hret _ _ _ _ _ h hC hS dX6_codeAt_22
  · replace h := (if_neg hc).symm.trans h
    refine lv_iload_n hx hb dX6_codeAt_4 rfl (lv_at hl 1 rfl) ?_
    refine lv_aload_n hx hb dX6_codeAt_5 rfl (lv_at hl 0 rfl) ?_
    refine va_get (D := D) (ci := 6) (v := .int (σ.1 (b + 2) 1)) (C := RX6) (T := TX6) (N := 2) hx hb hts (wqs inW_X6) hown hK.1 hC.1 ((b + 2) - b) sg_gText rfl 1 (by decide) (hts _ (wq wt_38)) (fun _ h9 => h9) rfl dX6_codeAt_6 ?_
    refine lv_icmp_ge (tgt := 21) hx hb dX6_codeAt_9 (by decide) (fun hc => ?_) (fun hc => ?_)
    · replace h := (if_pos hc).symm.trans h
      refine lv_iconst (v := (-1)) hx hb dX6_codeAt_21 (by decide) ?_
      exact hret _ _ _ _ _ h hC hS dX6_codeAt_22
    · replace h := (if_neg hc).symm.trans h
      refine lv_aload_n hx hb dX6_codeAt_12 rfl (lv_at hl 0 rfl) ?_
      refine va_get (D := D) (ci := 6) (v := .ref (b + 3)) (C := RX6) (T := TX6) (N := 2) hx hb hts (wqs inW_X6) hown hK.1 hC.1 ((b + 2) - b) sg_gText rfl 0 (by decide) (hts _ (wq wt_36)) (fun _ h9 => h9) rfl dX6_codeAt_13 ?_
      refine lv_iload_n hx hb dX6_codeAt_16 rfl (lv_at hl 1 rfl) ?_
      obtain ⟨hg, h⟩ := sg_gd h
      refine va_cald hx hb hK.1 hC.1 ((b + 3) - b) 1 sg_gtsigns rfl (sg_in hg) dX6_codeAt_17 ?_
      refine lv_goto (tgt := 22) hx hb dX6_codeAt_18 (by decide) ?_
      exact hret _ _ _ _ _ h hC hS dX6_codeAt_22
set_option maxHeartbeats 4000000 in
set_option maxRecDepth 100000 in
theorem c_X6_codeAt (l : Launch) (D : va_G) (κ : Nat → ClassId) (b : Nat) (σ : Sg) (x1 : Int32) (rr : Int32)  (h : fn_X6_codeAt b σ x1 = some rr) : Met l yX6_codeAt wsX6_codeAt rm_X6_codeAt (va_Pc [.ref (b + 2), .int x1] (fun U => KK D κ U ∧ CW D κ b σ U.heap)) (va_Qi (fun (r : Int32) (u : Sg) => r = rr ∧ u = σ) (fun u t => CW D κ b u t.heap) (sg_A b 892)) 0 0 (sg_A b 892) := by
  refine Met.ofW (cc := cX6_codeAt) (maxL := 2) (ret := (some .int)) (by decide) rfl ?_
  intro p e s m args below meth c s₁ B hml hv
  obtain ⟨rfl, hK, hC⟩ := hv
  have hr := B.returns
  have hlocks := B.notSynchronized
  have hl := lv_entry ([.ref (b + 2), .int x1]) (n := 2) (Nat.le_of_ble_eq_true rfl)
  rw [lg_entry_eq]
  generalize (lg_sl ([.ref (b + 2), .int x1]) ++ List.replicate (2 - (lg_sl ([.ref (b + 2), .int x1])).length) Slot.unset).toArray = ls at hl ⊢
  have hl : lv_has ls 2 [(0, .ref (b + 2)), (1, .int x1)] := hl
  exact w_X6_codeAt_B0 ⟨B.exec, B.bytes, hml, findClass_of_methodNamed B.named, atoms_spec (ws := wsX6_codeAt) B.pre, hK⟩ (fun v H locs pc ls hq hC hS hd => W.iret B.exec B.bytes hr (fun t ht hW => ⟨⟨v, _, rfl, ⟨Option.some.inj hq, rfl⟩, CW_e ht hC⟩, hS.F ht⟩) hS.2.2 hd) h  hl hC va_S.rf

-- RecordShelf$Text.keep(I)V
theorem dX6_keep_0 : decode cX6_keep 0 = .ok (.aload_n 0, 1) := by decide +kernel
theorem dX6_keep_1 : decode cX6_keep 1 = .ok (.iconst 0, 1) := by decide +kernel
theorem dX6_keep_2 : decode cX6_keep 2 = .ok (.iload_n 1, 1) := by decide +kernel
theorem dX6_keep_3 : decode cX6_keep 3 = .ok (.aload_n 0, 1) := by decide +kernel
theorem dX6_keep_4 : decode cX6_keep 4 = .ok (.getfield 15, 3) := by decide +kernel
theorem dX6_keep_7 : decode cX6_keep 7 = .ok (.invokestatic 19, 3) := by decide +kernel
theorem dX6_keep_10 : decode cX6_keep 10 = .ok (.invokestatic 25, 3) := by decide +kernel
theorem dX6_keep_13 : decode cX6_keep 13 = .ok (.putfield 15, 3) := by decide +kernel
theorem dX6_keep_16 : decode cX6_keep 16 = .ok (.return_, 1) := by decide +kernel
def rm_X6_keep : Room := { frames := 1, cells := 0, slots := 0, locals := 21 }
def fn_X6_keep (b : Nat) (σ : Sg) (x1 : Int32) : Option (Sg) :=
  (sg_lt (sg_w σ (b + 2) 1 (if 0 < (if (σ.1 (b + 2) 1) < x1 then (σ.1 (b + 2) 1) else x1) then (if (σ.1 (b + 2) 1) < x1 then (σ.1 (b + 2) 1) else x1) else 0)) fun σ1 =>
  some σ1)
set_option maxHeartbeats 4000000 in
set_option maxRecDepth 100000 in
theorem w_X6_keep_B0 {p : Program} {l : Launch} {e : Env} {s : State} {m : MethodId} {args : Array Value} {below : List Frame} {meth : Method} {c : Code} {Q : State → Prop} {D : va_G} {κ : Nat → ClassId} {b : Nat} {H0 : Heap} {rr : Sg} (hZ : sg_Z p c s m args D κ cX6_keep 2 RX6 wsX6_keep) (hret : ∀ (u : Sg) (H : Heap) (locs : List Loc) (pc : Nat) (ls : Array Slot), some u = some rr → CW D κ b u H → va_S (sg_A b 892) H0 H locs → decode cX6_keep pc = .ok (.return_, 1) → W p l e rm_X6_keep s m args below meth c H locs 0 0 Q (F0 m pc ls [])) : ∀ {σ : Sg} {x1 : Int32} {H : Heap} {locs : List Loc} {ls : Array Slot}, fn_X6_keep b σ x1 = some rr → lv_has ls 2 [(0, .ref (b + 2)), (1, .int x1)] → CW D κ b σ H → va_S (sg_A b 892) H0 H locs → W p l e rm_X6_keep s m args below meth c H locs 0 0 Q (F0 m 0 ls []) := by
  obtain ⟨hx, hb, hml, hown, hts, hK⟩ := hZ
  intro σ x1 H locs ls h hl hC hS
  unfold fn_X6_keep at h
  refine lv_aload_n hx hb dX6_keep_0 rfl (lv_at hl 0 rfl) ?_
  refine lv_iconst (v := 0) hx hb dX6_keep_1 (by decide) ?_
  refine lv_iload_n hx hb dX6_keep_2 rfl (lv_at hl 1 rfl) ?_
  refine lv_aload_n hx hb dX6_keep_3 rfl (lv_at hl 0 rfl) ?_
  refine va_get (D := D) (ci := 6) (v := .int (σ.1 (b + 2) 1)) (C := RX6) (T := TX6) (N := 2) hx hb hts (wqs inW_X6) hown hK.1 hC.1 ((b + 2) - b) sg_gText rfl 1 (by decide) (hts _ (wq wt_38)) (fun _ h9 => h9) rfl dX6_keep_4 ?_
  refine va_mmin hx hb (hml.trans hl.1.symm) hown (hts _ (wq wt_233)) (hts _ (wq wt_234)) (hts _ (wq wt_10)) (hts _ (wq wt_235)) (Nat.le_of_ble_eq_true rfl) (Nat.le_of_ble_eq_true rfl) (Nat.zero_le _) (Nat.zero_le _) dX6_keep_7 ?_
  refine va_mmax hx hb (hml.trans hl.1.symm) hown (hts _ (wq wt_236)) (hts _ (wq wt_237)) (hts _ (wq wt_10)) (hts _ (wq wt_238)) (Nat.le_of_ble_eq_true rfl) (Nat.le_of_ble_eq_true rfl) (Nat.zero_le _) (Nat.zero_le _) dX6_keep_10 ?_
  refine va_put (D := D) (ci := 6) (v := .int (if 0 < (if (σ.1 (b + 2) 1) < x1 then (σ.1 (b + 2) 1) else x1) then (if (σ.1 (b + 2) 1) < x1 then (σ.1 (b + 2) 1) else x1) else 0)) (ty := .int) (C := RX6) (T := TX6) (N := 2) hx hb hts (wqs inW_X6) tyX6 tyX6_ok nmX6 hown hK.1 hC.1 sg_D hS ((b + 2) - b) sg_gText rfl 1 (by decide) (hts _ (wq wt_38)) (fun _ h9 => h9) rfl (by decide +kernel) rfl rfl (Nat.le_of_ble_eq_true rfl) dX6_keep_13 (fun H locs hP _ hS => ?_)
  obtain ⟨σ1, eσ1, h⟩ := sg_lte h
  have hC : CW D κ b σ1 H := eσ1 ▸ CW_put (k := 1) (v := (if 0 < (if (σ.1 (b + 2) 1) < x1 then (σ.1 (b + 2) 1) else x1) then (if (σ.1 (b + 2) 1) < x1 then (σ.1 (b + 2) 1) else x1) else 0)) hC sg_aText (sg_yText _ _) hP
  exact hret _ _ _ _ _ h hC hS dX6_keep_16
set_option maxHeartbeats 4000000 in
set_option maxRecDepth 100000 in
theorem c_X6_keep (l : Launch) (D : va_G) (κ : Nat → ClassId) (b : Nat) (σ : Sg) (x1 : Int32) (rr : Sg)  (h : fn_X6_keep b σ x1 = some rr) : Met l yX6_keep wsX6_keep rm_X6_keep (va_Pc [.ref (b + 2), .int x1] (fun U => KK D κ U ∧ CW D κ b σ U.heap)) (va_Qv (fun u : Sg => u = rr) (fun u t => CW D κ b u t.heap) (sg_A b 892)) 0 0 (sg_A b 892) := by
  refine Met.ofW (cc := cX6_keep) (maxL := 2) (ret := none) (by decide) rfl ?_
  intro p e s m args below meth c s₁ B hml hv
  obtain ⟨rfl, hK, hC⟩ := hv
  have hr := B.returns
  have hlocks := B.notSynchronized
  have hl := lv_entry ([.ref (b + 2), .int x1]) (n := 2) (Nat.le_of_ble_eq_true rfl)
  rw [lg_entry_eq]
  generalize (lg_sl ([.ref (b + 2), .int x1]) ++ List.replicate (2 - (lg_sl ([.ref (b + 2), .int x1])).length) Slot.unset).toArray = ls at hl ⊢
  have hl : lv_has ls 2 [(0, .ref (b + 2)), (1, .int x1)] := hl
  exact w_X6_keep_B0 ⟨B.exec, B.bytes, hml, findClass_of_methodNamed B.named, atoms_spec (ws := wsX6_keep) B.pre, hK⟩ (fun u H locs pc ls hq hC hS hd => W.vret B.exec B.bytes hr (fun t ht hW => ⟨⟨_, rfl, Option.some.inj hq, CW_e ht hC⟩, hS.F ht⟩) hS.2.2 hd) h  hl hC va_S.rf
