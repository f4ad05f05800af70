-- RecordShelf$Reader.forgetFault()V
theorem dX4_forgetFault_0 : decode cX4_forgetFault 0 = .ok (.aload_n 0, 1) := by decide +kernel
theorem dX4_forgetFault_1 : decode cX4_forgetFault 1 = .ok (.iconst (-1), 1) := by decide +kernel
theorem dX4_forgetFault_2 : decode cX4_forgetFault 2 = .ok (.putfield 22, 3) := by decide +kernel
theorem dX4_forgetFault_5 : decode cX4_forgetFault 5 = .ok (.aload_n 0, 1) := by decide +kernel
theorem dX4_forgetFault_6 : decode cX4_forgetFault 6 = .ok (.iconst (-1), 1) := by decide +kernel
theorem dX4_forgetFault_7 : decode cX4_forgetFault 7 = .ok (.putfield 26, 3) := by decide +kernel
theorem dX4_forgetFault_10 : decode cX4_forgetFault 10 = .ok (.return_, 1) := by decide +kernel
def rm_X4_forgetFault : Room := { frames := 0, cells := 0, slots := 0, locals := 0 }
def fn_X4_forgetFault (b : Nat) (σ : Sg) : Option (Sg) :=
  (sg_lt (sg_w σ (b + 1) 6 (-1)) fun σ1 =>
  (sg_lt (sg_w σ1 (b + 1) 7 (-1)) fun σ2 =>
  some σ2))
set_option maxHeartbeats 4000000 in
set_option maxRecDepth 100000 in
theorem w_X4_forgetFault_B0 {p : Program} {l : Launch} {e : Env} {s : State} {m : MethodId} {args : Array Value} {below : List Frame} {meth : Method} {c : Code} {Q : State → Prop} {D : va_G} {κ : Nat → ClassId} {b : Nat} {H0 : Heap} {rr : Sg} (hZ : sg_Z p c s m args D κ cX4_forgetFault 1 RX4 wsX4_forgetFault) (hret : ∀ (u : Sg) (H : Heap) (locs : List Loc) (pc : Nat) (ls : Array Slot), some u = some rr → CW D κ b u H → va_S (sg_A b 892) H0 H locs → decode cX4_forgetFault pc = .ok (.return_, 1) → W p l e rm_X4_forgetFault s m args below meth c H locs 0 0 Q (F0 m pc ls [])) : ∀ {σ : Sg} {H : Heap} {locs : List Loc} {ls : Array Slot}, fn_X4_forgetFault b σ = some rr → lv_has ls 1 [(0, .ref (b + 1))] → CW D κ b σ H → va_S (sg_A b 892) H0 H locs → W p l e rm_X4_forgetFault s m args below meth c H locs 0 0 Q (F0 m 0 ls []) := by
  obtain ⟨hx, hb, hml, hown, hts, hK⟩ := hZ
  intro σ H locs ls h hl hC hS
  unfold fn_X4_forgetFault at h
  refine lv_aload_n hx hb dX4_forgetFault_0 rfl (lv_at hl 0 rfl) ?_
  refine lv_iconst (v := (-1)) hx hb dX4_forgetFault_1 (by decide) ?_
  refine va_put (D := D) (ci := 4) (v := .int (-1)) (ty := .int) (C := RX4) (T := TX4) (N := 8) hx hb hts (wqs inW_X4) tyX4 tyX4_ok nmX4 hown hK.1 hC.1 sg_D hS ((b + 1) - b) sg_gReader rfl 6 (by decide) (hts _ (wq wt_54)) (fun _ h9 => h9) rfl (by decide +kernel) rfl rfl (Nat.le_of_ble_eq_true rfl) dX4_forgetFault_2 (fun H locs hP _ hS => ?_)
  obtain ⟨σ1, eσ1, h⟩ := sg_lte h
  have hC : CW D κ b σ1 H := eσ1 ▸ CW_put (k := 6) (v := (-1)) hC sg_aReader (sg_yReader _ _) hP
  refine lv_aload_n hx hb dX4_forgetFault_5 rfl (lv_at hl 0 rfl) ?_
  refine lv_iconst (v := (-1)) hx hb dX4_forgetFault_6 (by decide) ?_
  refine va_put (D := D) (ci := 4) (v := .int (-1)) (ty := .int) (C := RX4) (T := TX4) (N := 8) hx hb hts (wqs inW_X4) tyX4 tyX4_ok nmX4 hown hK.1 hC.1 sg_D hS ((b + 1) - b) sg_gReader rfl 7 (by decide) (hts _ (wq wt_56)) (fun _ h9 => h9) rfl (by decide +kernel) rfl rfl (Nat.le_of_ble_eq_true rfl) dX4_forgetFault_7 (fun H locs hP _ hS => ?_)
  obtain ⟨σ2, eσ2, h⟩ := sg_lte h
  have hC : CW D κ b σ2 H := eσ2 ▸ CW_put (k := 7) (v := (-1)) hC sg_aReader (sg_yReader _ _) hP
  exact hret _ _ _ _ _ h hC hS dX4_forgetFault_10
set_option maxHeartbeats 4000000 in
set_option maxRecDepth 100000 in
theorem c_X4_forgetFault (l : Launch) (D : va_G) (κ : Nat → ClassId) (b : Nat) (σ : Sg)  (rr : Sg)  (h : fn_X4_forgetFault b σ = some rr) : Met l yX4_forgetFault wsX4_forgetFault rm_X4_forgetFault (va_Pc [.ref (b + 1)] (fun U => KK D κ U ∧ CW D κ b σ U.heap)) (va_Qv (fun u : Sg => u = rr) (fun u t => CW D κ b u t.heap) (sg_A b 892)) 0 0 (sg_A b 892) := by
  refine Met.ofW (cc := cX4_forgetFault) (maxL := 1) (ret := none) (by decide) rfl ?_
  intro p e s m args below meth c s₁ B hml hv
  obtain ⟨rfl, hK, hC⟩ := hv
  have hr := B.returns
  have hlocks := B.notSynchronized
  have hl := lv_entry ([.ref (b + 1)]) (n := 1) (Nat.le_of_ble_eq_true rfl)
  rw [lg_entry_eq]
  generalize (lg_sl ([.ref (b + 1)]) ++ List.replicate (1 - (lg_sl ([.ref (b + 1)])).length) Slot.unset).toArray = ls at hl ⊢
  have hl : lv_has ls 1 [(0, .ref (b + 1))] := hl
  exact w_X4_forgetFault_B0 ⟨B.exec, B.bytes, hml, findClass_of_methodNamed B.named, atoms_spec (ws := wsX4_forgetFault) B.pre, hK⟩ (fun u H locs pc ls hq hC hS hd => W.vret B.exec B.bytes hr (fun t ht hW => ⟨⟨_, rfl, Option.some.inj hq, CW_e ht hC⟩, hS.F ht⟩) hS.2.2 hd) h  hl hC va_S.rf

-- RecordShelf$Reader.meet(II)Z
theorem dX4_meet_0 : decode cX4_meet 0 = .ok (.aload_n 0, 1) := by decide +kernel
theorem dX4_meet_1 : decode cX4_meet 1 = .ok (.iload_n 1, 1) := by decide +kernel
theorem dX4_meet_2 : decode cX4_meet 2 = .ok (.putfield 22, 3) := by decide +kernel
theorem dX4_meet_5 : decode cX4_meet 5 = .ok (.aload_n 0, 1) := by decide +kernel
theorem dX4_meet_6 : decode cX4_meet 6 = .ok (.iload_n 2, 1) := by decide +kernel
theorem dX4_meet_7 : decode cX4_meet 7 = .ok (.putfield 26, 3) := by decide +kernel
theorem dX4_meet_10 : decode cX4_meet 10 = .ok (.iconst 0, 1) := by decide +kernel
theorem dX4_meet_11 : decode cX4_meet 11 = .ok (.ireturn, 1) := by decide +kernel
def rm_X4_meet : Room := { frames := 0, cells := 0, slots := 0, locals := 0 }
def fn_X4_meet (b : Nat) (σ : Sg) (x1 : Int32) (x2 : Int32) : Option (Int32 × Sg) :=
  (sg_lt (sg_w σ (b + 1) 6 x1) fun σ1 =>
  (sg_lt (sg_w σ1 (b + 1) 7 x2) fun σ2 =>
  some (0, σ2)))
set_option maxHeartbeats 4000000 in
set_option maxRecDepth 100000 in
theorem w_X4_meet_B0 {p : Program} {l : Launch} {e : Env} {s : State} {m : MethodId} {args : Array Value} {below : List Frame} {meth : Method} {c : Code} {Q : State → Prop} {D : va_G} {κ : Nat → ClassId} {b : Nat} {H0 : Heap} {rr : Int32 × Sg} (hZ : sg_Z p c s m args D κ cX4_meet 3 RX4 wsX4_meet) (hret : ∀ (v : Int32) (u : Sg) (H : Heap) (locs : List Loc) (pc : Nat) (ls : Array Slot), some (v, u) = some rr → narrow .boolean (.int v) = .int v → CW D κ b u H → va_S (sg_A b 892) H0 H locs → decode cX4_meet pc = .ok (.ireturn, 1) → W p l e rm_X4_meet s m args below meth c H locs 0 0 Q (F0 m pc ls [.int v])) : ∀ {σ : Sg} {x1 : Int32} {x2 : Int32} {H : Heap} {locs : List Loc} {ls : Array Slot}, fn_X4_meet b σ x1 x2 = some rr → lv_has ls 3 [(0, .ref (b + 1)), (1, .int x1), (2, .int x2)] → CW D κ b σ H → va_S (sg_A b 892) H0 H locs → W p l e rm_X4_meet s m args below meth c H locs 0 0 Q (F0 m 0 ls []) := by
  obtain ⟨hx, hb, hml, hown, hts, hK⟩ := hZ
  intro σ x1 x2 H locs ls h hl hC hS
  unfold fn_X4_meet at h
  refine lv_aload_n hx hb dX4_meet_0 rfl (lv_at hl 0 rfl) ?_
  refine lv_iload_n hx hb dX4_meet_1 rfl (lv_at hl 1 rfl) ?_
  refine va_put (D := D) (ci := 4) (v := .int x1) (ty := .int) (C := RX4) (T := TX4) (N := 8) hx hb hts (wqs inW_X4) tyX4 tyX4_ok nmX4 hown hK.1 hC.1 sg_D hS ((b + 1) - b) sg_gReader rfl 6 (by decide) (hts _ (wq wt_54)) (fun _ h9 => h9) rfl (by decide +kernel) rfl rfl (Nat.le_of_ble_eq_true rfl) dX4_meet_2 (fun H locs hP _ hS => ?_)
  obtain ⟨σ1, eσ1, h⟩ := sg_lte h
  have hC : CW D κ b σ1 H := eσ1 ▸ CW_put (k := 6) (v := x1) hC sg_aReader (sg_yReader _ _) hP
  refine lv_aload_n hx hb dX4_meet_5 rfl (lv_at hl 0 rfl) ?_
  refine lv_iload_n hx hb dX4_meet_6 rfl (lv_at hl 2 rfl) ?_
  refine va_put (D := D) (ci := 4) (v := .int x2) (ty := .int) (C := RX4) (T := TX4) (N := 8) hx hb hts (wqs inW_X4) tyX4 tyX4_ok nmX4 hown hK.1 hC.1 sg_D hS ((b + 1) - b) sg_gReader rfl 7 (by decide) (hts _ (wq wt_56)) (fun _ h9 => h9) rfl (by decide +kernel) rfl rfl (Nat.le_of_ble_eq_true rfl) dX4_meet_7 (fun H locs hP _ hS => ?_)
  obtain ⟨σ2, eσ2, h⟩ := sg_lte h
  have hC : CW D κ b σ2 H := eσ2 ▸ CW_put (k := 7) (v := x2) hC sg_aReader (sg_yReader _ _) hP
  refine lv_iconst (v := 0) hx hb dX4_meet_10 (by decide) ?_
  exact hret _ _ _ _ _ _ h (by decide) hC hS dX4_meet_11
set_option maxHeartbeats 4000000 in
set_option maxRecDepth 100000 in
theorem c_X4_meet (l : Launch) (D : va_G) (κ : Nat → ClassId) (b : Nat) (σ : Sg) (x1 : Int32) (x2 : Int32) (rr : Int32 × Sg)  (h : fn_X4_meet b σ x1 x2 = some rr) : Met l yX4_meet wsX4_meet rm_X4_meet (va_Pc [.ref (b + 1), .int x1, .int x2] (fun U => KK D κ U ∧ CW D κ b σ U.heap)) (va_Qi (fun (r : Int32) (u : Sg) => r = rr.1 ∧ u = rr.2) (fun u t => CW D κ b u t.heap) (sg_A b 892)) 0 0 (sg_A b 892) := by
  refine Met.ofW (cc := cX4_meet) (maxL := 3) (ret := (some .boolean)) (by decide) rfl ?_
  intro p e s m args below meth c s₁ B hml hv
  obtain ⟨rfl, hK, hC⟩ := hv
  have hr := B.returns
  have hlocks := B.notSynchronized
  have hl := lv_entry ([.ref (b + 1), .int x1, .int x2]) (n := 3) (Nat.le_of_ble_eq_true rfl)
  rw [lg_entry_eq]
  generalize (lg_sl ([.ref (b + 1), .int x1, .int x2]) ++ List.replicate (3 - (lg_sl ([.ref (b + 1), .int x1, .int x2])).length) Slot.unset).toArray = ls at hl ⊢
  have hl : lv_has ls 3 [(0, .ref (b + 1)), (1, .int x1), (2, .int x2)] := hl
  exact w_X4_meet_B0 ⟨B.exec, B.bytes, hml, findClass_of_methodNamed B.named, atoms_spec (ws := wsX4_meet) B.pre, hK⟩ (fun v u H locs pc ls hq hbo hC hS hd => W.zret B.exec B.bytes hr hbo (fun t ht hW => ⟨⟨v, _, rfl, ⟨congrArg Prod.fst (Option.some.inj hq), congrArg Prod.snd (Option.some.inj hq)⟩, CW_e ht hC⟩, hS.F ht⟩) hS.2.2 hd) h  hl hC va_S.rf

-- RecordShelf$Reader.expectNumber(IIII)Z
theorem dX4_expectNumber_0 : decode cX4_expectNumber 0 = .ok (.iconst 0, 1) := by decide +kernel
theorem dX4_expectNumber_1 : decode cX4_expectNumber 1 = .ok (.istore 5, 2) := by decide +kernel
theorem dX4_expectNumber_3 : decode cX4_expectNumber 3 = .ok (.iload 5, 2) := by decide +kernel
theorem dX4_expectNumber_5 : decode cX4_expectNumber 5 = .ok (.iload_n 3, 1) := by decide +kernel
theorem dX4_expectNumber_6 : decode cX4_expectNumber 6 = .ok (.if_icmp .ge 44, 3) := by decide +kernel
theorem dX4_expectNumber_9 : decode cX4_expectNumber 9 = .ok (.aload_n 0, 1) := by decide +kernel
theorem dX4_expectNumber_10 : decode cX4_expectNumber 10 = .ok (.getfield 12, 3) := by decide +kernel
theorem dX4_expectNumber_13 : decode cX4_expectNumber 13 = .ok (.iload_n 2, 1) := by decide +kernel
theorem dX4_expectNumber_14 : decode cX4_expectNumber 14 = .ok (.iload 5, 2) := by decide +kernel
theorem dX4_expectNumber_16 : decode cX4_expectNumber 16 = .ok (.iadd, 1) := by decide +kernel
theorem dX4_expectNumber_17 : decode cX4_expectNumber 17 = .ok (.invokevirtual 65, 3) := by decide +kernel
theorem dX4_expectNumber_20 : decode cX4_expectNumber 20 = .ok (.iload_n 3, 1) := by decide +kernel
theorem dX4_expectNumber_21 : decode cX4_expectNumber 21 = .ok (.iconst 1, 1) := by decide +kernel
theorem dX4_expectNumber_22 : decode cX4_expectNumber 22 = .ok (.isub, 1) := by decide +kernel
theorem dX4_expectNumber_23 : decode cX4_expectNumber 23 = .ok (.iload 5, 2) := by decide +kernel
theorem dX4_expectNumber_25 : decode cX4_expectNumber 25 = .ok (.isub, 1) := by decide +kernel
theorem dX4_expectNumber_26 : decode cX4_expectNumber 26 = .ok (.iload_n 1, 1) := by decide +kernel
theorem dX4_expectNumber_27 : decode cX4_expectNumber 27 = .ok (.invokestatic 69, 3) := by decide +kernel
theorem dX4_expectNumber_30 : decode cX4_expectNumber 30 = .ok (.if_icmp .eq 14, 3) := by decide +kernel
theorem dX4_expectNumber_33 : decode cX4_expectNumber 33 = .ok (.aload_n 0, 1) := by decide +kernel
theorem dX4_expectNumber_34 : decode cX4_expectNumber 34 = .ok (.iload 4, 2) := by decide +kernel
theorem dX4_expectNumber_36 : decode cX4_expectNumber 36 = .ok (.iload_n 2, 1) := by decide +kernel
theorem dX4_expectNumber_37 : decode cX4_expectNumber 37 = .ok (.iload 5, 2) := by decide +kernel
theorem dX4_expectNumber_39 : decode cX4_expectNumber 39 = .ok (.iadd, 1) := by decide +kernel
theorem dX4_expectNumber_40 : decode cX4_expectNumber 40 = .ok (.invokevirtual 73, 3) := by decide +kernel
theorem dX4_expectNumber_43 : decode cX4_expectNumber 43 = .ok (.ireturn, 1) := by decide +kernel
theorem dX4_expectNumber_44 : decode cX4_expectNumber 44 = .ok (.iinc 5 1, 3) := by decide +kernel
theorem dX4_expectNumber_47 : decode cX4_expectNumber 47 = .ok (.goto (-44), 3) := by decide +kernel
theorem dX4_expectNumber_50 : decode cX4_expectNumber 50 = .ok (.iconst 1, 1) := by decide +kernel
theorem dX4_expectNumber_51 : decode cX4_expectNumber 51 = .ok (.ireturn, 1) := by decide +kernel
def rm_X4_expectNumber : Room := { frames := 1, cells := 0, slots := 0, locals := 23 }
def fn_X4_expectNumber_B3b (b : Nat) (z3 : Sg → Int32 → Int32 → Int32 → Int32 → Int32 → Option (Int32 × Sg)) (σ : Sg) (x1 : Int32) (x2 : Int32) (x3 : Int32) (x4 : Int32) (x5 : Int32) : Option (Int32 × Sg) :=
  (if (x3 : Int32) ≤ x5 then
  some (1, σ)
  else ((fn_X6_codeAt b σ (x2 + x5)).bind fun r1 =>
  ((fn_X7_digitBefore ((x3 - 1) - x5) x1).bind fun r2 =>
  (if r1 = r2 then
  (sg_lt (x5 + 1 : Int32) fun v3 =>
  z3 σ x1 x2 x3 x4 v3)
  else ((fn_X4_meet b σ x4 (x2 + x5)).bind fun r4 =>
  (if sg_bo r4.1 then some (r4.1, r4.2) else none))))))
def fn_X4_expectNumber_B3 (b : Nat) : Nat → Sg → Int32 → Int32 → Int32 → Int32 → Int32 → Option (Int32 × Sg)
  | 0 => fun _ _ _ _ _ _ => none
  | n + 1 => fun σ x1 x2 x3 x4 x5 => fn_X4_expectNumber_B3b b (fn_X4_expectNumber_B3 b n) σ x1 x2 x3 x4 x5
set_option maxHeartbeats 4000000 in
set_option maxRecDepth 100000 in
theorem w_X4_expectNumber_B3b {p : Program} {l : Launch} {e : Env} {s : State} {m : MethodId} {args : Array Value} {below : List Frame} {meth : Method} {c : Code} {Q : State → Prop} {D : va_G} {κ : Nat → ClassId} {b : Nat} {H0 : Heap} {rr : Int32 × Sg} (hZ : sg_Z p c s m args D κ cX4_expectNumber 6 RX4 wsX4_expectNumber) (hret : ∀ (v : Int32) (u : Sg) (H : Heap) (locs : List Loc) (pc : Nat) (ls : Array Slot), some (v, u) = some rr → narrow .boolean (.int v) = .int v → CW D κ b u H → va_S (sg_A b 892) H0 H locs → decode cX4_expectNumber pc = .ok (.ireturn, 1) → W p l e rm_X4_expectNumber s m args below meth c H locs 0 0 Q (F0 m pc ls [.int v])) {z3 : Sg → Int32 → Int32 → Int32 → Int32 → Int32 → Option (Int32 × Sg)} (hr3 : ∀ {σ : Sg} {x1 : Int32} {x2 : Int32} {x3 : Int32} {x4 : Int32} {x5 : Int32} {H : Heap} {locs : List Loc} {ls : Array Slot}, z3 σ x1 x2 x3 x4 x5 = some rr → lv_has ls 6 [(0, .ref (b + 1)), (1, .int x1), (2, .int x2), (3, .int x3), (4, .int x4), (5, .int x5)] → CW D κ b σ H → va_S (sg_A b 892) H0 H locs → W p l e rm_X4_expectNumber s m args below meth c H locs 0 0 Q (F0 m 3 ls [])) : ∀ {σ : Sg} {x1 : Int32} {x2 : Int32} {x3 : Int32} {x4 : Int32} {x5 : Int32} {H : Heap} {locs : List Loc} {ls : Array Slot}, fn_X4_expectNumber_B3b b z3 σ x1 x2 x3 x4 x5 = some rr → lv_has ls 6 [(0, .ref (b + 1)), (1, .int x1), (2, .int x2), (3, .int x3), (4, .int x4), (5, .int x5)] → CW D κ b σ H → va_S (sg_A b 892) H0 H locs → W p l e rm_X4_expectNumber s m args below meth c H locs 0 0 Q (F0 m 3 ls []) := by
  obtain ⟨hx, hb, hml, hown, hts, hK⟩ := hZ
  intro σ x1 x2 x3 x4 x5 H locs ls h hl hC hS
  unfold fn_X4_expectNumber_B3b at h
  refine lv_iload hx hb dX4_expectNumber_3 (lv_at hl 5 rfl) ?_
  refine lv_iload_n hx hb dX4_expectNumber_5 rfl (lv_at hl 3 rfl) ?_
  refine lv_icmp_ge (tgt := 50) hx hb dX4_expectNumber_6 (by decide) (fun hc => ?_) (fun hc => ?_)
  · replace h := (if_pos hc).symm.trans h
    refine lv_iconst (v := 1) hx hb dX4_expectNumber_50 (by decide) ?_
    exact hret _ _ _ _ _ _ h (by decide) hC hS dX4_expectNumber_51
  · replace h := (if_neg hc).symm.trans h
    refine lv_aload_n hx hb dX4_expectNumber_9 rfl (lv_at hl 0 rfl) ?_
    refine va_get (D := D) (ci := 4) (v := .ref (b + 2)) (C := RX4) (T := TX4) (N := 8) hx hb hts (wqs inW_X4) hown hK.1 hC.1 ((b + 1) - b) sg_gReader rfl 0 (by decide) (hts _ (wq wt_47)) (fun _ h9 => h9) rfl dX4_expectNumber_10 ?_
    refine lv_iload_n hx hb dX4_expectNumber_13 rfl (lv_at hl 2 rfl) ?_
    refine lv_iload hx hb dX4_expectNumber_14 (lv_at hl 5 rfl) ?_
    refine lv_iadd hx hb dX4_expectNumber_16 ?_
    obtain ⟨r1, er1, h⟩ := Option.bind_eq_some_iff.mp h
    refine va_calli (va_runV (As := [.int (x2 + x5)]) (rest := []) ⟨hx, hb, hml, hown, hts⟩ (c_X6_codeAt l D κ b σ (x2 + x5) _ er1) (cwV 1 hts (gwV wt_312 wt_244 wt_245 wt_3 wt_246) rfl rfl rfl (by decide +kernel) ⟨Nat.le_of_ble_eq_true rfl, Nat.le_of_ble_eq_true rfl⟩) (CW_preV hK hC sg_gText rfl) rfl rfl hl.1 rfl (lv_room (Nat.le_of_ble_eq_true rfl)) dX4_expectNumber_17 ⟨Nat.zero_le _, Nat.zero_le _⟩) hS (fun _ _ h => h) (fun _ h => h) (fun r u t H locs ht _ hp hB _ _ hS => ?_)
    refine sg_topi hp.1 ?_
    have hC : CW D κ b σ H := CW_b hB ht hp.2
    refine lv_iload_n hx hb dX4_expectNumber_20 rfl (lv_at hl 3 rfl) ?_
    refine lv_iconst (v := 1) hx hb dX4_expectNumber_21 (by decide) ?_
    refine lv_isub hx hb dX4_expectNumber_22 ?_
    refine lv_iload hx hb dX4_expectNumber_23 (lv_at hl 5 rfl) ?_
    refine lv_isub hx hb dX4_expectNumber_25 ?_
    refine lv_iload_n hx hb dX4_expectNumber_26 rfl (lv_at hl 1 rfl) ?_
    obtain ⟨r2, er2, h⟩ := Option.bind_eq_some_iff.mp h
    refine va_calli (va_runSN (As := [.int ((x3 - 1) - x5), .int x1]) (rest := [.int r1]) ⟨hx, hb, hml, hown, hts⟩ (c_X7_digitBefore l D κ b σ ((x3 - 1) - x5) x1 _ er2) ⟨va_cnB 2 hts (gw0 wt_315) rfl rfl rfl (nm_4 hK) (hts _ (wq wt_1)) (by decide +kernel) ⟨Nat.le_of_ble_eq_true rfl, Nat.le_of_ble_eq_true rfl⟩, hts _ (wq wt_314), trivial⟩ (CW_preS hK hC) rfl rfl hl.1 rfl (lv_room (Nat.le_of_ble_eq_true rfl)) dX4_expectNumber_27 ⟨Nat.zero_le _, Nat.zero_le _⟩) hS (fun _ _ h => h) (fun _ h => h) (fun r u t H locs ht _ hp hB _ _ hS => ?_)
    refine sg_topi hp.1 ?_
    have hC : CW D κ b σ H := CW_b hB ht hp.2
    refine lv_icmp_eq (tgt := 44) hx hb dX4_expectNumber_30 (by decide) (fun hc => ?_) (fun hc => ?_)
    · replace h := (if_pos hc).symm.trans h
      obtain ⟨v3, ev3, h⟩ := sg_lte h
      refine lv_iinc (v := v3) (lv' := [(5, .int v3), (0, .ref (b + 1)), (1, .int x1), (2, .int x2), (3, .int x3), (4, .int x4)]) (k := 5) hx hb dX4_expectNumber_44 hl rfl (sg_inc (by decide) ev3) (by decide) rfl (fun ls hl => ?_)
      refine lv_goto (tgt := 3) hx hb dX4_expectNumber_47 (by decide) ?_
      exact hr3 h (lv_sub hl [1, 2, 3, 4, 5, 0] rfl) hC hS
    · replace h := (if_neg hc).symm.trans h
      refine lv_aload_n hx hb dX4_expectNumber_33 rfl (lv_at hl 0 rfl) ?_
      refine lv_iload hx hb dX4_expectNumber_34 (lv_at hl 4 rfl) ?_
      refine lv_iload_n hx hb dX4_expectNumber_36 rfl (lv_at hl 2 rfl) ?_
      refine lv_iload hx hb dX4_expectNumber_37 (lv_at hl 5 rfl) ?_
      refine lv_iadd hx hb dX4_expectNumber_39 ?_
      obtain ⟨r4, er4, h⟩ := Option.bind_eq_some_iff.mp h
      refine va_calli (va_runV (As := [.int x4, .int (x2 + x5)]) (rest := []) ⟨hx, hb, hml, hown, hts⟩ (c_X4_meet l D κ b σ x4 (x2 + x5) _ er4) (cwV 2 hts (gwV wt_316 wt_318 wp_2 wt_2 wt_319) rfl rfl rfl (by decide +kernel) ⟨Nat.le_of_ble_eq_true rfl, Nat.le_of_ble_eq_true rfl⟩) (CW_preV hK hC sg_gReader rfl) rfl rfl hl.1 rfl (lv_room (Nat.le_of_ble_eq_true rfl)) dX4_expectNumber_40 ⟨Nat.zero_le _, Nat.zero_le _⟩) hS (fun _ _ h => h) (fun _ h => h) (fun r u t H locs ht _ hp hB _ _ hS => ?_)
      refine sg_topi hp.1 ?_
      have hC : CW D κ b r4.2 H := CW_b hB ht hp.2
      obtain ⟨hg, h⟩ := sg_gd h
      exact hret _ _ _ _ _ _ h (sg_bn hg) hC hS dX4_expectNumber_43
set_option maxHeartbeats 4000000 in
theorem w_X4_expectNumber_B3 {p : Program} {l : Launch} {e : Env} {s : State} {m : MethodId} {args : Array Value} {below : List Frame} {meth : Method} {c : Code} {Q : State → Prop} {D : va_G} {κ : Nat → ClassId} {b : Nat} {H0 : Heap} {rr : Int32 × Sg} (hZ : sg_Z p c s m args D κ cX4_expectNumber 6 RX4 wsX4_expectNumber) (hret : ∀ (v : Int32) (u : Sg) (H : Heap) (locs : List Loc) (pc : Nat) (ls : Array Slot), some (v, u) = some rr → narrow .boolean (.int v) = .int v → CW D κ b u H → va_S (sg_A b 892) H0 H locs → decode cX4_expectNumber pc = .ok (.ireturn, 1) → W p l e rm_X4_expectNumber s m args below meth c H locs 0 0 Q (F0 m pc ls [.int v])) : ∀ n : Nat, ∀ {σ : Sg} {x1 : Int32} {x2 : Int32} {x3 : Int32} {x4 : Int32} {x5 : Int32} {H : Heap} {locs : List Loc} {ls : Array Slot}, fn_X4_expectNumber_B3 b n σ x1 x2 x3 x4 x5 = some rr → lv_has ls 6 [(0, .ref (b + 1)), (1, .int x1), (2, .int x2), (3, .int x3), (4, .int x4), (5, .int x5)] → CW D κ b σ H → va_S (sg_A b 892) H0 H locs → W p l e rm_X4_expectNumber s m args below meth c H locs 0 0 Q (F0 m 3 ls []) := by
  intro n
  induction n with
  | zero => intro σ x1 x2 x3 x4 x5 H locs ls h hl hC hS; cases (show (none : Option (Int32 × Sg)) = some rr from h)
  | succ n ih =>
    intro σ x1 x2 x3 x4 x5 H locs ls h hl hC hS
    exact w_X4_expectNumber_B3b hZ hret ih (show fn_X4_expectNumber_B3b b (fn_X4_expectNumber_B3 b n) σ x1 x2 x3 x4 x5 = some rr from h)  hl hC hS
def fn_X4_expectNumber (b : Nat) (σ : Sg) (x1 : Int32) (x2 : Int32) (x3 : Int32) (x4 : Int32) : Option (Int32 × Sg) :=
  fn_X4_expectNumber_B3 b sg_N σ x1 x2 x3 x4 0
set_option maxHeartbeats 4000000 in
set_option maxRecDepth 100000 in
theorem w_X4_expectNumber_B0 {p : Program} {l : Launch} {e : Env} {s : State} {m : MethodId} {args : Array Value} {below : List Frame} {meth : Method} {c : Code} {Q : State → Prop} {D : va_G} {κ : Nat → ClassId} {b : Nat} {H0 : Heap} {rr : Int32 × Sg} (hZ : sg_Z p c s m args D κ cX4_expectNumber 6 RX4 wsX4_expectNumber) (hret : ∀ (v : Int32) (u : Sg) (H : Heap) (locs : List Loc) (pc : Nat) (ls : Array Slot), some (v, u) = some rr → narrow .boolean (.int v) = .int v → CW D κ b u H → va_S (sg_A b 892) H0 H locs → decode cX4_expectNumber pc = .ok (.ireturn, 1) → W p l e rm_X4_expectNumber s m args below meth c H locs 0 0 Q (F0 m pc ls [.int v])) : ∀ {σ : Sg} {x1 : Int32} {x2 : Int32} {x3 : Int32} {x4 : Int32} {H : Heap} {locs : List Loc} {ls : Array Slot}, fn_X4_expectNumber b σ x1 x2 x3 x4 = some rr → lv_has ls 6 [(0, .ref (b + 1)), (1, .int x1), (2, .int x2), (3, .int x3), (4, .int x4)] → CW D κ b σ H → va_S (sg_A b 892) H0 H locs → W p l e rm_X4_expectNumber s m args below meth c H locs 0 0 Q (F0 m 0 ls []) := by
  obtain ⟨hx, hb, hml, hown, hts, hK⟩ := hZ
  intro σ x1 x2 x3 x4 H locs ls h hl hC hS
  unfold fn_X4_expectNumber at h
  refine lv_iconst (v := 0) hx hb dX4_expectNumber_0 (by decide) ?_
  refine lv_istore (lv' := [(5, .int 0), (0, .ref (b + 1)), (1, .int x1), (2, .int x2), (3, .int x3), (4, .int x4)]) hx hb dX4_expectNumber_1 hl (by decide) rfl (fun ls hl => ?_)
  exact w_X4_expectNumber_B3 ⟨hx, hb, hml, hown, hts, hK⟩ hret  sg_N h (lv_sub hl [1, 2, 3, 4, 5, 0] rfl) hC hS
set_option maxHeartbeats 4000000 in
set_option maxRecDepth 100000 in
theorem c_X4_expectNumber (l : Launch) (D : va_G) (κ : Nat → ClassId) (b : Nat) (σ : Sg) (x1 : Int32) (x2 : Int32) (x3 : Int32) (x4 : Int32) (rr : Int32 × Sg)  (h : fn_X4_expectNumber b σ x1 x2 x3 x4 = some rr) : Met l yX4_expectNumber wsX4_expectNumber rm_X4_expectNumber (va_Pc [.ref (b + 1), .int x1, .int x2, .int x3, .int x4] (fun U => KK D κ U ∧ CW D κ b σ U.heap)) (va_Qi (fun (r : Int32) (u : Sg) => r = rr.1 ∧ u = rr.2) (fun u t => CW D κ b u t.heap) (sg_A b 892)) 0 0 (sg_A b 892) := by
  refine Met.ofW (cc := cX4_expectNumber) (maxL := 6) (ret := (some .boolean)) (by decide) rfl ?_
  intro p e s m args below meth c s₁ B hml hv
  obtain ⟨rfl, hK, hC⟩ := hv
  have hr := B.returns
  have hlocks := B.notSynchronized
  have hl := lv_entry ([.ref (b + 1), .int x1, .int x2, .int x3, .int x4]) (n := 6) (Nat.le_of_ble_eq_true rfl)
  rw [lg_entry_eq]
  generalize (lg_sl ([.ref (b + 1), .int x1, .int x2, .int x3, .int x4]) ++ List.replicate (6 - (lg_sl ([.ref (b + 1), .int x1, .int x2, .int x3, .int x4])).length) Slot.unset).toArray = ls at hl ⊢
  have hl : lv_has ls 6 [(0, .ref (b + 1)), (1, .int x1), (2, .int x2), (3, .int x3), (4, .int x4)] := hl
  exact w_X4_expectNumber_B0 ⟨B.exec, B.bytes, hml, findClass_of_methodNamed B.named, atoms_spec (ws := wsX4_expectNumber) B.pre, hK⟩ (fun v u H locs pc ls hq hbo hC hS hd => W.zret B.exec B.bytes hr hbo (fun t ht hW => ⟨⟨v, _, rfl, ⟨congrArg Prod.fst (Option.some.inj hq), congrArg Prod.snd (Option.some.inj hq)⟩, CW_e ht hC⟩, hS.F ht⟩) hS.2.2 hd) h  hl hC va_S.rf

-- RecordShelf$Reader.takeLetters(LRecordShelf$Card;III)Z
theorem dX4_takeLetters_0 : decode cX4_takeLetters 0 = .ok (.iload_n 2, 1) := by decide +kernel
theorem dX4_takeLetters_1 : decode cX4_takeLetters 1 = .ok (.istore 5, 2) := by decide +kernel
theorem dX4_takeLetters_3 : decode cX4_takeLetters 3 = .ok (.iload 5, 2) := by decide +kernel
theorem dX4_takeLetters_5 : decode cX4_takeLetters 5 = .ok (.iload_n 3, 1) := by decide +kernel
theorem dX4_takeLetters_6 : decode cX4_takeLetters 6 = .ok (.if_icmp .ge 57, 3) := by decide +kernel
theorem dX4_takeLetters_9 : decode cX4_takeLetters 9 = .ok (.aload_n 0, 1) := by decide +kernel
theorem dX4_takeLetters_10 : decode cX4_takeLetters 10 = .ok (.getfield 12, 3) := by decide +kernel
theorem dX4_takeLetters_13 : decode cX4_takeLetters 13 = .ok (.iload 4, 2) := by decide +kernel
theorem dX4_takeLetters_15 : decode cX4_takeLetters 15 = .ok (.iload 5, 2) := by decide +kernel
theorem dX4_takeLetters_17 : decode cX4_takeLetters 17 = .ok (.iadd, 1) := by decide +kernel
theorem dX4_takeLetters_18 : decode cX4_takeLetters 18 = .ok (.iload_n 2, 1) := by decide +kernel
theorem dX4_takeLetters_19 : decode cX4_takeLetters 19 = .ok (.isub, 1) := by decide +kernel
theorem dX4_takeLetters_20 : decode cX4_takeLetters 20 = .ok (.invokevirtual 65, 3) := by decide +kernel
theorem dX4_takeLetters_23 : decode cX4_takeLetters 23 = .ok (.istore 6, 2) := by decide +kernel
theorem dX4_takeLetters_25 : decode cX4_takeLetters 25 = .ok (.iload 6, 2) := by decide +kernel
theorem dX4_takeLetters_27 : decode cX4_takeLetters 27 = .ok (.invokestatic 84, 3) := by decide +kernel
theorem dX4_takeLetters_30 : decode cX4_takeLetters 30 = .ok (.ifCond .ne 17, 3) := by decide +kernel
theorem dX4_takeLetters_33 : decode cX4_takeLetters 33 = .ok (.aload_n 0, 1) := by decide +kernel
theorem dX4_takeLetters_34 : decode cX4_takeLetters 34 = .ok (.bipush (-3), 2) := by decide +kernel
theorem dX4_takeLetters_36 : decode cX4_takeLetters 36 = .ok (.iload 4, 2) := by decide +kernel
theorem dX4_takeLetters_38 : decode cX4_takeLetters 38 = .ok (.iload 5, 2) := by decide +kernel
theorem dX4_takeLetters_40 : decode cX4_takeLetters 40 = .ok (.iadd, 1) := by decide +kernel
theorem dX4_takeLetters_41 : decode cX4_takeLetters 41 = .ok (.iload_n 2, 1) := by decide +kernel
theorem dX4_takeLetters_42 : decode cX4_takeLetters 42 = .ok (.isub, 1) := by decide +kernel
theorem dX4_takeLetters_43 : decode cX4_takeLetters 43 = .ok (.invokevirtual 73, 3) := by decide +kernel
theorem dX4_takeLetters_46 : decode cX4_takeLetters 46 = .ok (.ireturn, 1) := by decide +kernel
theorem dX4_takeLetters_47 : decode cX4_takeLetters 47 = .ok (.aload_n 1, 1) := by decide +kernel
theorem dX4_takeLetters_48 : decode cX4_takeLetters 48 = .ok (.getfield 87, 3) := by decide +kernel
theorem dX4_takeLetters_51 : decode cX4_takeLetters 51 = .ok (.iload 5, 2) := by decide +kernel
theorem dX4_takeLetters_53 : decode cX4_takeLetters 53 = .ok (.iload 6, 2) := by decide +kernel
theorem dX4_takeLetters_55 : decode cX4_takeLetters 55 = .ok (.i2c, 1) := by decide +kernel
theorem dX4_takeLetters_56 : decode cX4_takeLetters 56 = .ok (.castore, 1) := by decide +kernel
theorem dX4_takeLetters_57 : decode cX4_takeLetters 57 = .ok (.iinc 5 1, 3) := by decide +kernel
theorem dX4_takeLetters_60 : decode cX4_takeLetters 60 = .ok (.goto (-57), 3) := by decide +kernel
theorem dX4_takeLetters_63 : decode cX4_takeLetters 63 = .ok (.iconst 1, 1) := by decide +kernel
theorem dX4_takeLetters_64 : decode cX4_takeLetters 64 = .ok (.ireturn, 1) := by decide +kernel
def rm_X4_takeLetters : Room := { frames := 1, cells := 0, slots := 0, locals := 22 }
def fn_X4_takeLetters_B3b (b : Nat) (z3 : Sg → Nat → Int32 → Int32 → Int32 → Int32 → Option (Int32 × Sg)) (σ : Sg) (x1 : Nat) (x2 : Int32) (x3 : Int32) (x4 : Int32) (x5 : Int32) : Option (Int32 × Sg) :=
  (if (x3 : Int32) ≤ x5 then
  some (1, σ)
  else ((fn_X6_codeAt b σ ((x4 + x5) - x2)).bind fun r1 =>
  ((fn_X7_isPlain r1).bind fun r2 =>
  (if r2 = 0 then
  ((fn_X4_meet b σ (-3) ((x4 + x5) - x2)).bind fun r5 =>
  (if sg_bo r5.1 then some (r5.1, r5.2) else none))
  else (if sg_ib x5 8 then
  (sg_lt (sg_w σ (x1 + 1) (sg_x x5) (vp_nar .char (sg_c r1))) fun σ3 =>
  (sg_lt (x5 + 1 : Int32) fun v4 =>
  z3 σ3 x1 x2 x3 x4 v4))
  else none)))))
def fn_X4_takeLetters_B3 (b : Nat) : Nat → Sg → Nat → Int32 → Int32 → Int32 → Int32 → Option (Int32 × Sg)
  | 0 => fun _ _ _ _ _ _ => none
  | n + 1 => fun σ x1 x2 x3 x4 x5 => fn_X4_takeLetters_B3b b (fn_X4_takeLetters_B3 b n) σ x1 x2 x3 x4 x5
set_option maxHeartbeats 4000000 in
set_option maxRecDepth 100000 in
theorem w_X4_takeLetters_B3b {p : Program} {l : Launch} {e : Env} {s : State} {m : MethodId} {args : Array Value} {below : List Frame} {meth : Method} {c : Code} {Q : State → Prop} {D : va_G} {κ : Nat → ClassId} {b : Nat} {H0 : Heap} {rr : Int32 × Sg} (hZ : sg_Z p c s m args D κ cX4_takeLetters 7 RX4 wsX4_takeLetters) (hret : ∀ (v : Int32) (u : Sg) (H : Heap) (locs : List Loc) (pc : Nat) (ls : Array Slot), some (v, u) = some rr → narrow .boolean (.int v) = .int v → CW D κ b u H → va_S (sg_A b 892) H0 H locs → decode cX4_takeLetters pc = .ok (.ireturn, 1) → W p l e rm_X4_takeLetters s m args below meth c H locs 0 0 Q (F0 m pc ls [.int v])) {z3 : Sg → Nat → Int32 → Int32 → Int32 → Int32 → Option (Int32 × Sg)} (hr3 : ∀ {σ : Sg} {x1 : Nat} {x2 : Int32} {x3 : Int32} {x4 : Int32} {x5 : Int32} {H : Heap} {locs : List Loc} {ls : Array Slot}, z3 σ x1 x2 x3 x4 x5 = some rr → is_Card b x1 → lv_has ls 7 [(0, .ref (b + 1)), (1, .ref x1), (2, .int x2), (3, .int x3), (4, .int x4), (5, .int x5)] → CW D κ b σ H → va_S (sg_A b 892) H0 H locs → W p l e rm_X4_takeLetters s m args below meth c H locs 0 0 Q (F0 m 3 ls [])) : ∀ {σ : Sg} {x1 : Nat} {x2 : Int32} {x3 : Int32} {x4 : Int32} {x5 : Int32} {H : Heap} {locs : List Loc} {ls : Array Slot}, fn_X4_takeLetters_B3b b z3 σ x1 x2 x3 x4 x5 = some rr → is_Card b x1 → lv_has ls 7 [(0, .ref (b + 1)), (1, .ref x1), (2, .int x2), (3, .int x3), (4, .int x4), (5, .int x5)] → CW D κ b σ H → va_S (sg_A b 892) H0 H locs → W p l e rm_X4_takeLetters s m args below meth c H locs 0 0 Q (F0 m 3 ls []) := by
  obtain ⟨hx, hb, hml, hown, hts, hK⟩ := hZ
  intro σ x1 x2 x3 x4 x5 H locs ls h hx1 hl hC hS
  unfold fn_X4_takeLetters_B3b at h
  refine lv_iload hx hb dX4_takeLetters_3 (lv_at hl 5 rfl) ?_
  refine lv_iload_n hx hb dX4_takeLetters_5 rfl (lv_at hl 3 rfl) ?_
  refine lv_icmp_ge (tgt := 63) hx hb dX4_takeLetters_6 (by decide) (fun hc => ?_) (fun hc => ?_)
  · replace h := (if_pos hc).symm.trans h
    refine lv_iconst (v := 1) hx hb dX4_takeLetters_63 (by decide) ?_
    exact hret _ _ _ _ _ _ h (by decide) hC hS dX4_takeLetters_64
  · replace h := (if_neg hc).symm.trans h
    refine lv_aload_n hx hb dX4_takeLetters_9 rfl (lv_at hl 0 rfl) ?_
    refine va_get (D := D) (ci := 4) (v := .ref (b + 2)) (C := RX4) (T := TX4) (N := 8) hx hb hts (wqs inW_X4) hown hK.1 hC.1 ((b + 1) - b) sg_gReader rfl 0 (by decide) (hts _ (wq wt_47)) (fun _ h9 => h9) rfl dX4_takeLetters_10 ?_
    refine lv_iload hx hb dX4_takeLetters_13 (lv_at hl 4 rfl) ?_
    refine lv_iload hx hb dX4_takeLetters_15 (lv_at hl 5 rfl) ?_
    refine lv_iadd hx hb dX4_takeLetters_17 ?_
    refine lv_iload_n hx hb dX4_takeLetters_18 rfl (lv_at hl 2 rfl) ?_
    refine lv_isub hx hb dX4_takeLetters_19 ?_
    obtain ⟨r1, er1, h⟩ := Option.bind_eq_some_iff.mp h
    refine va_calli (va_runV (As := [.int ((x4 + x5) - x2)]) (rest := []) ⟨hx, hb, hml, hown, hts⟩ (c_X6_codeAt l D κ b σ ((x4 + x5) - x2) _ er1) (cwV 1 hts (gwV wt_312 wt_244 wt_245 wt_3 wt_246) rfl rfl rfl (by decide +kernel) ⟨Nat.le_of_ble_eq_true rfl, Nat.le_of_ble_eq_true rfl⟩) (CW_preV hK hC sg_gText rfl) rfl rfl hl.1 rfl (lv_room (Nat.le_of_ble_eq_true rfl)) dX4_takeLetters_20 ⟨Nat.zero_le _, Nat.zero_le _⟩) hS (fun _ _ h => h) (fun _ h => h) (fun r u t H locs ht _ hp hB _ _ hS => ?_)
    refine sg_topi hp.1 ?_
    have hC : CW D κ b σ H := CW_b hB ht hp.2
    refine lv_istore (lv' := [(6, .int r1), (0, .ref (b + 1)), (1, .ref x1), (2, .int x2), (3, .int x3), (4, .int x4), (5, .int x5)]) hx hb dX4_takeLetters_23 hl (by decide) rfl (fun ls hl => ?_)
    refine lv_iload hx hb dX4_takeLetters_25 (lv_at hl 0 rfl) ?_
    obtain ⟨r2, er2, h⟩ := Option.bind_eq_some_iff.mp h
    refine va_calli (va_runSN (As := [.int r1]) (rest := []) ⟨hx, hb, hml, hown, hts⟩ (c_X7_isPlain l D κ b σ r1 _ er2) ⟨va_cnB 1 hts (gw0 wt_326) rfl rfl rfl (nm_5 hK) (hts _ (wq wt_1)) (by decide +kernel) ⟨Nat.le_of_ble_eq_true rfl, Nat.le_of_ble_eq_true rfl⟩, hts _ (wq wt_325), trivial⟩ (CW_preS hK hC) rfl rfl hl.1 rfl (lv_room (Nat.le_of_ble_eq_true rfl)) dX4_takeLetters_27 ⟨Nat.zero_le _, Nat.zero_le _⟩) hS (fun _ _ h => h) (fun _ h => h) (fun r u t H locs ht _ hp hB _ _ hS => ?_)
    refine sg_topi hp.1 ?_
    have hC : CW D κ b σ H := CW_b hB ht hp.2
    refine lv_if_ne (tgt := 47) hx hb dX4_takeLetters_30 (by decide) (fun hc => ?_) (fun hc => ?_)
    · replace h := (if_neg hc).symm.trans h
      refine lv_aload_n hx hb dX4_takeLetters_47 rfl (lv_at hl 2 rfl) ?_
      refine va_getN (D := D) (ci := 0) (v := .ref (x1 + 1)) (C := RX0) (T := TX0) (N := 3) hx hb hts (wqs inW_X0) hown hK.1 hC.1 (x1 - b) (sg_gCard hx1) rfl 0 (by decide) (nf_25 hK) (fun _ h9 => h9) rfl dX4_takeLetters_48 ?_
      refine lv_iload hx hb dX4_takeLetters_51 (lv_at hl 6 rfl) ?_
      refine lv_iload hx hb dX4_takeLetters_53 (lv_at hl 0 rfl) ?_
      refine lv_i2c (v := (sg_c r1)) hx hb dX4_takeLetters_55 rfl ?_
      obtain ⟨hg, h⟩ := sg_gd h
      refine va_cast hx hb hK.1 hC.1 sg_D hS ((x1 + 1) - b) 1 (sg_gcletters hx1) rfl (sg_in hg) dX4_takeLetters_56 (fun H locs hP _ hS => ?_)
      obtain ⟨σ3, eσ3, h⟩ := sg_lte h
      have hC : CW D κ b σ3 H := eσ3 ▸ CW_put (k := sg_x x5) (v := (vp_nar .char (sg_c r1))) hC (sg_acletters hx1) (sg_ycletters hx1 _ _) hP
      obtain ⟨v4, ev4, h⟩ := sg_lte h
      refine lv_iinc (v := v4) (lv' := [(5, .int v4), (6, .int r1), (0, .ref (b + 1)), (1, .ref x1), (2, .int x2), (3, .int x3), (4, .int x4)]) (k := 6) hx hb dX4_takeLetters_57 hl rfl (sg_inc (by decide) ev4) (by decide) rfl (fun ls hl => ?_)
      refine lv_goto (tgt := 3) hx hb dX4_takeLetters_60 (by decide) ?_
      exact hr3 h hx1 (lv_sub hl [2, 3, 4, 5, 6, 0] rfl) hC hS
    · replace h := (if_pos hc).symm.trans h
      refine lv_aload_n hx hb dX4_takeLetters_33 rfl (lv_at hl 1 rfl) ?_
      refine lv_bipush (v := (-3)) hx hb dX4_takeLetters_34 (by decide) ?_
      refine lv_iload hx hb dX4_takeLetters_36 (lv_at hl 5 rfl) ?_
      refine lv_iload hx hb dX4_takeLetters_38 (lv_at hl 6 rfl) ?_
      refine lv_iadd hx hb dX4_takeLetters_40 ?_
      refine lv_iload_n hx hb dX4_takeLetters_41 rfl (lv_at hl 3 rfl) ?_
      refine lv_isub hx hb dX4_takeLetters_42 ?_
      obtain ⟨r5, er5, h⟩ := Option.bind_eq_some_iff.mp h
      refine va_calli (va_runV (As := [.int (-3), .int ((x4 + x5) - x2)]) (rest := []) ⟨hx, hb, hml, hown, hts⟩ (c_X4_meet l D κ b σ (-3) ((x4 + x5) - x2) _ er5) (cwV 2 hts (gwV wt_316 wt_318 wp_2 wt_2 wt_319) rfl rfl rfl (by decide +kernel) ⟨Nat.le_of_ble_eq_true rfl, Nat.le_of_ble_eq_true rfl⟩) (CW_preV hK hC sg_gReader rfl) rfl rfl hl.1 rfl (lv_room (Nat.le_of_ble_eq_true rfl)) dX4_takeLetters_43 ⟨Nat.zero_le _, Nat.zero_le _⟩) hS (fun _ _ h => h) (fun _ h => h) (fun r u t H locs ht _ hp hB _ _ hS => ?_)
      refine sg_topi hp.1 ?_
      have hC : CW D κ b r5.2 H := CW_b hB ht hp.2
      obtain ⟨hg, h⟩ := sg_gd h
      exact hret _ _ _ _ _ _ h (sg_bn hg) hC hS dX4_takeLetters_46
set_option maxHeartbeats 4000000 in
theorem w_X4_takeLetters_B3 {p : Program} {l : Launch} {e : Env} {s : State} {m : MethodId} {args : Array Value} {below : List Frame} {meth : Method} {c : Code} {Q : State → Prop} {D : va_G} {κ : Nat → ClassId} {b : Nat} {H0 : Heap} {rr : Int32 × Sg} (hZ : sg_Z p c s m args D κ cX4_takeLetters 7 RX4 wsX4_takeLetters) (hret : ∀ (v : Int32) (u : Sg) (H : Heap) (locs : List Loc) (pc : Nat) (ls : Array Slot), some (v, u) = some rr → narrow .boolean (.int v) = .int v → CW D κ b u H → va_S (sg_A b 892) H0 H locs → decode cX4_takeLetters pc = .ok (.ireturn, 1) → W p l e rm_X4_takeLetters s m args below meth c H locs 0 0 Q (F0 m pc ls [.int v])) : ∀ n : Nat, ∀ {σ : Sg} {x1 : Nat} {x2 : Int32} {x3 : Int32} {x4 : Int32} {x5 : Int32} {H : Heap} {locs : List Loc} {ls : Array Slot}, fn_X4_takeLetters_B3 b n σ x1 x2 x3 x4 x5 = some rr → is_Card b x1 → lv_has ls 7 [(0, .ref (b + 1)), (1, .ref x1), (2, .int x2), (3, .int x3), (4, .int x4), (5, .int x5)] → CW D κ b σ H → va_S (sg_A b 892) H0 H locs → W p l e rm_X4_takeLetters s m args below meth c H locs 0 0 Q (F0 m 3 ls []) := by
  intro n
  induction n with
  | zero => intro σ x1 x2 x3 x4 x5 H locs ls h hx1 hl hC hS; cases (show (none : Option (Int32 × Sg)) = some rr from h)
  | succ n ih =>
    intro σ x1 x2 x3 x4 x5 H locs ls h hx1 hl hC hS
    exact w_X4_takeLetters_B3b hZ hret ih (show fn_X4_takeLetters_B3b b (fn_X4_takeLetters_B3 b n) σ x1 x2 x3 x4 x5 = some rr from h) hx1 hl hC hS
def fn_X4_takeLetters (b : Nat) (σ : Sg) (x1 : Nat) (x2 : Int32) (x3 : Int32) (x4 : Int32) : Option (Int32 × Sg) :=
  fn_X4_takeLetters_B3 b sg_N σ x1 x2 x3 x4 x2
set_option maxHeartbeats 4000000 in
set_option maxRecDepth 100000 in
theorem w_X4_takeLetters_B0 {p : Program} {l : Launch} {e : Env} {s : State} {m : MethodId} {args : Array Value} {below : List Frame} {meth : Method} {c : Code} {Q : State → Prop} {D : va_G} {κ : Nat → ClassId} {b : Nat} {H0 : Heap} {rr : Int32 × Sg} (hZ : sg_Z p c s m args D κ cX4_takeLetters 7 RX4 wsX4_takeLetters) (hret : ∀ (v : Int32) (u : Sg) (H : Heap) (locs : List Loc) (pc : Nat) (ls : Array Slot), some (v, u) = some rr → narrow .boolean (.int v) = .int v → CW D κ b u H → va_S (sg_A b 892) H0 H locs → decode cX4_takeLetters pc = .ok (.ireturn, 1) → W p l e rm_X4_takeLetters s m args below meth c H locs 0 0 Q (F0 m pc ls [.int v])) : ∀ {σ : Sg} {x1 : Nat} {x2 : Int32} {x3 : Int32} {x4 : Int32} {H : Heap} {locs : List Loc} {ls : Array Slot}, fn_X4_takeLetters b σ x1 x2 x3 x4 = some rr → is_Card b x1 → lv_has ls 7 [(0, .ref (b + 1)), (1, .ref x1), (2, .int x2), (3, .int x3), (4, .int x4)] → CW D κ b σ H → va_S (sg_A b 892) H0 H locs → W p l e rm_X4_takeLetters s m args below meth c H locs 0 0 Q (F0 m 0 ls []) := by
  obtain ⟨hx, hb, hml, hown, hts, hK⟩ := hZ
  intro σ x1 x2 x3 x4 H locs ls h hx1 hl hC hS
  unfold fn_X4_takeLetters at h
  refine lv_iload_n hx hb dX4_takeLetters_0 rfl (lv_at hl 2 rfl) ?_
  refine lv_istore (lv' := [(5, .int x2), (0, .ref (b + 1)), (1, .ref x1), (2, .int x2), (3, .int x3), (4, .int x4)]) hx hb dX4_takeLetters_1 hl (by decide) rfl (fun ls hl => ?_)
  exact w_X4_takeLetters_B3 ⟨hx, hb, hml, hown, hts, hK⟩ hret  sg_N h hx1 (lv_sub hl [1, 2, 3, 4, 5, 0] rfl) hC hS
set_option maxHeartbeats 4000000 in
set_option maxRecDepth 100000 in
theorem c_X4_takeLetters (l : Launch) (D : va_G) (κ : Nat → ClassId) (b : Nat) (σ : Sg) (x1 : Nat) (x2 : Int32) (x3 : Int32) (x4 : Int32) (rr : Int32 × Sg) (hx1 : is_Card b x1) (h : fn_X4_takeLetters b σ x1 x2 x3 x4 = some rr) : Met l yX4_takeLetters wsX4_takeLetters rm_X4_takeLetters (va_Pc [.ref (b + 1), .ref x1, .int x2, .int x3, .int x4] (fun U => KK D κ U ∧ CW D κ b σ U.heap)) (va_Qi (fun (r : Int32) (u : Sg) => r = rr.1 ∧ u = rr.2) (fun u t => CW D κ b u t.heap) (sg_A b 892)) 0 0 (sg_A b 892) := by
  refine Met.ofW (cc := cX4_takeLetters) (maxL := 7) (ret := (some .boolean)) (by decide) rfl ?_
  intro p e s m args below meth c s₁ B hml hv
  obtain ⟨rfl, hK, hC⟩ := hv
  have hr := B.returns
  have hlocks := B.notSynchronized
  have hl := lv_entry ([.ref (b + 1), .ref x1, .int x2, .int x3, .int x4]) (n := 7) (Nat.le_of_ble_eq_true rfl)
  rw [lg_entry_eq]
  generalize (lg_sl ([.ref (b + 1), .ref x1, .int x2, .int x3, .int x4]) ++ List.replicate (7 - (lg_sl ([.ref (b + 1), .ref x1, .int x2, .int x3, .int x4])).length) Slot.unset).toArray = ls at hl ⊢
  have hl : lv_has ls 7 [(0, .ref (b + 1)), (1, .ref x1), (2, .int x2), (3, .int x3), (4, .int x4)] := hl
  exact w_X4_takeLetters_B0 ⟨B.exec, B.bytes, hml, findClass_of_methodNamed B.named, atoms_spec (ws := wsX4_takeLetters) B.pre, hK⟩ (fun v u H locs pc ls hq hbo hC hS hd => W.zret B.exec B.bytes hr hbo (fun t ht hW => ⟨⟨v, _, rfl, ⟨congrArg Prod.fst (Option.some.inj hq), congrArg Prod.snd (Option.some.inj hq)⟩, CW_e ht hC⟩, hS.F ht⟩) hS.2.2 hd) h hx1 hl hC va_S.rf

-- RecordShelf$Reader.takeNumber(III)Z
theorem dX4_takeNumber_0 : decode cX4_takeNumber 0 = .ok (.aload_n 0, 1) := by decide +kernel
theorem dX4_takeNumber_1 : decode cX4_takeNumber 1 = .ok (.iconst 0, 1) := by decide +kernel
theorem dX4_takeNumber_2 : decode cX4_takeNumber 2 = .ok (.putfield 77, 3) := by decide +kernel
theorem dX4_takeNumber_5 : decode cX4_takeNumber 5 = .ok (.iload_n 1, 1) := by decide +kernel
theorem dX4_takeNumber_6 : decode cX4_takeNumber 6 = .ok (.istore 4, 2) := by decide +kernel
theorem dX4_takeNumber_8 : decode cX4_takeNumber 8 = .ok (.iload 4, 2) := by decide +kernel
theorem dX4_takeNumber_10 : decode cX4_takeNumber 10 = .ok (.iload_n 1, 1) := by decide +kernel
theorem dX4_takeNumber_11 : decode cX4_takeNumber 11 = .ok (.iload_n 2, 1) := by decide +kernel
theorem dX4_takeNumber_12 : decode cX4_takeNumber 12 = .ok (.iadd, 1) := by decide +kernel
theorem dX4_takeNumber_13 : decode cX4_takeNumber 13 = .ok (.if_icmp .ge 53, 3) := by decide +kernel
theorem dX4_takeNumber_16 : decode cX4_takeNumber 16 = .ok (.aload_n 0, 1) := by decide +kernel
theorem dX4_takeNumber_17 : decode cX4_takeNumber 17 = .ok (.getfield 12, 3) := by decide +kernel
theorem dX4_takeNumber_20 : decode cX4_takeNumber 20 = .ok (.iload 4, 2) := by decide +kernel
theorem dX4_takeNumber_22 : decode cX4_takeNumber 22 = .ok (.invokevirtual 65, 3) := by decide +kernel
theorem dX4_takeNumber_25 : decode cX4_takeNumber 25 = .ok (.istore 5, 2) := by decide +kernel
theorem dX4_takeNumber_27 : decode cX4_takeNumber 27 = .ok (.iload 5, 2) := by decide +kernel
theorem dX4_takeNumber_29 : decode cX4_takeNumber 29 = .ok (.invokestatic 80, 3) := by decide +kernel
theorem dX4_takeNumber_32 : decode cX4_takeNumber 32 = .ok (.ifCond .ne 11, 3) := by decide +kernel
theorem dX4_takeNumber_35 : decode cX4_takeNumber 35 = .ok (.aload_n 0, 1) := by decide +kernel
theorem dX4_takeNumber_36 : decode cX4_takeNumber 36 = .ok (.iload_n 3, 1) := by decide +kernel
theorem dX4_takeNumber_37 : decode cX4_takeNumber 37 = .ok (.iload 4, 2) := by decide +kernel
theorem dX4_takeNumber_39 : decode cX4_takeNumber 39 = .ok (.invokevirtual 73, 3) := by decide +kernel
theorem dX4_takeNumber_42 : decode cX4_takeNumber 42 = .ok (.ireturn, 1) := by decide +kernel
theorem dX4_takeNumber_43 : decode cX4_takeNumber 43 = .ok (.aload_n 0, 1) := by decide +kernel
theorem dX4_takeNumber_44 : decode cX4_takeNumber 44 = .ok (.bipush 10, 2) := by decide +kernel
theorem dX4_takeNumber_46 : decode cX4_takeNumber 46 = .ok (.aload_n 0, 1) := by decide +kernel
theorem dX4_takeNumber_47 : decode cX4_takeNumber 47 = .ok (.getfield 77, 3) := by decide +kernel
theorem dX4_takeNumber_50 : decode cX4_takeNumber 50 = .ok (.imul, 1) := by decide +kernel
theorem dX4_takeNumber_51 : decode cX4_takeNumber 51 = .ok (.iload 5, 2) := by decide +kernel
theorem dX4_takeNumber_53 : decode cX4_takeNumber 53 = .ok (.iadd, 1) := by decide +kernel
theorem dX4_takeNumber_54 : decode cX4_takeNumber 54 = .ok (.bipush 48, 2) := by decide +kernel
theorem dX4_takeNumber_56 : decode cX4_takeNumber 56 = .ok (.isub, 1) := by decide +kernel
theorem dX4_takeNumber_57 : decode cX4_takeNumber 57 = .ok (.putfield 77, 3) := by decide +kernel
theorem dX4_takeNumber_60 : decode cX4_takeNumber 60 = .ok (.iinc 4 1, 3) := by decide +kernel
theorem dX4_takeNumber_63 : decode cX4_takeNumber 63 = .ok (.goto (-55), 3) := by decide +kernel
theorem dX4_takeNumber_66 : decode cX4_takeNumber 66 = .ok (.iconst 1, 1) := by decide +kernel
theorem dX4_takeNumber_67 : decode cX4_takeNumber 67 = .ok (.ireturn, 1) := by decide +kernel
def rm_X4_takeNumber : Room := { frames := 1, cells := 0, slots := 0, locals := 22 }
def fn_X4_takeNumber_B8b (b : Nat) (z8 : Sg → Int32 → Int32 → Int32 → Int32 → Option (Int32 × Sg)) (σ : Sg) (x1 : Int32) (x2 : Int32) (x3 : Int32) (x4 : Int32) : Option (Int32 × Sg) :=
  (if ((x1 + x2) : Int32) ≤ x4 then
  some (1, σ)
  else ((fn_X6_codeAt b σ x4).bind fun r1 =>
  ((fn_X7_isDigit r1).bind fun r2 =>
  (if r2 = 0 then
  ((fn_X4_meet b σ x3 x4).bind fun r5 =>
  (if sg_bo r5.1 then some (r5.1, r5.2) else none))
  else (sg_lt (sg_w σ (b + 1) 5 (((10 * (σ.1 (b + 1) 5)) + r1) - 48)) fun σ3 =>
  (sg_lt (x4 + 1 : Int32) fun v4 =>
  z8 σ3 x1 x2 x3 v4))))))
def fn_X4_takeNumber_B8 (b : Nat) : Nat → Sg → Int32 → Int32 → Int32 → Int32 → Option (Int32 × Sg)
  | 0 => fun _ _ _ _ _ => none
  | n + 1 => fun σ x1 x2 x3 x4 => fn_X4_takeNumber_B8b b (fn_X4_takeNumber_B8 b n) σ x1 x2 x3 x4
set_option maxHeartbeats 4000000 in
set_option maxRecDepth 100000 in
theorem w_X4_takeNumber_B8b {p : Program} {l : Launch} {e : Env} {s : State} {m : MethodId} {args : Array Value} {below : List Frame} {meth : Method} {c : Code} {Q : State → Prop} {D : va_G} {κ : Nat → ClassId} {b : Nat} {H0 : Heap} {rr : Int32 × Sg} (hZ : sg_Z p c s m args D κ cX4_takeNumber 6 RX4 wsX4_takeNumber) (hret : ∀ (v : Int32) (u : Sg) (H : Heap) (locs : List Loc) (pc : Nat) (ls : Array Slot), some (v, u) = some rr → narrow .boolean (.int v) = .int v → CW D κ b u H → va_S (sg_A b 892) H0 H locs → decode cX4_takeNumber pc = .ok (.ireturn, 1) → W p l e rm_X4_takeNumber s m args below meth c H locs 0 0 Q (F0 m pc ls [.int v])) {z8 : Sg → Int32 → Int32 → Int32 → Int32 → Option (Int32 × Sg)} (hr8 : ∀ {σ : Sg} {x1 : Int32} {x2 : Int32} {x3 : Int32} {x4 : Int32} {H : Heap} {locs : List Loc} {ls : Array Slot}, z8 σ x1 x2 x3 x4 = some rr → lv_has ls 6 [(0, .ref (b + 1)), (1, .int x1), (2, .int x2), (3, .int x3), (4, .int x4)] → CW D κ b σ H → va_S (sg_A b 892) H0 H locs → W p l e rm_X4_takeNumber s m args below meth c H locs 0 0 Q (F0 m 8 ls [])) : ∀ {σ : Sg} {x1 : Int32} {x2 : Int32} {x3 : Int32} {x4 : Int32} {H : Heap} {locs : List Loc} {ls : Array Slot}, fn_X4_takeNumber_B8b b z8 σ x1 x2 x3 x4 = some rr → lv_has ls 6 [(0, .ref (b + 1)), (1, .int x1), (2, .int x2), (3, .int x3), (4, .int x4)] → CW D κ b σ H → va_S (sg_A b 892) H0 H locs → W p l e rm_X4_takeNumber s m args below meth c H locs 0 0 Q (F0 m 8 ls []) := by
  obtain ⟨hx, hb, hml, hown, hts, hK⟩ := hZ
  intro σ x1 x2 x3 x4 H locs ls h hl hC hS
  unfold fn_X4_takeNumber_B8b at h
  refine lv_iload hx hb dX4_takeNumber_8 (lv_at hl 4 rfl) ?_
  refine lv_iload_n hx hb dX4_takeNumber_10 rfl (lv_at hl 1 rfl) ?_
  refine lv_iload_n hx hb dX4_takeNumber_11 rfl (lv_at hl 2 rfl) ?_
  refine lv_iadd hx hb dX4_takeNumber_12 ?_
  refine lv_icmp_ge (tgt := 66) hx hb dX4_takeNumber_13 (by decide) (fun hc => ?_) (fun hc => ?_)
  · replace h := (if_pos hc).symm.trans h
    refine lv_iconst (v := 1) hx hb dX4_takeNumber_66 (by decide) ?_
    exact hret _ _ _ _ _ _ h (by decide) hC hS dX4_takeNumber_67
  · replace h := (if_neg hc).symm.trans h
    refine lv_aload_n hx hb dX4_takeNumber_16 rfl (lv_at hl 0 rfl) ?_
    refine va_get (D := D) (ci := 4) (v := .ref (b + 2)) (C := RX4) (T := TX4) (N := 8) hx hb hts (wqs inW_X4) hown hK.1 hC.1 ((b + 1) - b) sg_gReader rfl 0 (by decide) (hts _ (wq wt_47)) (fun _ h9 => h9) rfl dX4_takeNumber_17 ?_
    refine lv_iload hx hb dX4_takeNumber_20 (lv_at hl 4 rfl) ?_
    obtain ⟨r1, er1, h⟩ := Option.bind_eq_some_iff.mp h
    refine va_calli (va_runV (As := [.int x4]) (rest := []) ⟨hx, hb, hml, hown, hts⟩ (c_X6_codeAt l D κ b σ x4 _ er1) (cwV 1 hts (gwV wt_312 wt_244 wt_245 wt_3 wt_246) rfl rfl rfl (by decide +kernel) ⟨Nat.le_of_ble_eq_true rfl, Nat.le_of_ble_eq_true rfl⟩) (CW_preV hK hC sg_gText rfl) rfl rfl hl.1 rfl (lv_room (Nat.le_of_ble_eq_true rfl)) dX4_takeNumber_22 ⟨Nat.zero_le _, Nat.zero_le _⟩) hS (fun _ _ h => h) (fun _ h => h) (fun r u t H locs ht _ hp hB _ _ hS => ?_)
    refine sg_topi hp.1 ?_
    have hC : CW D κ b σ H := CW_b hB ht hp.2
    refine lv_istore (lv' := [(5, .int r1), (0, .ref (b + 1)), (1, .int x1), (2, .int x2), (3, .int x3), (4, .int x4)]) hx hb dX4_takeNumber_25 hl (by decide) rfl (fun ls hl => ?_)
    refine lv_iload hx hb dX4_takeNumber_27 (lv_at hl 0 rfl) ?_
    obtain ⟨r2, er2, h⟩ := Option.bind_eq_some_iff.mp h
    refine va_calli (va_runSN (As := [.int r1]) (rest := []) ⟨hx, hb, hml, hown, hts⟩ (c_X7_isDigit l D κ b σ r1 _ er2) ⟨va_cnB 1 hts (gw0 wt_337) rfl rfl rfl (nm_6 hK) (hts _ (wq wt_1)) (by decide +kernel) ⟨Nat.le_of_ble_eq_true rfl, Nat.le_of_ble_eq_true rfl⟩, hts _ (wq wt_336), trivial⟩ (CW_preS hK hC) rfl rfl hl.1 rfl (lv_room (Nat.le_of_ble_eq_true rfl)) dX4_takeNumber_29 ⟨Nat.zero_le _, Nat.zero_le _⟩) hS (fun _ _ h => h) (fun _ h => h) (fun r u t H locs ht _ hp hB _ _ hS => ?_)
    refine sg_topi hp.1 ?_
    have hC : CW D κ b σ H := CW_b hB ht hp.2
    refine lv_if_ne (tgt := 43) hx hb dX4_takeNumber_32 (by decide) (fun hc => ?_) (fun hc => ?_)
    · replace h := (if_neg hc).symm.trans h
      refine lv_aload_n hx hb dX4_takeNumber_43 rfl (lv_at hl 1 rfl) ?_
      refine lv_bipush (v := 10) hx hb dX4_takeNumber_44 (by decide) ?_
      refine lv_aload_n hx hb dX4_takeNumber_46 rfl (lv_at hl 1 rfl) ?_
      refine va_get (D := D) (ci := 4) (v := .int (σ.1 (b + 1) 5)) (C := RX4) (T := TX4) (N := 8) hx hb hts (wqs inW_X4) hown hK.1 hC.1 ((b + 1) - b) sg_gReader rfl 5 (by decide) (hts _ (wq wt_53)) (fun _ h9 => h9) rfl dX4_takeNumber_47 ?_
      refine lv_imul hx hb dX4_takeNumber_50 ?_
      refine lv_iload hx hb dX4_takeNumber_51 (lv_at hl 0 rfl) ?_
      refine lv_iadd hx hb dX4_takeNumber_53 ?_
      refine lv_bipush (v := 48) hx hb dX4_takeNumber_54 (by decide) ?_
      refine lv_isub hx hb dX4_takeNumber_56 ?_
      refine va_put (D := D) (ci := 4) (v := .int (((10 * (σ.1 (b + 1) 5)) + r1) - 48)) (ty := .int) (C := RX4) (T := TX4) (N := 8) hx hb hts (wqs inW_X4) tyX4 tyX4_ok nmX4 hown hK.1 hC.1 sg_D hS ((b + 1) - b) sg_gReader rfl 5 (by decide) (hts _ (wq wt_53)) (fun _ h9 => h9) rfl (by decide +kernel) rfl rfl (Nat.le_of_ble_eq_true rfl) dX4_takeNumber_57 (fun H locs hP _ hS => ?_)
      obtain ⟨σ3, eσ3, h⟩ := sg_lte h
      have hC : CW D κ b σ3 H := eσ3 ▸ CW_put (k := 5) (v := (((10 * (σ.1 (b + 1) 5)) + r1) - 48)) hC sg_aReader (sg_yReader _ _) hP
      obtain ⟨v4, ev4, h⟩ := sg_lte h
      refine lv_iinc (v := v4) (lv' := [(4, .int v4), (5, .int r1), (0, .ref (b + 1)), (1, .int x1), (2, .int x2), (3, .int x3)]) (k := 5) hx hb dX4_takeNumber_60 hl rfl (sg_inc (by decide) ev4) (by decide) rfl (fun ls hl => ?_)
      refine lv_goto (tgt := 8) hx hb dX4_takeNumber_63 (by decide) ?_
      exact hr8 h (lv_sub hl [2, 3, 4, 5, 0] rfl) hC hS
    · replace h := (if_pos hc).symm.trans h
      refine lv_aload_n hx hb dX4_takeNumber_35 rfl (lv_at hl 1 rfl) ?_
      refine lv_iload_n hx hb dX4_takeNumber_36 rfl (lv_at hl 4 rfl) ?_
      refine lv_iload hx hb dX4_takeNumber_37 (lv_at hl 5 rfl) ?_
      obtain ⟨r5, er5, h⟩ := Option.bind_eq_some_iff.mp h
      refine va_calli (va_runV (As := [.int x3, .int x4]) (rest := []) ⟨hx, hb, hml, hown, hts⟩ (c_X4_meet l D κ b σ x3 x4 _ er5) (cwV 2 hts (gwV wt_316 wt_318 wp_2 wt_2 wt_319) rfl rfl rfl (by decide +kernel) ⟨Nat.le_of_ble_eq_true rfl, Nat.le_of_ble_eq_true rfl⟩) (CW_preV hK hC sg_gReader rfl) rfl rfl hl.1 rfl (lv_room (Nat.le_of_ble_eq_true rfl)) dX4_takeNumber_39 ⟨Nat.zero_le _, Nat.zero_le _⟩) hS (fun _ _ h => h) (fun _ h => h) (fun r u t H locs ht _ hp hB _ _ hS => ?_)
      refine sg_topi hp.1 ?_
      have hC : CW D κ b r5.2 H := CW_b hB ht hp.2
      obtain ⟨hg, h⟩ := sg_gd h
      exact hret _ _ _ _ _ _ h (sg_bn hg) hC hS dX4_takeNumber_42
set_option maxHeartbeats 4000000 in
theorem w_X4_takeNumber_B8 {p : Program} {l : Launch} {e : Env} {s : State} {m : MethodId} {args : Array Value} {below : List Frame} {meth : Method} {c : Code} {Q : State → Prop} {D : va_G} {κ : Nat → ClassId} {b : Nat} {H0 : Heap} {rr : Int32 × Sg} (hZ : sg_Z p c s m args D κ cX4_takeNumber 6 RX4 wsX4_takeNumber) (hret : ∀ (v : Int32) (u : Sg) (H : Heap) (locs : List Loc) (pc : Nat) (ls : Array Slot), some (v, u) = some rr → narrow .boolean (.int v) = .int v → CW D κ b u H → va_S (sg_A b 892) H0 H locs → decode cX4_takeNumber pc = .ok (.ireturn, 1) → W p l e rm_X4_takeNumber s m args below meth c H locs 0 0 Q (F0 m pc ls [.int v])) : ∀ n : Nat, ∀ {σ : Sg} {x1 : Int32} {x2 : Int32} {x3 : Int32} {x4 : Int32} {H : Heap} {locs : List Loc} {ls : Array Slot}, fn_X4_takeNumber_B8 b n σ x1 x2 x3 x4 = some rr → lv_has ls 6 [(0, .ref (b + 1)), (1, .int x1), (2, .int x2), (3, .int x3), (4, .int x4)] → CW D κ b σ H → va_S (sg_A b 892) H0 H locs → W p l e rm_X4_takeNumber s m args below meth c H locs 0 0 Q (F0 m 8 ls []) := by
  intro n
  induction n with
  | zero => intro σ x1 x2 x3 x4 H locs ls h hl hC hS; cases (show (none : Option (Int32 × Sg)) = some rr from h)
  | succ n ih =>
    intro σ x1 x2 x3 x4 H locs ls h hl hC hS
    exact w_X4_takeNumber_B8b hZ hret ih (show fn_X4_takeNumber_B8b b (fn_X4_takeNumber_B8 b n) σ x1 x2 x3 x4 = some rr from h)  hl hC hS
def fn_X4_takeNumber (b : Nat) (σ : Sg) (x1 : Int32) (x2 : Int32) (x3 : Int32) : Option (Int32 × Sg) :=
  (sg_lt (sg_w σ (b + 1) 5 0) fun σ1 =>
  fn_X4_takeNumber_B8 b sg_N σ1 x1 x2 x3 x1)
set_option maxHeartbeats 4000000 in
set_option maxRecDepth 100000 in
theorem w_X4_takeNumber_B0 {p : Program} {l : Launch} {e : Env} {s : State} {m : MethodId} {args : Array Value} {below : List Frame} {meth : Method} {c : Code} {Q : State → Prop} {D : va_G} {κ : Nat → ClassId} {b : Nat} {H0 : Heap} {rr : Int32 × Sg} (hZ : sg_Z p c s m args D κ cX4_takeNumber 6 RX4 wsX4_takeNumber) (hret : ∀ (v : Int32) (u : Sg) (H : Heap) (locs : List Loc) (pc : Nat) (ls : Array Slot), some (v, u) = some rr → narrow .boolean (.int v) = .int v → CW D κ b u H → va_S (sg_A b 892) H0 H locs → decode cX4_takeNumber pc = .ok (.ireturn, 1) → W p l e rm_X4_takeNumber s m args below meth c H locs 0 0 Q (F0 m pc ls [.int v])) : ∀ {σ : Sg} {x1 : Int32} {x2 : Int32} {x3 : Int32} {H : Heap} {locs : List Loc} {ls : Array Slot}, fn_X4_takeNumber b σ x1 x2 x3 = some rr → lv_has ls 6 [(0, .ref (b + 1)), (1, .int x1), (2, .int x2), (3, .int x3)] → CW D κ b σ H → va_S (sg_A b 892) H0 H locs → W p l e rm_X4_takeNumber s m args below meth c H locs 0 0 Q (F0 m 0 ls []) := by
  obtain ⟨hx, hb, hml, hown, hts, hK⟩ := hZ
  intro σ x1 x2 x3 H locs ls h hl hC hS
  unfold fn_X4_takeNumber at h
  refine lv_aload_n hx hb dX4_takeNumber_0 rfl (lv_at hl 0 rfl) ?_
  refine lv_iconst (v := 0) hx hb dX4_takeNumber_1 (by decide) ?_
  refine va_put (D := D) (ci := 4) (v := .int 0) (ty := .int) (C := RX4) (T := TX4) (N := 8) hx hb hts (wqs inW_X4) tyX4 tyX4_ok nmX4 hown hK.1 hC.1 sg_D hS ((b + 1) - b) sg_gReader rfl 5 (by decide) (hts _ (wq wt_53)) (fun _ h9 => h9) rfl (by decide +kernel) rfl rfl (Nat.le_of_ble_eq_true rfl) dX4_takeNumber_2 (fun H locs hP _ hS => ?_)
  obtain ⟨σ1, eσ1, h⟩ := sg_lte h
  have hC : CW D κ b σ1 H := eσ1 ▸ CW_put (k := 5) (v := 0) hC sg_aReader (sg_yReader _ _) hP
  refine lv_iload_n hx hb dX4_takeNumber_5 rfl (lv_at hl 1 rfl) ?_
  refine lv_istore (lv' := [(4, .int x1), (0, .ref (b + 1)), (1, .int x1), (2, .int x2), (3, .int x3)]) hx hb dX4_takeNumber_6 hl (by decide) rfl (fun ls hl => ?_)
  exact w_X4_takeNumber_B8 ⟨hx, hb, hml, hown, hts, hK⟩ hret  sg_N h (lv_sub hl [1, 2, 3, 4, 0] rfl) hC hS
set_option maxHeartbeats 4000000 in
set_option maxRecDepth 100000 in
theorem c_X4_takeNumber (l : Launch) (D : va_G) (κ : Nat → ClassId) (b : Nat) (σ : Sg) (x1 : Int32) (x2 : Int32) (x3 : Int32) (rr : Int32 × Sg)  (h : fn_X4_takeNumber b σ x1 x2 x3 = some rr) : Met l yX4_takeNumber wsX4_takeNumber rm_X4_takeNumber (va_Pc [.ref (b + 1), .int x1, .int x2, .int x3] (fun U => KK D κ U ∧ CW D κ b σ U.heap)) (va_Qi (fun (r : Int32) (u : Sg) => r = rr.1 ∧ u = rr.2) (fun u t => CW D κ b u t.heap) (sg_A b 892)) 0 0 (sg_A b 892) := by
  refine Met.ofW (cc := cX4_takeNumber) (maxL := 6) (ret := (some .boolean)) (by decide) rfl ?_
  intro p e s m args below meth c s₁ B hml hv
  obtain ⟨rfl, hK, hC⟩ := hv
  have hr := B.returns
  have hlocks := B.notSynchronized
  have hl := lv_entry ([.ref (b + 1), .int x1, .int x2, .int x3]) (n := 6) (Nat.le_of_ble_eq_true rfl)
  rw [lg_entry_eq]
  generalize (lg_sl ([.ref (b + 1), .int x1, .int x2, .int x3]) ++ List.replicate (6 - (lg_sl ([.ref (b + 1), .int x1, .int x2, .int x3])).length) Slot.unset).toArray = ls at hl ⊢
  have hl : lv_has ls 6 [(0, .ref (b + 1)), (1, .int x1), (2, .int x2), (3, .int x3)] := hl
  exact w_X4_takeNumber_B0 ⟨B.exec, B.bytes, hml, findClass_of_methodNamed B.named, atoms_spec (ws := wsX4_takeNumber) B.pre, hK⟩ (fun v u H locs pc ls hq hbo hC hS hd => W.zret B.exec B.bytes hr hbo (fun t ht hW => ⟨⟨v, _, rfl, ⟨congrArg Prod.fst (Option.some.inj hq), congrArg Prod.snd (Option.some.inj hq)⟩, CW_e ht hC⟩, hS.F ht⟩) hS.2.2 hd) h  hl hC va_S.rf

-- RecordShelf$Reader.takeBase()Z
theorem dX4_takeBase_0 : decode cX4_takeBase 0 = .ok (.aload_n 0, 1) := by decide +kernel
theorem dX4_takeBase_1 : decode cX4_takeBase 1 = .ok (.bipush 12, 2) := by decide +kernel
theorem dX4_takeBase_3 : decode cX4_takeBase 3 = .ok (.iconst 5, 1) := by decide +kernel
theorem dX4_takeBase_4 : decode cX4_takeBase 4 = .ok (.bipush (-3), 2) := by decide +kernel
theorem dX4_takeBase_6 : decode cX4_takeBase 6 = .ok (.invokevirtual 91, 3) := by decide +kernel
theorem dX4_takeBase_9 : decode cX4_takeBase 9 = .ok (.ifCond .ne 5, 3) := by decide +kernel
theorem dX4_takeBase_12 : decode cX4_takeBase 12 = .ok (.iconst 0, 1) := by decide +kernel
theorem dX4_takeBase_13 : decode cX4_takeBase 13 = .ok (.ireturn, 1) := by decide +kernel
theorem dX4_takeBase_14 : decode cX4_takeBase 14 = .ok (.aload_n 0, 1) := by decide +kernel
theorem dX4_takeBase_15 : decode cX4_takeBase 15 = .ok (.aload_n 0, 1) := by decide +kernel
theorem dX4_takeBase_16 : decode cX4_takeBase 16 = .ok (.getfield 77, 3) := by decide +kernel
theorem dX4_takeBase_19 : decode cX4_takeBase 19 = .ok (.putfield 95, 3) := by decide +kernel
theorem dX4_takeBase_22 : decode cX4_takeBase 22 = .ok (.aload_n 0, 1) := by decide +kernel
theorem dX4_takeBase_23 : decode cX4_takeBase 23 = .ok (.aload_n 0, 1) := by decide +kernel
theorem dX4_takeBase_24 : decode cX4_takeBase 24 = .ok (.getfield 95, 3) := by decide +kernel
theorem dX4_takeBase_27 : decode cX4_takeBase 27 = .ok (.bipush 25, 2) := by decide +kernel
theorem dX4_takeBase_29 : decode cX4_takeBase 29 = .ok (.isub, 1) := by decide +kernel
theorem dX4_takeBase_30 : decode cX4_takeBase 30 = .ok (.bipush 12, 2) := by decide +kernel
theorem dX4_takeBase_32 : decode cX4_takeBase 32 = .ok (.idiv, 1) := by decide +kernel
theorem dX4_takeBase_33 : decode cX4_takeBase 33 = .ok (.putfield 98, 3) := by decide +kernel
theorem dX4_takeBase_36 : decode cX4_takeBase 36 = .ok (.aload_n 0, 1) := by decide +kernel
theorem dX4_takeBase_37 : decode cX4_takeBase 37 = .ok (.getfield 95, 3) := by decide +kernel
theorem dX4_takeBase_40 : decode cX4_takeBase 40 = .ok (.bipush 25, 2) := by decide +kernel
theorem dX4_takeBase_42 : decode cX4_takeBase 42 = .ok (.bipush 12, 2) := by decide +kernel
theorem dX4_takeBase_44 : decode cX4_takeBase 44 = .ok (.aload_n 0, 1) := by decide +kernel
theorem dX4_takeBase_45 : decode cX4_takeBase 45 = .ok (.getfield 98, 3) := by decide +kernel
theorem dX4_takeBase_48 : decode cX4_takeBase 48 = .ok (.imul, 1) := by decide +kernel
theorem dX4_takeBase_49 : decode cX4_takeBase 49 = .ok (.iadd, 1) := by decide +kernel
theorem dX4_takeBase_50 : decode cX4_takeBase 50 = .ok (.if_icmp .ne 37, 3) := by decide +kernel
theorem dX4_takeBase_53 : decode cX4_takeBase 53 = .ok (.aload_n 0, 1) := by decide +kernel
theorem dX4_takeBase_54 : decode cX4_takeBase 54 = .ok (.getfield 98, 3) := by decide +kernel
theorem dX4_takeBase_57 : decode cX4_takeBase 57 = .ok (.ifCond .lt 30, 3) := by decide +kernel
theorem dX4_takeBase_60 : decode cX4_takeBase 60 = .ok (.aload_n 0, 1) := by decide +kernel
theorem dX4_takeBase_61 : decode cX4_takeBase 61 = .ok (.getfield 98, 3) := by decide +kernel
theorem dX4_takeBase_64 : decode cX4_takeBase 64 = .ok (.bipush 8, 2) := by decide +kernel
theorem dX4_takeBase_66 : decode cX4_takeBase 66 = .ok (.if_icmp .gt 21, 3) := by decide +kernel
theorem dX4_takeBase_69 : decode cX4_takeBase 69 = .ok (.aload_n 0, 1) := by decide +kernel
theorem dX4_takeBase_70 : decode cX4_takeBase 70 = .ok (.getfield 95, 3) := by decide +kernel
theorem dX4_takeBase_73 : decode cX4_takeBase 73 = .ok (.aload_n 0, 1) := by decide +kernel
theorem dX4_takeBase_74 : decode cX4_takeBase 74 = .ok (.getfield 12, 3) := by decide +kernel
theorem dX4_takeBase_77 : decode cX4_takeBase 77 = .ok (.getfield 51, 3) := by decide +kernel
theorem dX4_takeBase_80 : decode cX4_takeBase 80 = .ok (.if_icmp .ge 7, 3) := by decide +kernel
theorem dX4_takeBase_83 : decode cX4_takeBase 83 = .ok (.iconst 1, 1) := by decide +kernel
theorem dX4_takeBase_84 : decode cX4_takeBase 84 = .ok (.goto 4, 3) := by decide +kernel
theorem dX4_takeBase_87 : decode cX4_takeBase 87 = .ok (.iconst 0, 1) := by decide +kernel
theorem dX4_takeBase_88 : decode cX4_takeBase 88 = .ok (.istore_n 1, 1) := by decide +kernel
theorem dX4_takeBase_89 : decode cX4_takeBase 89 = .ok (.iload_n 1, 1) := by decide +kernel
theorem dX4_takeBase_90 : decode cX4_takeBase 90 = .ok (.ifCond .ne 14, 3) := by decide +kernel
theorem dX4_takeBase_93 : decode cX4_takeBase 93 = .ok (.aload_n 0, 1) := by decide +kernel
theorem dX4_takeBase_94 : decode cX4_takeBase 94 = .ok (.bipush (-3), 2) := by decide +kernel
theorem dX4_takeBase_96 : decode cX4_takeBase 96 = .ok (.bipush 12, 2) := by decide +kernel
theorem dX4_takeBase_98 : decode cX4_takeBase 98 = .ok (.invokevirtual 73, 3) := by decide +kernel
theorem dX4_takeBase_101 : decode cX4_takeBase 101 = .ok (.ifCond .eq 7, 3) := by decide +kernel
theorem dX4_takeBase_104 : decode cX4_takeBase 104 = .ok (.iconst 1, 1) := by decide +kernel
theorem dX4_takeBase_105 : decode cX4_takeBase 105 = .ok (.goto 4, 3) := by decide +kernel
theorem dX4_takeBase_108 : decode cX4_takeBase 108 = .ok (.iconst 0, 1) := by decide +kernel
theorem dX4_takeBase_109 : decode cX4_takeBase 109 = .ok (.ireturn, 1) := by decide +kernel
def rm_X4_takeBase : Room := { frames := 2, cells := 0, slots := 0, locals := 47 }
def fn_X4_takeBase_B104 (b : Nat) (σ : Sg) : Option (Int32 × Sg) :=
  some (1, σ)
set_option maxHeartbeats 4000000 in
set_option maxRecDepth 100000 in
theorem w_X4_takeBase_B104 {p : Program} {l : Launch} {e : Env} {s : State} {m : MethodId} {args : Array Value} {below : List Frame} {meth : Method} {c : Code} {Q : State → Prop} {D : va_G} {κ : Nat → ClassId} {b : Nat} {H0 : Heap} {rr : Int32 × Sg} (hZ : sg_Z p c s m args D κ cX4_takeBase 2 RX4 wsX4_takeBase) (hret : ∀ (v : Int32) (u : Sg) (H : Heap) (locs : List Loc) (pc : Nat) (ls : Array Slot), some (v, u) = some rr → narrow .boolean (.int v) = .int v → CW D κ b u H → va_S (sg_A b 892) H0 H locs → decode cX4_takeBase pc = .ok (.ireturn, 1) → W p l e rm_X4_takeBase s m args below meth c H locs 0 0 Q (F0 m pc ls [.int v])) : ∀ {σ : Sg} {H : Heap} {locs : List Loc} {ls : Array Slot}, fn_X4_takeBase_B104 b σ = some rr → lv_has ls 2 [] → CW D κ b σ H → va_S (sg_A b 892) H0 H locs → W p l e rm_X4_takeBase s m args below meth c H locs 0 0 Q (F0 m 104 ls []) := by
  obtain ⟨hx, hb, hml, hown, hts, hK⟩ := hZ
  intro σ H locs ls h hl hC hS
  unfold fn_X4_takeBase_B104 at h
  refine lv_iconst (v := 1) hx hb dX4_takeBase_104 (by decide) ?_
  refine lv_goto (tgt := 109) hx hb dX4_takeBase_105 (by decide) ?_
  exact hret _ _ _ _ _ _ h (by decide) hC hS dX4_takeBase_109
def fn_X4_takeBase_B88 (b : Nat) (σ : Sg) (y0 : Int32) : Option (Int32 × Sg) :=
  (if y0 = 0 then
  ((fn_X4_meet b σ (-3) 12).bind fun r1 =>
  (if r1.1 = 0 then
  some (0, r1.2)
  else fn_X4_takeBase_B104 b r1.2))
  else fn_X4_takeBase_B104 b σ)
set_option maxHeartbeats 4000000 in
set_option maxRecDepth 100000 in
theorem w_X4_takeBase_B88 {p : Program} {l : Launch} {e : Env} {s : State} {m : MethodId} {args : Array Value} {below : List Frame} {meth : Method} {c : Code} {Q : State → Prop} {D : va_G} {κ : Nat → ClassId} {b : Nat} {H0 : Heap} {rr : Int32 × Sg} (hZ : sg_Z p c s m args D κ cX4_takeBase 2 RX4 wsX4_takeBase) (hret : ∀ (v : Int32) (u : Sg) (H : Heap) (locs : List Loc) (pc : Nat) (ls : Array Slot), some (v, u) = some rr → narrow .boolean (.int v) = .int v → CW D κ b u H → va_S (sg_A b 892) H0 H locs → decode cX4_takeBase pc = .ok (.ireturn, 1) → W p l e rm_X4_takeBase s m args below meth c H locs 0 0 Q (F0 m pc ls [.int v])) : ∀ {σ : Sg} {y0 : Int32} {H : Heap} {locs : List Loc} {ls : Array Slot}, fn_X4_takeBase_B88 b σ y0 = some rr → lv_has ls 2 [(0, .ref (b + 1))] → CW D κ b σ H → va_S (sg_A b 892) H0 H locs → W p l e rm_X4_takeBase s m args below meth c H locs 0 0 Q (F0 m 88 ls [.int y0]) := by
  obtain ⟨hx, hb, hml, hown, hts, hK⟩ := hZ
  intro σ y0 H locs ls h hl hC hS
  unfold fn_X4_takeBase_B88 at h
  refine lv_istore_n (lv' := [(1, .int y0), (0, .ref (b + 1))]) hx hb dX4_takeBase_88 rfl hl (by decide) rfl (fun ls hl => ?_)
  refine lv_iload_n hx hb dX4_takeBase_89 rfl (lv_at hl 0 rfl) ?_
  refine lv_if_ne (tgt := 104) hx hb dX4_takeBase_90 (by decide) (fun hc => ?_) (fun hc => ?_)
  · replace h := (if_neg hc).symm.trans h
    exact w_X4_takeBase_B104 ⟨hx, hb, hml, hown, hts, hK⟩ hret  h (lv_sub hl [] rfl) hC hS
  · replace h := (if_pos hc).symm.trans h
    refine lv_aload_n hx hb dX4_takeBase_93 rfl (lv_at hl 1 rfl) ?_
    refine lv_bipush (v := (-3)) hx hb dX4_takeBase_94 (by decide) ?_
    refine lv_bipush (v := 12) hx hb dX4_takeBase_96 (by decide) ?_
    obtain ⟨r1, er1, h⟩ := Option.bind_eq_some_iff.mp h
    refine va_calli (va_runV (As := [.int (-3), .int 12]) (rest := []) ⟨hx, hb, hml, hown, hts⟩ (c_X4_meet l D κ b σ (-3) 12 _ er1) (cwV 2 hts (gwV wt_316 wt_318 wp_2 wt_2 wt_319) rfl rfl rfl (by decide +kernel) ⟨Nat.le_of_ble_eq_true rfl, Nat.le_of_ble_eq_true rfl⟩) (CW_preV hK hC sg_gReader rfl) rfl rfl hl.1 rfl (lv_room (Nat.le_of_ble_eq_true rfl)) dX4_takeBase_98 ⟨Nat.zero_le _, Nat.zero_le _⟩) hS (fun _ _ h => h) (fun _ h => h) (fun r u t H locs ht _ hp hB _ _ hS => ?_)
    refine sg_topi hp.1 ?_
    have hC : CW D κ b r1.2 H := CW_b hB ht hp.2
    refine lv_if_eq (tgt := 108) hx hb dX4_takeBase_101 (by decide) (fun hc => ?_) (fun hc => ?_)
    · replace h := (if_pos hc).symm.trans h
      refine lv_iconst (v := 0) hx hb dX4_takeBase_108 (by decide) ?_
      exact hret _ _ _ _ _ _ h (by decide) hC hS dX4_takeBase_109
    · replace h := (if_neg hc).symm.trans h
      exact w_X4_takeBase_B104 ⟨hx, hb, hml, hown, hts, hK⟩ hret  h (lv_sub hl [] rfl) hC hS
def fn_X4_takeBase_B87 (b : Nat) (σ : Sg) : Option (Int32 × Sg) :=
  fn_X4_takeBase_B88 b σ 0
set_option maxHeartbeats 4000000 in
set_option maxRecDepth 100000 in
theorem w_X4_takeBase_B87 {p : Program} {l : Launch} {e : Env} {s : State} {m : MethodId} {args : Array Value} {below : List Frame} {meth : Method} {c : Code} {Q : State → Prop} {D : va_G} {κ : Nat → ClassId} {b : Nat} {H0 : Heap} {rr : Int32 × Sg} (hZ : sg_Z p c s m args D κ cX4_takeBase 2 RX4 wsX4_takeBase) (hret : ∀ (v : Int32) (u : Sg) (H : Heap) (locs : List Loc) (pc : Nat) (ls : Array Slot), some (v, u) = some rr → narrow .boolean (.int v) = .int v → CW D κ b u H → va_S (sg_A b 892) H0 H locs → decode cX4_takeBase pc = .ok (.ireturn, 1) → W p l e rm_X4_takeBase s m args below meth c H locs 0 0 Q (F0 m pc ls [.int v])) : ∀ {σ : Sg} {H : Heap} {locs : List Loc} {ls : Array Slot}, fn_X4_takeBase_B87 b σ = some rr → lv_has ls 2 [(0, .ref (b + 1))] → CW D κ b σ H → va_S (sg_A b 892) H0 H locs → W p l e rm_X4_takeBase s m args below meth c H locs 0 0 Q (F0 m 87 ls []) := by
  obtain ⟨hx, hb, hml, hown, hts, hK⟩ := hZ
  intro σ H locs ls h hl hC hS
  unfold fn_X4_takeBase_B87 at h
  refine lv_iconst (v := 0) hx hb dX4_takeBase_87 (by decide) ?_
  exact w_X4_takeBase_B88 ⟨hx, hb, hml, hown, hts, hK⟩ hret  h (lv_sub hl [0] rfl) hC hS
def fn_X4_takeBase (b : Nat) (σ : Sg) : Option (Int32 × Sg) :=
  ((fn_X4_takeNumber b σ 12 5 (-3)).bind fun r1 =>
  (if r1.1 = 0 then
  some (0, r1.2)
  else (sg_lt (sg_w r1.2 (b + 1) 2 (r1.2.1 (b + 1) 5)) fun σ2 =>
  (sg_lt (sg_w σ2 (b + 1) 3 (((σ2.1 (b + 1) 2) - 25) / 12)) fun σ3 =>
  (if (σ3.1 (b + 1) 2) = (25 + (12 * (σ3.1 (b + 1) 3))) then
  (if (σ3.1 (b + 1) 3) < 0 then
  fn_X4_takeBase_B87 b σ3
  else (if (8 : Int32) < (σ3.1 (b + 1) 3) then
  fn_X4_takeBase_B87 b σ3
  else (if ((σ3.1 (b + 2) 1) : Int32) ≤ (σ3.1 (b + 1) 2) then
  fn_X4_takeBase_B87 b σ3
  else fn_X4_takeBase_B88 b σ3 1)))
  else fn_X4_takeBase_B87 b σ3)))))
set_option maxHeartbeats 4000000 in
set_option maxRecDepth 100000 in
theorem w_X4_takeBase_B0 {p : Program} {l : Launch} {e : Env} {s : State} {m : MethodId} {args : Array Value} {below : List Frame} {meth : Method} {c : Code} {Q : State → Prop} {D : va_G} {κ : Nat → ClassId} {b : Nat} {H0 : Heap} {rr : Int32 × Sg} (hZ : sg_Z p c s m args D κ cX4_takeBase 2 RX4 wsX4_takeBase) (hret : ∀ (v : Int32) (u : Sg) (H : Heap) (locs : List Loc) (pc : Nat) (ls : Array Slot), some (v, u) = some rr → narrow .boolean (.int v) = .int v → CW D κ b u H → va_S (sg_A b 892) H0 H locs → decode cX4_takeBase pc = .ok (.ireturn, 1) → W p l e rm_X4_takeBase s m args below meth c H locs 0 0 Q (F0 m pc ls [.int v])) : ∀ {σ : Sg} {H : Heap} {locs : List Loc} {ls : Array Slot}, fn_X4_takeBase b σ = some rr → lv_has ls 2 [(0, .ref (b + 1))] → CW D κ b σ H → va_S (sg_A b 892) H0 H locs → W p l e rm_X4_takeBase s m args below meth c H locs 0 0 Q (F0 m 0 ls []) := by
  obtain ⟨hx, hb, hml, hown, hts, hK⟩ := hZ
  intro σ H locs ls h hl hC hS
  unfold fn_X4_takeBase at h
  refine lv_aload_n hx hb dX4_takeBase_0 rfl (lv_at hl 0 rfl) ?_
  refine lv_bipush (v := 12) hx hb dX4_takeBase_1 (by decide) ?_
  refine lv_iconst (v := 5) hx hb dX4_takeBase_3 (by decide) ?_
  refine lv_bipush (v := (-3)) hx hb dX4_takeBase_4 (by decide) ?_
  obtain ⟨r1, er1, h⟩ := Option.bind_eq_some_iff.mp h
  refine va_calli (va_runV (As := [.int 12, .int 5, .int (-3)]) (rest := []) ⟨hx, hb, hml, hown, hts⟩ (c_X4_takeNumber l D κ b σ 12 5 (-3) _ er1) (cwV 3 hts (gwV wt_331 wt_333 wp_5 wt_2 wt_334) rfl rfl rfl (by decide +kernel) ⟨Nat.le_of_ble_eq_true rfl, Nat.le_of_ble_eq_true rfl⟩) (CW_preV hK hC sg_gReader rfl) rfl rfl hl.1 rfl (lv_room (Nat.le_of_ble_eq_true rfl)) dX4_takeBase_6 ⟨Nat.zero_le _, Nat.zero_le _⟩) hS (fun _ _ h => h) (fun _ h => h) (fun r u t H locs ht _ hp hB _ _ hS => ?_)
  refine sg_topi hp.1 ?_
  have hC : CW D κ b r1.2 H := CW_b hB ht hp.2
  refine lv_if_ne (tgt := 14) hx hb dX4_takeBase_9 (by decide) (fun hc => ?_) (fun hc => ?_)
  · replace h := (if_neg hc).symm.trans h
    refine lv_aload_n hx hb dX4_takeBase_14 rfl (lv_at hl 0 rfl) ?_
    refine lv_aload_n hx hb dX4_takeBase_15 rfl (lv_at hl 0 rfl) ?_
    refine va_get (D := D) (ci := 4) (v := .int (r1.2.1 (b + 1) 5)) (C := RX4) (T := TX4) (N := 8) hx hb hts (wqs inW_X4) hown hK.1 hC.1 ((b + 1) - b) sg_gReader rfl 5 (by decide) (hts _ (wq wt_53)) (fun _ h9 => h9) rfl dX4_takeBase_16 ?_
    refine va_put (D := D) (ci := 4) (v := .int (r1.2.1 (b + 1) 5)) (ty := .int) (C := RX4) (T := TX4) (N := 8) hx hb hts (wqs inW_X4) tyX4 tyX4_ok nmX4 hown hK.1 hC.1 sg_D hS ((b + 1) - b) sg_gReader rfl 2 (by decide) (hts _ (wq wt_50)) (fun _ h9 => h9) rfl (by decide +kernel) rfl rfl (Nat.le_of_ble_eq_true rfl) dX4_takeBase_19 (fun H locs hP _ hS => ?_)
    obtain ⟨σ2, eσ2, h⟩ := sg_lte h
    have hC : CW D κ b σ2 H := eσ2 ▸ CW_put (k := 2) (v := (r1.2.1 (b + 1) 5)) hC sg_aReader (sg_yReader _ _) hP
    refine lv_aload_n hx hb dX4_takeBase_22 rfl (lv_at hl 0 rfl) ?_
    refine lv_aload_n hx hb dX4_takeBase_23 rfl (lv_at hl 0 rfl) ?_
    refine va_get (D := D) (ci := 4) (v := .int (σ2.1 (b + 1) 2)) (C := RX4) (T := TX4) (N := 8) hx hb hts (wqs inW_X4) hown hK.1 hC.1 ((b + 1) - b) sg_gReader rfl 2 (by decide) (hts _ (wq wt_50)) (fun _ h9 => h9) rfl dX4_takeBase_24 ?_
    refine lv_bipush (v := 25) hx hb dX4_takeBase_27 (by decide) ?_
    refine lv_isub hx hb dX4_takeBase_29 ?_
    refine lv_bipush (v := 12) hx hb dX4_takeBase_30 (by decide) ?_
    refine lv_idiv hx hb dX4_takeBase_32 (by decide) ?_
    refine va_put (D := D) (ci := 4) (v := .int (((σ2.1 (b + 1) 2) - 25) / 12)) (ty := .int) (C := RX4) (T := TX4) (N := 8) hx hb hts (wqs inW_X4) tyX4 tyX4_ok nmX4 hown hK.1 hC.1 sg_D hS ((b + 1) - b) sg_gReader rfl 3 (by decide) (hts _ (wq wt_51)) (fun _ h9 => h9) rfl (by decide +kernel) rfl rfl (Nat.le_of_ble_eq_true rfl) dX4_takeBase_33 (fun H locs hP _ hS => ?_)
    obtain ⟨σ3, eσ3, h⟩ := sg_lte h
    have hC : CW D κ b σ3 H := eσ3 ▸ CW_put (k := 3) (v := (((σ2.1 (b + 1) 2) - 25) / 12)) hC sg_aReader (sg_yReader _ _) hP
    refine lv_aload_n hx hb dX4_takeBase_36 rfl (lv_at hl 0 rfl) ?_
    refine va_get (D := D) (ci := 4) (v := .int (σ3.1 (b + 1) 2)) (C := RX4) (T := TX4) (N := 8) hx hb hts (wqs inW_X4) hown hK.1 hC.1 ((b + 1) - b) sg_gReader rfl 2 (by decide) (hts _ (wq wt_50)) (fun _ h9 => h9) rfl dX4_takeBase_37 ?_
    refine lv_bipush (v := 25) hx hb dX4_takeBase_40 (by decide) ?_
    refine lv_bipush (v := 12) hx hb dX4_takeBase_42 (by decide) ?_
    refine lv_aload_n hx hb dX4_takeBase_44 rfl (lv_at hl 0 rfl) ?_
    refine va_get (D := D) (ci := 4) (v := .int (σ3.1 (b + 1) 3)) (C := RX4) (T := TX4) (N := 8) hx hb hts (wqs inW_X4) hown hK.1 hC.1 ((b + 1) - b) sg_gReader rfl 3 (by decide) (hts _ (wq wt_51)) (fun _ h9 => h9) rfl dX4_takeBase_45 ?_
    refine lv_imul hx hb dX4_takeBase_48 ?_
    refine lv_iadd hx hb dX4_takeBase_49 ?_
    refine lv_icmp_ne (tgt := 87) hx hb dX4_takeBase_50 (by decide) (fun hc => ?_) (fun hc => ?_)
    · replace h := (if_neg hc).symm.trans h
      exact w_X4_takeBase_B87 ⟨hx, hb, hml, hown, hts, hK⟩ hret  h (lv_sub hl [0] rfl) hC hS
    · replace h := (if_pos hc).symm.trans h
      refine lv_aload_n hx hb dX4_takeBase_53 rfl (lv_at hl 0 rfl) ?_
      refine va_get (D := D) (ci := 4) (v := .int (σ3.1 (b + 1) 3)) (C := RX4) (T := TX4) (N := 8) hx hb hts (wqs inW_X4) hown hK.1 hC.1 ((b + 1) - b) sg_gReader rfl 3 (by decide) (hts _ (wq wt_51)) (fun _ h9 => h9) rfl dX4_takeBase_54 ?_
      refine lv_if_lt (tgt := 87) hx hb dX4_takeBase_57 (by decide) (fun hc => ?_) (fun hc => ?_)
      · replace h := (if_pos hc).symm.trans h
        exact w_X4_takeBase_B87 ⟨hx, hb, hml, hown, hts, hK⟩ hret  h (lv_sub hl [0] rfl) hC hS
      · replace h := (if_neg hc).symm.trans h
        refine lv_aload_n hx hb dX4_takeBase_60 rfl (lv_at hl 0 rfl) ?_
        refine va_get (D := D) (ci := 4) (v := .int (σ3.1 (b + 1) 3)) (C := RX4) (T := TX4) (N := 8) hx hb hts (wqs inW_X4) hown hK.1 hC.1 ((b + 1) - b) sg_gReader rfl 3 (by decide) (hts _ (wq wt_51)) (fun _ h9 => h9) rfl dX4_takeBase_61 ?_
        refine lv_bipush (v := 8) hx hb dX4_takeBase_64 (by decide) ?_
        refine lv_icmp_gt (tgt := 87) hx hb dX4_takeBase_66 (by decide) (fun hc => ?_) (fun hc => ?_)
        · replace h := (if_pos hc).symm.trans h
          exact w_X4_takeBase_B87 ⟨hx, hb, hml, hown, hts, hK⟩ hret  h (lv_sub hl [0] rfl) hC hS
        · replace h := (if_neg hc).symm.trans h
          refine lv_aload_n hx hb dX4_takeBase_69 rfl (lv_at hl 0 rfl) ?_
          refine va_get (D := D) (ci := 4) (v := .int (σ3.1 (b + 1) 2)) (C := RX4) (T := TX4) (N := 8) hx hb hts (wqs inW_X4) hown hK.1 hC.1 ((b + 1) - b) sg_gReader rfl 2 (by decide) (hts _ (wq wt_50)) (fun _ h9 => h9) rfl dX4_takeBase_70 ?_
          refine lv_aload_n hx hb dX4_takeBase_73 rfl (lv_at hl 0 rfl) ?_
          refine va_get (D := D) (ci := 4) (v := .ref (b + 2)) (C := RX4) (T := TX4) (N := 8) hx hb hts (wqs inW_X4) hown hK.1 hC.1 ((b + 1) - b) sg_gReader rfl 0 (by decide) (hts _ (wq wt_47)) (fun _ h9 => h9) rfl dX4_takeBase_74 ?_
          refine va_getN (D := D) (ci := 6) (v := .int (σ3.1 (b + 2) 1)) (C := RX6) (T := TX6) (N := 2) hx hb hts (wqs inW_X6) hown hK.1 hC.1 ((b + 2) - b) sg_gText rfl 1 (by decide) (nf_2 hK) (fun _ h9 => h9) rfl dX4_takeBase_77 ?_
          refine lv_icmp_ge (tgt := 87) hx hb dX4_takeBase_80 (by decide) (fun hc => ?_) (fun hc => ?_)
          · replace h := (if_pos hc).symm.trans h
            exact w_X4_takeBase_B87 ⟨hx, hb, hml, hown, hts, hK⟩ hret  h (lv_sub hl [0] rfl) hC hS
          · replace h := (if_neg hc).symm.trans h
            refine lv_iconst (v := 1) hx hb dX4_takeBase_83 (by decide) ?_
            refine lv_goto (tgt := 88) hx hb dX4_takeBase_84 (by decide) ?_
            exact w_X4_takeBase_B88 ⟨hx, hb, hml, hown, hts, hK⟩ hret  h (lv_sub hl [0] rfl) hC hS
  · replace h := (if_pos hc).symm.trans h
    refine lv_iconst (v := 0) hx hb dX4_takeBase_12 (by decide) ?_
    exact hret _ _ _ _ _ _ h (by decide) hC hS dX4_takeBase_13
set_option maxHeartbeats 4000000 in
set_option maxRecDepth 100000 in
theorem c_X4_takeBase (l : Launch) (D : va_G) (κ : Nat → ClassId) (b : Nat) (σ : Sg)  (rr : Int32 × Sg)  (h : fn_X4_takeBase b σ = some rr) : Met l yX4_takeBase wsX4_takeBase rm_X4_takeBase (va_Pc [.ref (b + 1)] (fun U => KK D κ U ∧ CW D κ b σ U.heap)) (va_Qi (fun (r : Int32) (u : Sg) => r = rr.1 ∧ u = rr.2) (fun u t => CW D κ b u t.heap) (sg_A b 892)) 0 0 (sg_A b 892) := by
  refine Met.ofW (cc := cX4_takeBase) (maxL := 2) (ret := (some .boolean)) (by decide) rfl ?_
  intro p e s m args below meth c s₁ B hml hv
  obtain ⟨rfl, hK, hC⟩ := hv
  have hr := B.returns
  have hlocks := B.notSynchronized
  have hl := lv_entry ([.ref (b + 1)]) (n := 2) (Nat.le_of_ble_eq_true rfl)
  rw [lg_entry_eq]
  generalize (lg_sl ([.ref (b + 1)]) ++ List.replicate (2 - (lg_sl ([.ref (b + 1)])).length) Slot.unset).toArray = ls at hl ⊢
  have hl : lv_has ls 2 [(0, .ref (b + 1))] := hl
  exact w_X4_takeBase_B0 ⟨B.exec, B.bytes, hml, findClass_of_methodNamed B.named, atoms_spec (ws := wsX4_takeBase) B.pre, hK⟩ (fun v u H locs pc ls hq hbo hC hS hd => W.zret B.exec B.bytes hr hbo (fun t ht hW => ⟨⟨v, _, rfl, ⟨congrArg Prod.fst (Option.some.inj hq), congrArg Prod.snd (Option.some.inj hq)⟩, CW_e ht hC⟩, hS.F ht⟩) hS.2.2 hd) h  hl hC va_S.rf

-- RecordShelf$Reader.checkTotal()Z
theorem dX4_checkTotal_0 : decode cX4_checkTotal 0 = .ok (.aload_n 0, 1) := by decide +kernel
theorem dX4_checkTotal_1 : decode cX4_checkTotal 1 = .ok (.getfield 95, 3) := by decide +kernel
theorem dX4_checkTotal_4 : decode cX4_checkTotal 4 = .ok (.aload_n 0, 1) := by decide +kernel
theorem dX4_checkTotal_5 : decode cX4_checkTotal 5 = .ok (.getfield 101, 3) := by decide +kernel
theorem dX4_checkTotal_8 : decode cX4_checkTotal 8 = .ok (.iadd, 1) := by decide +kernel
theorem dX4_checkTotal_9 : decode cX4_checkTotal 9 = .ok (.iconst 1, 1) := by decide +kernel
theorem dX4_checkTotal_10 : decode cX4_checkTotal 10 = .ok (.iadd, 1) := by decide +kernel
theorem dX4_checkTotal_11 : decode cX4_checkTotal 11 = .ok (.aload_n 0, 1) := by decide +kernel
theorem dX4_checkTotal_12 : decode cX4_checkTotal 12 = .ok (.getfield 12, 3) := by decide +kernel
theorem dX4_checkTotal_15 : decode cX4_checkTotal 15 = .ok (.getfield 51, 3) := by decide +kernel
theorem dX4_checkTotal_18 : decode cX4_checkTotal 18 = .ok (.if_icmp .eq 16, 3) := by decide +kernel
theorem dX4_checkTotal_21 : decode cX4_checkTotal 21 = .ok (.aload_n 0, 1) := by decide +kernel
theorem dX4_checkTotal_22 : decode cX4_checkTotal 22 = .ok (.bipush (-5), 2) := by decide +kernel
theorem dX4_checkTotal_24 : decode cX4_checkTotal 24 = .ok (.aload_n 0, 1) := by decide +kernel
theorem dX4_checkTotal_25 : decode cX4_checkTotal 25 = .ok (.getfield 95, 3) := by decide +kernel
theorem dX4_checkTotal_28 : decode cX4_checkTotal 28 = .ok (.invokevirtual 73, 3) := by decide +kernel
theorem dX4_checkTotal_31 : decode cX4_checkTotal 31 = .ok (.ifCond .eq 7, 3) := by decide +kernel
theorem dX4_checkTotal_34 : decode cX4_checkTotal 34 = .ok (.iconst 1, 1) := by decide +kernel
theorem dX4_checkTotal_35 : decode cX4_checkTotal 35 = .ok (.goto 4, 3) := by decide +kernel
theorem dX4_checkTotal_38 : decode cX4_checkTotal 38 = .ok (.iconst 0, 1) := by decide +kernel
theorem dX4_checkTotal_39 : decode cX4_checkTotal 39 = .ok (.ireturn, 1) := by decide +kernel
def rm_X4_checkTotal : Room := { frames := 1, cells := 0, slots := 0, locals := 22 }
def fn_X4_checkTotal_B34 (b : Nat) (σ : Sg) : Option (Int32 × Sg) :=
  some (1, σ)
set_option maxHeartbeats 4000000 in
set_option maxRecDepth 100000 in
theorem w_X4_checkTotal_B34 {p : Program} {l : Launch} {e : Env} {s : State} {m : MethodId} {args : Array Value} {below : List Frame} {meth : Method} {c : Code} {Q : State → Prop} {D : va_G} {κ : Nat → ClassId} {b : Nat} {H0 : Heap} {rr : Int32 × Sg} (hZ : sg_Z p c s m args D κ cX4_checkTotal 1 RX4 wsX4_checkTotal) (hret : ∀ (v : Int32) (u : Sg) (H : Heap) (locs : List Loc) (pc : Nat) (ls : Array Slot), some (v, u) = some rr → narrow .boolean (.int v) = .int v → CW D κ b u H → va_S (sg_A b 892) H0 H locs → decode cX4_checkTotal pc = .ok (.ireturn, 1) → W p l e rm_X4_checkTotal s m args below meth c H locs 0 0 Q (F0 m pc ls [.int v])) : ∀ {σ : Sg} {H : Heap} {locs : List Loc} {ls : Array Slot}, fn_X4_checkTotal_B34 b σ = some rr → lv_has ls 1 [] → CW D κ b σ H → va_S (sg_A b 892) H0 H locs → W p l e rm_X4_checkTotal s m args below meth c H locs 0 0 Q (F0 m 34 ls []) := by
  obtain ⟨hx, hb, hml, hown, hts, hK⟩ := hZ
  intro σ H locs ls h hl hC hS
  unfold fn_X4_checkTotal_B34 at h
  refine lv_iconst (v := 1) hx hb dX4_checkTotal_34 (by decide) ?_
  refine lv_goto (tgt := 39) hx hb dX4_checkTotal_35 (by decide) ?_
  exact hret _ _ _ _ _ _ h (by decide) hC hS dX4_checkTotal_39
def fn_X4_checkTotal (b : Nat) (σ : Sg) : Option (Int32 × Sg) :=
  (if (((σ.1 (b + 1) 2) + (σ.1 (b + 1) 4)) + 1) = (σ.1 (b + 2) 1) then
  fn_X4_checkTotal_B34 b σ
  else ((fn_X4_meet b σ (-5) (σ.1 (b + 1) 2)).bind fun r1 =>
  (if r1.1 = 0 then
  some (0, r1.2)
  else fn_X4_checkTotal_B34 b r1.2)))
set_option maxHeartbeats 4000000 in
set_option maxRecDepth 100000 in
theorem w_X4_checkTotal_B0 {p : Program} {l : Launch} {e : Env} {s : State} {m : MethodId} {args : Array Value} {below : List Frame} {meth : Method} {c : Code} {Q : State → Prop} {D : va_G} {κ : Nat → ClassId} {b : Nat} {H0 : Heap} {rr : Int32 × Sg} (hZ : sg_Z p c s m args D κ cX4_checkTotal 1 RX4 wsX4_checkTotal) (hret : ∀ (v : Int32) (u : Sg) (H : Heap) (locs : List Loc) (pc : Nat) (ls : Array Slot), some (v, u) = some rr → narrow .boolean (.int v) = .int v → CW D κ b u H → va_S (sg_A b 892) H0 H locs → decode cX4_checkTotal pc = .ok (.ireturn, 1) → W p l e rm_X4_checkTotal s m args below meth c H locs 0 0 Q (F0 m pc ls [.int v])) : ∀ {σ : Sg} {H : Heap} {locs : List Loc} {ls : Array Slot}, fn_X4_checkTotal b σ = some rr → lv_has ls 1 [(0, .ref (b + 1))] → CW D κ b σ H → va_S (sg_A b 892) H0 H locs → W p l e rm_X4_checkTotal s m args below meth c H locs 0 0 Q (F0 m 0 ls []) := by
  obtain ⟨hx, hb, hml, hown, hts, hK⟩ := hZ
  intro σ H locs ls h hl hC hS
  unfold fn_X4_checkTotal at h
  refine lv_aload_n hx hb dX4_checkTotal_0 rfl (lv_at hl 0 rfl) ?_
  refine va_get (D := D) (ci := 4) (v := .int (σ.1 (b + 1) 2)) (C := RX4) (T := TX4) (N := 8) hx hb hts (wqs inW_X4) hown hK.1 hC.1 ((b + 1) - b) sg_gReader rfl 2 (by decide) (hts _ (wq wt_50)) (fun _ h9 => h9) rfl dX4_checkTotal_1 ?_
  refine lv_aload_n hx hb dX4_checkTotal_4 rfl (lv_at hl 0 rfl) ?_
  refine va_get (D := D) (ci := 4) (v := .int (σ.1 (b + 1) 4)) (C := RX4) (T := TX4) (N := 8) hx hb hts (wqs inW_X4) hown hK.1 hC.1 ((b + 1) - b) sg_gReader rfl 4 (by decide) (hts _ (wq wt_52)) (fun _ h9 => h9) rfl dX4_checkTotal_5 ?_
  refine lv_iadd hx hb dX4_checkTotal_8 ?_
  refine lv_iconst (v := 1) hx hb dX4_checkTotal_9 (by decide) ?_
  refine lv_iadd hx hb dX4_checkTotal_10 ?_
  refine lv_aload_n hx hb dX4_checkTotal_11 rfl (lv_at hl 0 rfl) ?_
  refine va_get (D := D) (ci := 4) (v := .ref (b + 2)) (C := RX4) (T := TX4) (N := 8) hx hb hts (wqs inW_X4) hown hK.1 hC.1 ((b + 1) - b) sg_gReader rfl 0 (by decide) (hts _ (wq wt_47)) (fun _ h9 => h9) rfl dX4_checkTotal_12 ?_
  refine va_getN (D := D) (ci := 6) (v := .int (σ.1 (b + 2) 1)) (C := RX6) (T := TX6) (N := 2) hx hb hts (wqs inW_X6) hown hK.1 hC.1 ((b + 2) - b) sg_gText rfl 1 (by decide) (nf_2 hK) (fun _ h9 => h9) rfl dX4_checkTotal_15 ?_
  refine lv_icmp_eq (tgt := 34) hx hb dX4_checkTotal_18 (by decide) (fun hc => ?_) (fun hc => ?_)
  · replace h := (if_pos hc).symm.trans h
    exact w_X4_checkTotal_B34 ⟨hx, hb, hml, hown, hts, hK⟩ hret  h (lv_sub hl [] rfl) hC hS
  · replace h := (if_neg hc).symm.trans h
    refine lv_aload_n hx hb dX4_checkTotal_21 rfl (lv_at hl 0 rfl) ?_
    refine lv_bipush (v := (-5)) hx hb dX4_checkTotal_22 (by decide) ?_
    refine lv_aload_n hx hb dX4_checkTotal_24 rfl (lv_at hl 0 rfl) ?_
    refine va_get (D := D) (ci := 4) (v := .int (σ.1 (b + 1) 2)) (C := RX4) (T := TX4) (N := 8) hx hb hts (wqs inW_X4) hown hK.1 hC.1 ((b + 1) - b) sg_gReader rfl 2 (by decide) (hts _ (wq wt_50)) (fun _ h9 => h9) rfl dX4_checkTotal_25 ?_
    obtain ⟨r1, er1, h⟩ := Option.bind_eq_some_iff.mp h
    refine va_calli (va_runV (As := [.int (-5), .int (σ.1 (b + 1) 2)]) (rest := []) ⟨hx, hb, hml, hown, hts⟩ (c_X4_meet l D κ b σ (-5) (σ.1 (b + 1) 2) _ er1) (cwV 2 hts (gwV wt_316 wt_318 wp_2 wt_2 wt_319) rfl rfl rfl (by decide +kernel) ⟨Nat.le_of_ble_eq_true rfl, Nat.le_of_ble_eq_true rfl⟩) (CW_preV hK hC sg_gReader rfl) rfl rfl hl.1 rfl (lv_room (Nat.le_of_ble_eq_true rfl)) dX4_checkTotal_28 ⟨Nat.zero_le _, Nat.zero_le _⟩) hS (fun _ _ h => h) (fun _ h => h) (fun r u t H locs ht _ hp hB _ _ hS => ?_)
    refine sg_topi hp.1 ?_
    have hC : CW D κ b r1.2 H := CW_b hB ht hp.2
    refine lv_if_eq (tgt := 38) hx hb dX4_checkTotal_31 (by decide) (fun hc => ?_) (fun hc => ?_)
    · replace h := (if_pos hc).symm.trans h
      refine lv_iconst (v := 0) hx hb dX4_checkTotal_38 (by decide) ?_
      exact hret _ _ _ _ _ _ h (by decide) hC hS dX4_checkTotal_39
    · replace h := (if_neg hc).symm.trans h
      exact w_X4_checkTotal_B34 ⟨hx, hb, hml, hown, hts, hK⟩ hret  h (lv_sub hl [] rfl) hC hS
set_option maxHeartbeats 4000000 in
set_option maxRecDepth 100000 in
theorem c_X4_checkTotal (l : Launch) (D : va_G) (κ : Nat → ClassId) (b : Nat) (σ : Sg)  (rr : Int32 × Sg)  (h : fn_X4_checkTotal b σ = some rr) : Met l yX4_checkTotal wsX4_checkTotal rm_X4_checkTotal (va_Pc [.ref (b + 1)] (fun U => KK D κ U ∧ CW D κ b σ U.heap)) (va_Qi (fun (r : Int32) (u : Sg) => r = rr.1 ∧ u = rr.2) (fun u t => CW D κ b u t.heap) (sg_A b 892)) 0 0 (sg_A b 892) := by
  refine Met.ofW (cc := cX4_checkTotal) (maxL := 1) (ret := (some .boolean)) (by decide) rfl ?_
  intro p e s m args below meth c s₁ B hml hv
  obtain ⟨rfl, hK, hC⟩ := hv
  have hr := B.returns
  have hlocks := B.notSynchronized
  have hl := lv_entry ([.ref (b + 1)]) (n := 1) (Nat.le_of_ble_eq_true rfl)
  rw [lg_entry_eq]
  generalize (lg_sl ([.ref (b + 1)]) ++ List.replicate (1 - (lg_sl ([.ref (b + 1)])).length) Slot.unset).toArray = ls at hl ⊢
  have hl : lv_has ls 1 [(0, .ref (b + 1))] := hl
  exact w_X4_checkTotal_B0 ⟨B.exec, B.bytes, hml, findClass_of_methodNamed B.named, atoms_spec (ws := wsX4_checkTotal) B.pre, hK⟩ (fun v u H locs pc ls hq hbo hC hS hd => W.zret B.exec B.bytes hr hbo (fun t ht hW => ⟨⟨v, _, rfl, ⟨congrArg Prod.fst (Option.some.inj hq), congrArg Prod.snd (Option.some.inj hq)⟩, CW_e ht hC⟩, hS.F ht⟩) hS.2.2 hd) h  hl hC va_S.rf

-- RecordShelf$Reader.takeLetter(LRecordShelf$Subfield;I)Z
theorem dX4_takeLetter_0 : decode cX4_takeLetter 0 = .ok (.aload_n 0, 1) := by decide +kernel
theorem dX4_takeLetter_1 : decode cX4_takeLetter 1 = .ok (.getfield 12, 3) := by decide +kernel
theorem dX4_takeLetter_4 : decode cX4_takeLetter 4 = .ok (.iload_n 2, 1) := by decide +kernel
theorem dX4_takeLetter_5 : decode cX4_takeLetter 5 = .ok (.invokevirtual 65, 3) := by decide +kernel
theorem dX4_takeLetter_8 : decode cX4_takeLetter 8 = .ok (.istore_n 3, 1) := by decide +kernel
theorem dX4_takeLetter_9 : decode cX4_takeLetter 9 = .ok (.iload_n 3, 1) := by decide +kernel
theorem dX4_takeLetter_10 : decode cX4_takeLetter 10 = .ok (.invokestatic 84, 3) := by decide +kernel
theorem dX4_takeLetter_13 : decode cX4_takeLetter 13 = .ok (.ifCond .ne 11, 3) := by decide +kernel
theorem dX4_takeLetter_16 : decode cX4_takeLetter 16 = .ok (.aload_n 0, 1) := by decide +kernel
theorem dX4_takeLetter_17 : decode cX4_takeLetter 17 = .ok (.bipush (-6), 2) := by decide +kernel
theorem dX4_takeLetter_19 : decode cX4_takeLetter 19 = .ok (.iload_n 2, 1) := by decide +kernel
theorem dX4_takeLetter_20 : decode cX4_takeLetter 20 = .ok (.invokevirtual 73, 3) := by decide +kernel
theorem dX4_takeLetter_23 : decode cX4_takeLetter 23 = .ok (.ireturn, 1) := by decide +kernel
theorem dX4_takeLetter_24 : decode cX4_takeLetter 24 = .ok (.aload_n 1, 1) := by decide +kernel
theorem dX4_takeLetter_25 : decode cX4_takeLetter 25 = .ok (.invokevirtual 143, 3) := by decide +kernel
theorem dX4_takeLetter_28 : decode cX4_takeLetter 28 = .ok (.ifCond .eq 11, 3) := by decide +kernel
theorem dX4_takeLetter_31 : decode cX4_takeLetter 31 = .ok (.aload_n 0, 1) := by decide +kernel
theorem dX4_takeLetter_32 : decode cX4_takeLetter 32 = .ok (.bipush (-2), 2) := by decide +kernel
theorem dX4_takeLetter_34 : decode cX4_takeLetter 34 = .ok (.iload_n 2, 1) := by decide +kernel
theorem dX4_takeLetter_35 : decode cX4_takeLetter 35 = .ok (.invokevirtual 73, 3) := by decide +kernel
theorem dX4_takeLetter_38 : decode cX4_takeLetter 38 = .ok (.ireturn, 1) := by decide +kernel
theorem dX4_takeLetter_39 : decode cX4_takeLetter 39 = .ok (.aload_n 1, 1) := by decide +kernel
theorem dX4_takeLetter_40 : decode cX4_takeLetter 40 = .ok (.iload_n 3, 1) := by decide +kernel
theorem dX4_takeLetter_41 : decode cX4_takeLetter 41 = .ok (.i2c, 1) := by decide +kernel
theorem dX4_takeLetter_42 : decode cX4_takeLetter 42 = .ok (.invokevirtual 148, 3) := by decide +kernel
theorem dX4_takeLetter_45 : decode cX4_takeLetter 45 = .ok (.iconst 1, 1) := by decide +kernel
theorem dX4_takeLetter_46 : decode cX4_takeLetter 46 = .ok (.ireturn, 1) := by decide +kernel
def rm_X4_takeLetter : Room := { frames := 3, cells := 0, slots := 0, locals := 64 }
def fn_X4_takeLetter (b : Nat) (σ : Sg) (x1 : Nat) (x2 : Int32) : Option (Int32 × Sg) :=
  ((fn_X6_codeAt b σ x2).bind fun r1 =>
  ((fn_X7_isPlain r1).bind fun r2 =>
  (if r2 = 0 then
  ((fn_X4_meet b σ (-6) x2).bind fun r6 =>
  (if sg_bo r6.1 then some (r6.1, r6.2) else none))
  else ((fn_X5_isFull b σ x1).bind fun r3 =>
  (if r3 = 0 then
  ((fn_X5_add b σ x1 (sg_c r1)).bind fun r4 =>
  some (1, r4))
  else ((fn_X4_meet b σ (-2) x2).bind fun r5 =>
  (if sg_bo r5.1 then some (r5.1, r5.2) else none)))))))
set_option maxHeartbeats 4000000 in
set_option maxRecDepth 100000 in
theorem w_X4_takeLetter_B0 {p : Program} {l : Launch} {e : Env} {s : State} {m : MethodId} {args : Array Value} {below : List Frame} {meth : Method} {c : Code} {Q : State → Prop} {D : va_G} {κ : Nat → ClassId} {b : Nat} {H0 : Heap} {rr : Int32 × Sg} (hZ : sg_Z p c s m args D κ cX4_takeLetter 4 RX4 wsX4_takeLetter) (hret : ∀ (v : Int32) (u : Sg) (H : Heap) (locs : List Loc) (pc : Nat) (ls : Array Slot), some (v, u) = some rr → narrow .boolean (.int v) = .int v → CW D κ b u H → va_S (sg_A b 892) H0 H locs → decode cX4_takeLetter pc = .ok (.ireturn, 1) → W p l e rm_X4_takeLetter s m args below meth c H locs 0 0 Q (F0 m pc ls [.int v])) : ∀ {σ : Sg} {x1 : Nat} {x2 : Int32} {H : Heap} {locs : List Loc} {ls : Array Slot}, fn_X4_takeLetter b σ x1 x2 = some rr → is_Sub b x1 → lv_has ls 4 [(0, .ref (b + 1)), (1, .ref x1), (2, .int x2)] → CW D κ b σ H → va_S (sg_A b 892) H0 H locs → W p l e rm_X4_takeLetter s m args below meth c H locs 0 0 Q (F0 m 0 ls []) := by
  obtain ⟨hx, hb, hml, hown, hts, hK⟩ := hZ
  intro σ x1 x2 H locs ls h hx1 hl hC hS
  unfold fn_X4_takeLetter at h
  refine lv_aload_n hx hb dX4_takeLetter_0 rfl (lv_at hl 0 rfl) ?_
  refine va_get (D := D) (ci := 4) (v := .ref (b + 2)) (C := RX4) (T := TX4) (N := 8) hx hb hts (wqs inW_X4) hown hK.1 hC.1 ((b + 1) - b) sg_gReader rfl 0 (by decide) (hts _ (wq wt_47)) (fun _ h9 => h9) rfl dX4_takeLetter_1 ?_
  refine lv_iload_n hx hb dX4_takeLetter_4 rfl (lv_at hl 2 rfl) ?_
  obtain ⟨r1, er1, h⟩ := Option.bind_eq_some_iff.mp h
  refine va_calli (va_runV (As := [.int x2]) (rest := []) ⟨hx, hb, hml, hown, hts⟩ (c_X6_codeAt l D κ b σ x2 _ er1) (cwV 1 hts (gwV wt_312 wt_244 wt_245 wt_3 wt_246) rfl rfl rfl (by decide +kernel) ⟨Nat.le_of_ble_eq_true rfl, Nat.le_of_ble_eq_true rfl⟩) (CW_preV hK hC sg_gText rfl) rfl rfl hl.1 rfl (lv_room (Nat.le_of_ble_eq_true rfl)) dX4_takeLetter_5 ⟨Nat.zero_le _, Nat.zero_le _⟩) hS (fun _ _ h => h) (fun _ h => h) (fun r u t H locs ht _ hp hB _ _ hS => ?_)
  refine sg_topi hp.1 ?_
  have hC : CW D κ b σ H := CW_b hB ht hp.2
  refine lv_istore_n (lv' := [(3, .int r1), (0, .ref (b + 1)), (1, .ref x1), (2, .int x2)]) hx hb dX4_takeLetter_8 rfl hl (by decide) rfl (fun ls hl => ?_)
  refine lv_iload_n hx hb dX4_takeLetter_9 rfl (lv_at hl 0 rfl) ?_
  obtain ⟨r2, er2, h⟩ := Option.bind_eq_some_iff.mp h
  refine va_calli (va_runSN (As := [.int r1]) (rest := []) ⟨hx, hb, hml, hown, hts⟩ (c_X7_isPlain l D κ b σ r1 _ er2) ⟨va_cnB 1 hts (gw0 wt_326) rfl rfl rfl (nm_5 hK) (hts _ (wq wt_1)) (by decide +kernel) ⟨Nat.le_of_ble_eq_true rfl, Nat.le_of_ble_eq_true rfl⟩, hts _ (wq wt_325), trivial⟩ (CW_preS hK hC) rfl rfl hl.1 rfl (lv_room (Nat.le_of_ble_eq_true rfl)) dX4_takeLetter_10 ⟨Nat.zero_le _, Nat.zero_le _⟩) hS (fun _ _ h => h) (fun _ h => h) (fun r u t H locs ht _ hp hB _ _ hS => ?_)
  refine sg_topi hp.1 ?_
  have hC : CW D κ b σ H := CW_b hB ht hp.2
  refine lv_if_ne (tgt := 24) hx hb dX4_takeLetter_13 (by decide) (fun hc => ?_) (fun hc => ?_)
  · replace h := (if_neg hc).symm.trans h
    refine lv_aload_n hx hb dX4_takeLetter_24 rfl (lv_at hl 2 rfl) ?_
    obtain ⟨r3, er3, h⟩ := Option.bind_eq_some_iff.mp h
    refine va_calli (va_runV (As := []) (rest := []) ⟨hx, hb, hml, hown, hts⟩ (c_X5_isFull l D κ b σ x1 _ hx1 er3) (cwV 0 hts (gwV wt_390 wt_391 wt_392 wt_8 wt_393) rfl rfl rfl (by decide +kernel) ⟨Nat.le_of_ble_eq_true rfl, Nat.le_of_ble_eq_true rfl⟩) (CW_preV hK hC (sg_gSub hx1) rfl) rfl rfl hl.1 rfl (lv_room (Nat.le_of_ble_eq_true rfl)) dX4_takeLetter_25 ⟨Nat.zero_le _, Nat.zero_le _⟩) hS (fun _ _ h => h) (fun _ h => h) (fun r u t H locs ht _ hp hB _ _ hS => ?_)
    refine sg_topi hp.1 ?_
    have hC : CW D κ b σ H := CW_b hB ht hp.2
    refine lv_if_eq (tgt := 39) hx hb dX4_takeLetter_28 (by decide) (fun hc => ?_) (fun hc => ?_)
    · replace h := (if_pos hc).symm.trans h
      refine lv_aload_n hx hb dX4_takeLetter_39 rfl (lv_at hl 2 rfl) ?_
      refine lv_iload_n hx hb dX4_takeLetter_40 rfl (lv_at hl 0 rfl) ?_
      refine lv_i2c (v := (sg_c r1)) hx hb dX4_takeLetter_41 rfl ?_
      obtain ⟨r4, er4, h⟩ := Option.bind_eq_some_iff.mp h
      refine va_callv (va_runV (As := [.int (sg_c r1)]) (rest := []) ⟨hx, hb, hml, hown, hts⟩ (c_X5_add l D κ b σ x1 (sg_c r1) _ hx1 er4) (cwV 1 hts (gwV wt_394 wt_395 wt_396 wt_8 wt_397) rfl rfl rfl (by decide +kernel) ⟨Nat.le_of_ble_eq_true rfl, Nat.le_of_ble_eq_true rfl⟩) (CW_preV hK hC (sg_gSub hx1) rfl) rfl rfl hl.1 rfl (lv_room (Nat.le_of_ble_eq_true rfl)) dX4_takeLetter_42 ⟨Nat.zero_le _, Nat.zero_le _⟩) hS (fun _ _ h => h) (fun _ h => h) (fun u t H locs ht _ hp hB _ _ hS => ?_)
      have hC : CW D κ b r4 H := CW_b hB ht hp
      refine lv_iconst (v := 1) hx hb dX4_takeLetter_45 (by decide) ?_
      exact hret _ _ _ _ _ _ h (by decide) hC hS dX4_takeLetter_46
    · replace h := (if_neg hc).symm.trans h
      refine lv_aload_n hx hb dX4_takeLetter_31 rfl (lv_at hl 1 rfl) ?_
      refine lv_bipush (v := (-2)) hx hb dX4_takeLetter_32 (by decide) ?_
      refine lv_iload_n hx hb dX4_takeLetter_34 rfl (lv_at hl 3 rfl) ?_
      obtain ⟨r5, er5, h⟩ := Option.bind_eq_some_iff.mp h
      refine va_calli (va_runV (As := [.int (-2), .int x2]) (rest := []) ⟨hx, hb, hml, hown, hts⟩ (c_X4_meet l D κ b σ (-2) x2 _ er5) (cwV 2 hts (gwV wt_316 wt_318 wp_2 wt_2 wt_319) rfl rfl rfl (by decide +kernel) ⟨Nat.le_of_ble_eq_true rfl, Nat.le_of_ble_eq_true rfl⟩) (CW_preV hK hC sg_gReader rfl) rfl rfl hl.1 rfl (lv_room (Nat.le_of_ble_eq_true rfl)) dX4_takeLetter_35 ⟨Nat.zero_le _, Nat.zero_le _⟩) hS (fun _ _ h => h) (fun _ h => h) (fun r u t H locs ht _ hp hB _ _ hS => ?_)
      refine sg_topi hp.1 ?_
      have hC : CW D κ b r5.2 H := CW_b hB ht hp.2
      obtain ⟨hg, h⟩ := sg_gd h
      exact hret _ _ _ _ _ _ h (sg_bn hg) hC hS dX4_takeLetter_38
  · replace h := (if_pos hc).symm.trans h
    refine lv_aload_n hx hb dX4_takeLetter_16 rfl (lv_at hl 1 rfl) ?_
    refine lv_bipush (v := (-6)) hx hb dX4_takeLetter_17 (by decide) ?_
    refine lv_iload_n hx hb dX4_takeLetter_19 rfl (lv_at hl 3 rfl) ?_
    obtain ⟨r6, er6, h⟩ := Option.bind_eq_some_iff.mp h
    refine va_calli (va_runV (As := [.int (-6), .int x2]) (rest := []) ⟨hx, hb, hml, hown, hts⟩ (c_X4_meet l D κ b σ (-6) x2 _ er6) (cwV 2 hts (gwV wt_316 wt_318 wp_2 wt_2 wt_319) rfl rfl rfl (by decide +kernel) ⟨Nat.le_of_ble_eq_true rfl, Nat.le_of_ble_eq_true rfl⟩) (CW_preV hK hC sg_gReader rfl) rfl rfl hl.1 rfl (lv_room (Nat.le_of_ble_eq_true rfl)) dX4_takeLetter_20 ⟨Nat.zero_le _, Nat.zero_le _⟩) hS (fun _ _ h => h) (fun _ h => h) (fun r u t H locs ht _ hp hB _ _ hS => ?_)
    refine sg_topi hp.1 ?_
    have hC : CW D κ b r6.2 H := CW_b hB ht hp.2
    obtain ⟨hg, h⟩ := sg_gd h
    exact hret _ _ _ _ _ _ h (sg_bn hg) hC hS dX4_takeLetter_23
set_option maxHeartbeats 4000000 in
set_option maxRecDepth 100000 in
theorem c_X4_takeLetter (l : Launch) (D : va_G) (κ : Nat → ClassId) (b : Nat) (σ : Sg) (x1 : Nat) (x2 : Int32) (rr : Int32 × Sg) (hx1 : is_Sub b x1) (h : fn_X4_takeLetter b σ x1 x2 = some rr) : Met l yX4_takeLetter wsX4_takeLetter rm_X4_takeLetter (va_Pc [.ref (b + 1), .ref x1, .int x2] (fun U => KK D κ U ∧ CW D κ b σ U.heap)) (va_Qi (fun (r : Int32) (u : Sg) => r = rr.1 ∧ u = rr.2) (fun u t => CW D κ b u t.heap) (sg_A b 892)) 0 0 (sg_A b 892) := by
  refine Met.ofW (cc := cX4_takeLetter) (maxL := 4) (ret := (some .boolean)) (by decide) rfl ?_
  intro p e s m args below meth c s₁ B hml hv
  obtain ⟨rfl, hK, hC⟩ := hv
  have hr := B.returns
  have hlocks := B.notSynchronized
  have hl := lv_entry ([.ref (b + 1), .ref x1, .int x2]) (n := 4) (Nat.le_of_ble_eq_true rfl)
  rw [lg_entry_eq]
  generalize (lg_sl ([.ref (b + 1), .ref x1, .int x2]) ++ List.replicate (4 - (lg_sl ([.ref (b + 1), .ref x1, .int x2])).length) Slot.unset).toArray = ls at hl ⊢
  have hl : lv_has ls 4 [(0, .ref (b + 1)), (1, .ref x1), (2, .int x2)] := hl
  exact w_X4_takeLetter_B0 ⟨B.exec, B.bytes, hml, findClass_of_methodNamed B.named, atoms_spec (ws := wsX4_takeLetter) B.pre, hK⟩ (fun v u H locs pc ls hq hbo hC hS hd => W.zret B.exec B.bytes hr hbo (fun t ht hW => ⟨⟨v, _, rfl, ⟨congrArg Prod.fst (Option.some.inj hq), congrArg Prod.snd (Option.some.inj hq)⟩, CW_e ht hC⟩, hS.F ht⟩) hS.2.2 hd) h hx1 hl hC va_S.rf

-- RecordShelf$Reader.takeSimple(LRecordShelf$Field;II)Z
theorem dX4_takeSimple_0 : decode cX4_takeSimple 0 = .ok (.aload_n 1, 1) := by decide +kernel
theorem dX4_takeSimple_1 : decode cX4_takeSimple 1 = .ok (.iconst 0, 1) := by decide +kernel
theorem dX4_takeSimple_2 : decode cX4_takeSimple 2 = .ok (.invokevirtual 131, 3) := by decide +kernel
theorem dX4_takeSimple_5 : decode cX4_takeSimple 5 = .ok (.iload_n 2, 1) := by decide +kernel
theorem dX4_takeSimple_6 : decode cX4_takeSimple 6 = .ok (.istore 4, 2) := by decide +kernel
theorem dX4_takeSimple_8 : decode cX4_takeSimple 8 = .ok (.iload 4, 2) := by decide +kernel
theorem dX4_takeSimple_10 : decode cX4_takeSimple 10 = .ok (.iload_n 3, 1) := by decide +kernel
theorem dX4_takeSimple_11 : decode cX4_takeSimple 11 = .ok (.if_icmp .ge 26, 3) := by decide +kernel
theorem dX4_takeSimple_14 : decode cX4_takeSimple 14 = .ok (.aload_n 0, 1) := by decide +kernel
theorem dX4_takeSimple_15 : decode cX4_takeSimple 15 = .ok (.aload_n 1, 1) := by decide +kernel
theorem dX4_takeSimple_16 : decode cX4_takeSimple 16 = .ok (.getfield 135, 3) := by decide +kernel
theorem dX4_takeSimple_19 : decode cX4_takeSimple 19 = .ok (.iconst 0, 1) := by decide +kernel
theorem dX4_takeSimple_20 : decode cX4_takeSimple 20 = .ok (.aaload, 1) := by decide +kernel
theorem dX4_takeSimple_21 : decode cX4_takeSimple 21 = .ok (.iload 4, 2) := by decide +kernel
theorem dX4_takeSimple_23 : decode cX4_takeSimple 23 = .ok (.invokevirtual 139, 3) := by decide +kernel
theorem dX4_takeSimple_26 : decode cX4_takeSimple 26 = .ok (.ifCond .ne 5, 3) := by decide +kernel
theorem dX4_takeSimple_29 : decode cX4_takeSimple 29 = .ok (.iconst 0, 1) := by decide +kernel
theorem dX4_takeSimple_30 : decode cX4_takeSimple 30 = .ok (.ireturn, 1) := by decide +kernel
theorem dX4_takeSimple_31 : decode cX4_takeSimple 31 = .ok (.iinc 4 1, 3) := by decide +kernel
theorem dX4_takeSimple_34 : decode cX4_takeSimple 34 = .ok (.goto (-26), 3) := by decide +kernel
theorem dX4_takeSimple_37 : decode cX4_takeSimple 37 = .ok (.aload_n 0, 1) := by decide +kernel
theorem dX4_takeSimple_38 : decode cX4_takeSimple 38 = .ok (.getfield 12, 3) := by decide +kernel
theorem dX4_takeSimple_41 : decode cX4_takeSimple 41 = .ok (.iload_n 3, 1) := by decide +kernel
theorem dX4_takeSimple_42 : decode cX4_takeSimple 42 = .ok (.invokevirtual 65, 3) := by decide +kernel
theorem dX4_takeSimple_45 : decode cX4_takeSimple 45 = .ok (.bipush 30, 2) := by decide +kernel
theorem dX4_takeSimple_47 : decode cX4_takeSimple 47 = .ok (.if_icmp .eq 13, 3) := by decide +kernel
theorem dX4_takeSimple_50 : decode cX4_takeSimple 50 = .ok (.aload_n 0, 1) := by decide +kernel
theorem dX4_takeSimple_51 : decode cX4_takeSimple 51 = .ok (.bipush (-6), 2) := by decide +kernel
theorem dX4_takeSimple_53 : decode cX4_takeSimple 53 = .ok (.iload_n 3, 1) := by decide +kernel
theorem dX4_takeSimple_54 : decode cX4_takeSimple 54 = .ok (.invokevirtual 73, 3) := by decide +kernel
theorem dX4_takeSimple_57 : decode cX4_takeSimple 57 = .ok (.ifCond .eq 7, 3) := by decide +kernel
theorem dX4_takeSimple_60 : decode cX4_takeSimple 60 = .ok (.iconst 1, 1) := by decide +kernel
theorem dX4_takeSimple_61 : decode cX4_takeSimple 61 = .ok (.goto 4, 3) := by decide +kernel
theorem dX4_takeSimple_64 : decode cX4_takeSimple 64 = .ok (.iconst 0, 1) := by decide +kernel
theorem dX4_takeSimple_65 : decode cX4_takeSimple 65 = .ok (.ireturn, 1) := by decide +kernel
def rm_X4_takeSimple : Room := { frames := 4, cells := 0, slots := 0, locals := 87 }
def fn_X4_takeSimple_B60 (b : Nat) (σ : Sg) : Option (Int32 × Sg) :=
  some (1, σ)
set_option maxHeartbeats 4000000 in
set_option maxRecDepth 100000 in
theorem w_X4_takeSimple_B60 {p : Program} {l : Launch} {e : Env} {s : State} {m : MethodId} {args : Array Value} {below : List Frame} {meth : Method} {c : Code} {Q : State → Prop} {D : va_G} {κ : Nat → ClassId} {b : Nat} {H0 : Heap} {rr : Int32 × Sg} (hZ : sg_Z p c s m args D κ cX4_takeSimple 5 RX4 wsX4_takeSimple) (hret : ∀ (v : Int32) (u : Sg) (H : Heap) (locs : List Loc) (pc : Nat) (ls : Array Slot), some (v, u) = some rr → narrow .boolean (.int v) = .int v → CW D κ b u H → va_S (sg_A b 892) H0 H locs → decode cX4_takeSimple pc = .ok (.ireturn, 1) → W p l e rm_X4_takeSimple s m args below meth c H locs 0 0 Q (F0 m pc ls [.int v])) : ∀ {σ : Sg} {H : Heap} {locs : List Loc} {ls : Array Slot}, fn_X4_takeSimple_B60 b σ = some rr → lv_has ls 5 [] → CW D κ b σ H → va_S (sg_A b 892) H0 H locs → W p l e rm_X4_takeSimple s m args below meth c H locs 0 0 Q (F0 m 60 ls []) := by
  obtain ⟨hx, hb, hml, hown, hts, hK⟩ := hZ
  intro σ H locs ls h hl hC hS
  unfold fn_X4_takeSimple_B60 at h
  refine lv_iconst (v := 1) hx hb dX4_takeSimple_60 (by decide) ?_
  refine lv_goto (tgt := 65) hx hb dX4_takeSimple_61 (by decide) ?_
  exact hret _ _ _ _ _ _ h (by decide) hC hS dX4_takeSimple_65
def fn_X4_takeSimple_B8b (b : Nat) (z8 : Sg → Nat → Int32 → Int32 → Option (Int32 × Sg)) (σ : Sg) (x1 : Nat) (x3 : Int32) (x4 : Int32) : Option (Int32 × Sg) :=
  (if (x3 : Int32) ≤ x4 then
  ((fn_X6_codeAt b σ x3).bind fun r1 =>
  (if r1 = 30 then
  fn_X4_takeSimple_B60 b σ
  else ((fn_X4_meet b σ (-6) x3).bind fun r2 =>
  (if r2.1 = 0 then
  some (0, r2.2)
  else fn_X4_takeSimple_B60 b r2.2))))
  else (if sg_ib 0 4 then
  ((fn_X4_takeLetter b σ (x1 + 2 + 4 * sg_x 0) x4).bind fun r4 =>
  (if r4.1 = 0 then
  some (0, r4.2)
  else (sg_lt (x4 + 1 : Int32) fun v5 =>
  z8 r4.2 x1 x3 v5)))
  else none))
def fn_X4_takeSimple_B8 (b : Nat) : Nat → Sg → Nat → Int32 → Int32 → Option (Int32 × Sg)
  | 0 => fun _ _ _ _ => none
  | n + 1 => fun σ x1 x3 x4 => fn_X4_takeSimple_B8b b (fn_X4_takeSimple_B8 b n) σ x1 x3 x4
set_option maxHeartbeats 4000000 in
set_option maxRecDepth 100000 in
theorem w_X4_takeSimple_B8b {p : Program} {l : Launch} {e : Env} {s : State} {m : MethodId} {args : Array Value} {below : List Frame} {meth : Method} {c : Code} {Q : State → Prop} {D : va_G} {κ : Nat → ClassId} {b : Nat} {H0 : Heap} {rr : Int32 × Sg} (hZ : sg_Z p c s m args D κ cX4_takeSimple 5 RX4 wsX4_takeSimple) (hret : ∀ (v : Int32) (u : Sg) (H : Heap) (locs : List Loc) (pc : Nat) (ls : Array Slot), some (v, u) = some rr → narrow .boolean (.int v) = .int v → CW D κ b u H → va_S (sg_A b 892) H0 H locs → decode cX4_takeSimple pc = .ok (.ireturn, 1) → W p l e rm_X4_takeSimple s m args below meth c H locs 0 0 Q (F0 m pc ls [.int v])) {z8 : Sg → Nat → Int32 → Int32 → Option (Int32 × Sg)} (hr8 : ∀ {σ : Sg} {x1 : Nat} {x3 : Int32} {x4 : Int32} {H : Heap} {locs : List Loc} {ls : Array Slot}, z8 σ x1 x3 x4 = some rr → is_Fld b x1 → lv_has ls 5 [(0, .ref (b + 1)), (1, .ref x1), (3, .int x3), (4, .int x4)] → CW D κ b σ H → va_S (sg_A b 892) H0 H locs → W p l e rm_X4_takeSimple s m args below meth c H locs 0 0 Q (F0 m 8 ls [])) : ∀ {σ : Sg} {x1 : Nat} {x3 : Int32} {x4 : Int32} {H : Heap} {locs : List Loc} {ls : Array Slot}, fn_X4_takeSimple_B8b b z8 σ x1 x3 x4 = some rr → is_Fld b x1 → lv_has ls 5 [(0, .ref (b + 1)), (1, .ref x1), (3, .int x3), (4, .int x4)] → CW D κ b σ H → va_S (sg_A b 892) H0 H locs → W p l e rm_X4_takeSimple s m args below meth c H locs 0 0 Q (F0 m 8 ls []) := by
  obtain ⟨hx, hb, hml, hown, hts, hK⟩ := hZ
  intro σ x1 x3 x4 H locs ls h hx1 hl hC hS
  unfold fn_X4_takeSimple_B8b at h
  refine lv_iload hx hb dX4_takeSimple_8 (lv_at hl 3 rfl) ?_
  refine lv_iload_n hx hb dX4_takeSimple_10 rfl (lv_at hl 2 rfl) ?_
  refine lv_icmp_ge (tgt := 37) hx hb dX4_takeSimple_11 (by decide) (fun hc => ?_) (fun hc => ?_)
  · replace h := (if_pos hc).symm.trans h
    refine lv_aload_n hx hb dX4_takeSimple_37 rfl (lv_at hl 0 rfl) ?_
    refine va_get (D := D) (ci := 4) (v := .ref (b + 2)) (C := RX4) (T := TX4) (N := 8) hx hb hts (wqs inW_X4) hown hK.1 hC.1 ((b + 1) - b) sg_gReader rfl 0 (by decide) (hts _ (wq wt_47)) (fun _ h9 => h9) rfl dX4_takeSimple_38 ?_
    refine lv_iload_n hx hb dX4_takeSimple_41 rfl (lv_at hl 2 rfl) ?_
    obtain ⟨r1, er1, h⟩ := Option.bind_eq_some_iff.mp h
    refine va_calli (va_runV (As := [.int x3]) (rest := []) ⟨hx, hb, hml, hown, hts⟩ (c_X6_codeAt l D κ b σ x3 _ er1) (cwV 1 hts (gwV wt_312 wt_244 wt_245 wt_3 wt_246) rfl rfl rfl (by decide +kernel) ⟨Nat.le_of_ble_eq_true rfl, Nat.le_of_ble_eq_true rfl⟩) (CW_preV hK hC sg_gText rfl) rfl rfl hl.1 rfl (lv_room (Nat.le_of_ble_eq_true rfl)) dX4_takeSimple_42 ⟨Nat.zero_le _, Nat.zero_le _⟩) hS (fun _ _ h => h) (fun _ h => h) (fun r u t H locs ht _ hp hB _ _ hS => ?_)
    refine sg_topi hp.1 ?_
    have hC : CW D κ b σ H := CW_b hB ht hp.2
    refine lv_bipush (v := 30) hx hb dX4_takeSimple_45 (by decide) ?_
    refine lv_icmp_eq (tgt := 60) hx hb dX4_takeSimple_47 (by decide) (fun hc => ?_) (fun hc => ?_)
    · replace h := (if_pos hc).symm.trans h
      exact w_X4_takeSimple_B60 ⟨hx, hb, hml, hown, hts, hK⟩ hret  h (lv_sub hl [] rfl) hC hS
    · replace h := (if_neg hc).symm.trans h
      refine lv_aload_n hx hb dX4_takeSimple_50 rfl (lv_at hl 0 rfl) ?_
      refine lv_bipush (v := (-6)) hx hb dX4_takeSimple_51 (by decide) ?_
      refine lv_iload_n hx hb dX4_takeSimple_53 rfl (lv_at hl 2 rfl) ?_
      obtain ⟨r2, er2, h⟩ := Option.bind_eq_some_iff.mp h
      refine va_calli (va_runV (As := [.int (-6), .int x3]) (rest := []) ⟨hx, hb, hml, hown, hts⟩ (c_X4_meet l D κ b σ (-6) x3 _ er2) (cwV 2 hts (gwV wt_316 wt_318 wp_2 wt_2 wt_319) rfl rfl rfl (by decide +kernel) ⟨Nat.le_of_ble_eq_true rfl, Nat.le_of_ble_eq_true rfl⟩) (CW_preV hK hC sg_gReader rfl) rfl rfl hl.1 rfl (lv_room (Nat.le_of_ble_eq_true rfl)) dX4_takeSimple_54 ⟨Nat.zero_le _, Nat.zero_le _⟩) hS (fun _ _ h => h) (fun _ h => h) (fun r u t H locs ht _ hp hB _ _ hS => ?_)
      refine sg_topi hp.1 ?_
      have hC : CW D κ b r2.2 H := CW_b hB ht hp.2
      refine lv_if_eq (tgt := 64) hx hb dX4_takeSimple_57 (by decide) (fun hc => ?_) (fun hc => ?_)
      · replace h := (if_pos hc).symm.trans h
        refine lv_iconst (v := 0) hx hb dX4_takeSimple_64 (by decide) ?_
        exact hret _ _ _ _ _ _ h (by decide) hC hS dX4_takeSimple_65
      · replace h := (if_neg hc).symm.trans h
        exact w_X4_takeSimple_B60 ⟨hx, hb, hml, hown, hts, hK⟩ hret  h (lv_sub hl [] rfl) hC hS
  · replace h := (if_neg hc).symm.trans h
    refine lv_aload_n hx hb dX4_takeSimple_14 rfl (lv_at hl 0 rfl) ?_
    refine lv_aload_n hx hb dX4_takeSimple_15 rfl (lv_at hl 1 rfl) ?_
    refine va_getN (D := D) (ci := 1) (v := .ref (x1 + 1)) (C := RX1) (T := TX1) (N := 5) hx hb hts (wqs inW_X1) hown hK.1 hC.1 (x1 - b) (sg_gField hx1) rfl 0 (by decide) (nf_15 hK) (fun _ h9 => h9) rfl dX4_takeSimple_16 ?_
    refine lv_iconst (v := 0) hx hb dX4_takeSimple_19 (by decide) ?_
    obtain ⟨hg, h⟩ := sg_gd h
    refine va_aldq (C := "RecordShelf$Subfield") hx hb hK.1 hC.1 ((x1 + 1) - b) 4 (sg_gsubs hx1) rfl (sg_in hg) dX4_takeSimple_20 ?_
    have hv3 := sg_vSub hx1 hg
    refine W.eq (g2 := F0 m 21 ls [.ref (x1 + 2 + 4 * sg_x 0), .ref (b + 1)]) rfl ?_
    refine lv_iload hx hb dX4_takeSimple_21 (lv_at hl 3 rfl) ?_
    obtain ⟨r4, er4, h⟩ := Option.bind_eq_some_iff.mp h
    refine va_calli (va_runV (As := [.ref (x1 + 2 + 4 * sg_x 0), .int x4]) (rest := []) ⟨hx, hb, hml, hown, hts⟩ (c_X4_takeLetter l D κ b σ (x1 + 2 + 4 * sg_x 0) x4 _ hv3 er4) (cwV 2 hts (gwV wt_386 wt_388 wp_11 wt_2 wt_389) rfl rfl rfl (by decide +kernel) ⟨Nat.le_of_ble_eq_true rfl, Nat.le_of_ble_eq_true rfl⟩) (CW_preV hK hC sg_gReader rfl) rfl rfl hl.1 rfl (lv_room (Nat.le_of_ble_eq_true rfl)) dX4_takeSimple_23 ⟨Nat.zero_le _, Nat.zero_le _⟩) hS (fun _ _ h => h) (fun _ h => h) (fun r u t H locs ht _ hp hB _ _ hS => ?_)
    refine sg_topi hp.1 ?_
    have hC : CW D κ b r4.2 H := CW_b hB ht hp.2
    refine lv_if_ne (tgt := 31) hx hb dX4_takeSimple_26 (by decide) (fun hc => ?_) (fun hc => ?_)
    · replace h := (if_neg hc).symm.trans h
      obtain ⟨v5, ev5, h⟩ := sg_lte h
      refine lv_iinc (v := v5) (lv' := [(4, .int v5), (0, .ref (b + 1)), (1, .ref x1), (3, .int x3)]) (k := 3) hx hb dX4_takeSimple_31 hl rfl (sg_inc (by decide) ev5) (by decide) rfl (fun ls hl => ?_)
      refine lv_goto (tgt := 8) hx hb dX4_takeSimple_34 (by decide) ?_
      exact hr8 h hx1 (lv_sub hl [1, 2, 3, 0] rfl) hC hS
    · replace h := (if_pos hc).symm.trans h
      refine lv_iconst (v := 0) hx hb dX4_takeSimple_29 (by decide) ?_
      exact hret _ _ _ _ _ _ h (by decide) hC hS dX4_takeSimple_30
set_option maxHeartbeats 4000000 in
theorem w_X4_takeSimple_B8 {p : Program} {l : Launch} {e : Env} {s : State} {m : MethodId} {args : Array Value} {below : List Frame} {meth : Method} {c : Code} {Q : State → Prop} {D : va_G} {κ : Nat → ClassId} {b : Nat} {H0 : Heap} {rr : Int32 × Sg} (hZ : sg_Z p c s m args D κ cX4_takeSimple 5 RX4 wsX4_takeSimple) (hret : ∀ (v : Int32) (u : Sg) (H : Heap) (locs : List Loc) (pc : Nat) (ls : Array Slot), some (v, u) = some rr → narrow .boolean (.int v) = .int v → CW D κ b u H → va_S (sg_A b 892) H0 H locs → decode cX4_takeSimple pc = .ok (.ireturn, 1) → W p l e rm_X4_takeSimple s m args below meth c H locs 0 0 Q (F0 m pc ls [.int v])) : ∀ n : Nat, ∀ {σ : Sg} {x1 : Nat} {x3 : Int32} {x4 : Int32} {H : Heap} {locs : List Loc} {ls : Array Slot}, fn_X4_takeSimple_B8 b n σ x1 x3 x4 = some rr → is_Fld b x1 → lv_has ls 5 [(0, .ref (b + 1)), (1, .ref x1), (3, .int x3), (4, .int x4)] → CW D κ b σ H → va_S (sg_A b 892) H0 H locs → W p l e rm_X4_takeSimple s m args below meth c H locs 0 0 Q (F0 m 8 ls []) := by
  intro n
  induction n with
  | zero => intro σ x1 x3 x4 H locs ls h hx1 hl hC hS; cases (show (none : Option (Int32 × Sg)) = some rr from h)
  | succ n ih =>
    intro σ x1 x3 x4 H locs ls h hx1 hl hC hS
    exact w_X4_takeSimple_B8b hZ hret ih (show fn_X4_takeSimple_B8b b (fn_X4_takeSimple_B8 b n) σ x1 x3 x4 = some rr from h) hx1 hl hC hS
def fn_X4_takeSimple (b : Nat) (σ : Sg) (x1 : Nat) (x2 : Int32) (x3 : Int32) : Option (Int32 × Sg) :=
  ((fn_X1_addSubfield b σ x1 0).bind fun r1 =>
  fn_X4_takeSimple_B8 b sg_N r1 x1 x3 x2)
set_option maxHeartbeats 4000000 in
set_option maxRecDepth 100000 in
theorem w_X4_takeSimple_B0 {p : Program} {l : Launch} {e : Env} {s : State} {m : MethodId} {args : Array Value} {below : List Frame} {meth : Method} {c : Code} {Q : State → Prop} {D : va_G} {κ : Nat → ClassId} {b : Nat} {H0 : Heap} {rr : Int32 × Sg} (hZ : sg_Z p c s m args D κ cX4_takeSimple 5 RX4 wsX4_takeSimple) (hret : ∀ (v : Int32) (u : Sg) (H : Heap) (locs : List Loc) (pc : Nat) (ls : Array Slot), some (v, u) = some rr → narrow .boolean (.int v) = .int v → CW D κ b u H → va_S (sg_A b 892) H0 H locs → decode cX4_takeSimple pc = .ok (.ireturn, 1) → W p l e rm_X4_takeSimple s m args below meth c H locs 0 0 Q (F0 m pc ls [.int v])) : ∀ {σ : Sg} {x1 : Nat} {x2 : Int32} {x3 : Int32} {H : Heap} {locs : List Loc} {ls : Array Slot}, fn_X4_takeSimple b σ x1 x2 x3 = some rr → is_Fld b x1 → lv_has ls 5 [(0, .ref (b + 1)), (1, .ref x1), (2, .int x2), (3, .int x3)] → CW D κ b σ H → va_S (sg_A b 892) H0 H locs → W p l e rm_X4_takeSimple s m args below meth c H locs 0 0 Q (F0 m 0 ls []) := by
  obtain ⟨hx, hb, hml, hown, hts, hK⟩ := hZ
  intro σ x1 x2 x3 H locs ls h hx1 hl hC hS
  unfold fn_X4_takeSimple at h
  refine lv_aload_n hx hb dX4_takeSimple_0 rfl (lv_at hl 1 rfl) ?_
  refine lv_iconst (v := 0) hx hb dX4_takeSimple_1 (by decide) ?_
  obtain ⟨r1, er1, h⟩ := Option.bind_eq_some_iff.mp h
  refine va_callv (va_runV (As := [.int 0]) (rest := []) ⟨hx, hb, hml, hown, hts⟩ (c_X1_addSubfield l D κ b σ x1 0 _ hx1 er1) (cwV 1 hts (gwV wt_370 wt_371 wt_372 wt_7 wt_373) rfl rfl rfl (by decide +kernel) ⟨Nat.le_of_ble_eq_true rfl, Nat.le_of_ble_eq_true rfl⟩) (CW_preV hK hC (sg_gField hx1) rfl) rfl rfl hl.1 rfl (lv_room (Nat.le_of_ble_eq_true rfl)) dX4_takeSimple_2 ⟨Nat.zero_le _, Nat.zero_le _⟩) hS (fun _ _ h => h) (fun _ h => h) (fun u t H locs ht _ hp hB _ _ hS => ?_)
  have hC : CW D κ b r1 H := CW_b hB ht hp
  refine lv_iload_n hx hb dX4_takeSimple_5 rfl (lv_at hl 2 rfl) ?_
  refine lv_istore (lv' := [(4, .int x2), (0, .ref (b + 1)), (1, .ref x1), (2, .int x2), (3, .int x3)]) hx hb dX4_takeSimple_6 hl (by decide) rfl (fun ls hl => ?_)
  exact w_X4_takeSimple_B8 ⟨hx, hb, hml, hown, hts, hK⟩ hret  sg_N h hx1 (lv_sub hl [1, 2, 4, 0] rfl) hC hS
set_option maxHeartbeats 4000000 in
set_option maxRecDepth 100000 in
theorem c_X4_takeSimple (l : Launch) (D : va_G) (κ : Nat → ClassId) (b : Nat) (σ : Sg) (x1 : Nat) (x2 : Int32) (x3 : Int32) (rr : Int32 × Sg) (hx1 : is_Fld b x1) (h : fn_X4_takeSimple b σ x1 x2 x3 = some rr) : Met l yX4_takeSimple wsX4_takeSimple rm_X4_takeSimple (va_Pc [.ref (b + 1), .ref x1, .int x2, .int x3] (fun U => KK D κ U ∧ CW D κ b σ U.heap)) (va_Qi (fun (r : Int32) (u : Sg) => r = rr.1 ∧ u = rr.2) (fun u t => CW D κ b u t.heap) (sg_A b 892)) 0 0 (sg_A b 892) := by
  refine Met.ofW (cc := cX4_takeSimple) (maxL := 5) (ret := (some .boolean)) (by decide) rfl ?_
  intro p e s m args below meth c s₁ B hml hv
  obtain ⟨rfl, hK, hC⟩ := hv
  have hr := B.returns
  have hlocks := B.notSynchronized
  have hl := lv_entry ([.ref (b + 1), .ref x1, .int x2, .int x3]) (n := 5) (Nat.le_of_ble_eq_true rfl)
  rw [lg_entry_eq]
  generalize (lg_sl ([.ref (b + 1), .ref x1, .int x2, .int x3]) ++ List.replicate (5 - (lg_sl ([.ref (b + 1), .ref x1, .int x2, .int x3])).length) Slot.unset).toArray = ls at hl ⊢
  have hl : lv_has ls 5 [(0, .ref (b + 1)), (1, .ref x1), (2, .int x2), (3, .int x3)] := hl
  exact w_X4_takeSimple_B0 ⟨B.exec, B.bytes, hml, findClass_of_methodNamed B.named, atoms_spec (ws := wsX4_takeSimple) B.pre, hK⟩ (fun v u H locs pc ls hq hbo hC hS hd => W.zret B.exec B.bytes hr hbo (fun t ht hW => ⟨⟨v, _, rfl, ⟨congrArg Prod.fst (Option.some.inj hq), congrArg Prod.snd (Option.some.inj hq)⟩, CW_e ht hC⟩, hS.F ht⟩) hS.2.2 hd) h hx1 hl hC va_S.rf

-- RecordShelf$Reader.takeIndicators(LRecordShelf$Field;I)Z
theorem dX4_takeIndicators_0 : decode cX4_takeIndicators 0 = .ok (.iload_n 2, 1) := by decide +kernel
theorem dX4_takeIndicators_1 : decode cX4_takeIndicators 1 = .ok (.istore_n 3, 1) := by decide +kernel
theorem dX4_takeIndicators_2 : decode cX4_takeIndicators 2 = .ok (.iload_n 3, 1) := by decide +kernel
theorem dX4_takeIndicators_3 : decode cX4_takeIndicators 3 = .ok (.iload_n 2, 1) := by decide +kernel
theorem dX4_takeIndicators_4 : decode cX4_takeIndicators 4 = .ok (.iconst 2, 1) := by decide +kernel
theorem dX4_takeIndicators_5 : decode cX4_takeIndicators 5 = .ok (.iadd, 1) := by decide +kernel
theorem dX4_takeIndicators_6 : decode cX4_takeIndicators 6 = .ok (.if_icmp .ge 31, 3) := by decide +kernel
theorem dX4_takeIndicators_9 : decode cX4_takeIndicators 9 = .ok (.aload_n 0, 1) := by decide +kernel
theorem dX4_takeIndicators_10 : decode cX4_takeIndicators 10 = .ok (.getfield 12, 3) := by decide +kernel
theorem dX4_takeIndicators_13 : decode cX4_takeIndicators 13 = .ok (.iload_n 3, 1) := by decide +kernel
theorem dX4_takeIndicators_14 : decode cX4_takeIndicators 14 = .ok (.invokevirtual 65, 3) := by decide +kernel
theorem dX4_takeIndicators_17 : decode cX4_takeIndicators 17 = .ok (.invokestatic 160, 3) := by decide +kernel
theorem dX4_takeIndicators_20 : decode cX4_takeIndicators 20 = .ok (.ifCond .ne 11, 3) := by decide +kernel
theorem dX4_takeIndicators_23 : decode cX4_takeIndicators 23 = .ok (.aload_n 0, 1) := by decide +kernel
theorem dX4_takeIndicators_24 : decode cX4_takeIndicators 24 = .ok (.bipush (-6), 2) := by decide +kernel
theorem dX4_takeIndicators_26 : decode cX4_takeIndicators 26 = .ok (.iload_n 3, 1) := by decide +kernel
theorem dX4_takeIndicators_27 : decode cX4_takeIndicators 27 = .ok (.invokevirtual 73, 3) := by decide +kernel
theorem dX4_takeIndicators_30 : decode cX4_takeIndicators 30 = .ok (.ireturn, 1) := by decide +kernel
theorem dX4_takeIndicators_31 : decode cX4_takeIndicators 31 = .ok (.iinc 3 1, 3) := by decide +kernel
theorem dX4_takeIndicators_34 : decode cX4_takeIndicators 34 = .ok (.goto (-32), 3) := by decide +kernel
theorem dX4_takeIndicators_37 : decode cX4_takeIndicators 37 = .ok (.aload_n 1, 1) := by decide +kernel
theorem dX4_takeIndicators_38 : decode cX4_takeIndicators 38 = .ok (.aload_n 0, 1) := by decide +kernel
theorem dX4_takeIndicators_39 : decode cX4_takeIndicators 39 = .ok (.getfield 12, 3) := by decide +kernel
theorem dX4_takeIndicators_42 : decode cX4_takeIndicators 42 = .ok (.iload_n 2, 1) := by decide +kernel
theorem dX4_takeIndicators_43 : decode cX4_takeIndicators 43 = .ok (.invokevirtual 65, 3) := by decide +kernel
theorem dX4_takeIndicators_46 : decode cX4_takeIndicators 46 = .ok (.i2c, 1) := by decide +kernel
theorem dX4_takeIndicators_47 : decode cX4_takeIndicators 47 = .ok (.putfield 163, 3) := by decide +kernel
theorem dX4_takeIndicators_50 : decode cX4_takeIndicators 50 = .ok (.aload_n 1, 1) := by decide +kernel
theorem dX4_takeIndicators_51 : decode cX4_takeIndicators 51 = .ok (.aload_n 0, 1) := by decide +kernel
theorem dX4_takeIndicators_52 : decode cX4_takeIndicators 52 = .ok (.getfield 12, 3) := by decide +kernel
theorem dX4_takeIndicators_55 : decode cX4_takeIndicators 55 = .ok (.iload_n 2, 1) := by decide +kernel
theorem dX4_takeIndicators_56 : decode cX4_takeIndicators 56 = .ok (.iconst 1, 1) := by decide +kernel
theorem dX4_takeIndicators_57 : decode cX4_takeIndicators 57 = .ok (.iadd, 1) := by decide +kernel
theorem dX4_takeIndicators_58 : decode cX4_takeIndicators 58 = .ok (.invokevirtual 65, 3) := by decide +kernel
theorem dX4_takeIndicators_61 : decode cX4_takeIndicators 61 = .ok (.i2c, 1) := by decide +kernel
theorem dX4_takeIndicators_62 : decode cX4_takeIndicators 62 = .ok (.putfield 167, 3) := by decide +kernel
theorem dX4_takeIndicators_65 : decode cX4_takeIndicators 65 = .ok (.iconst 1, 1) := by decide +kernel
theorem dX4_takeIndicators_66 : decode cX4_takeIndicators 66 = .ok (.ireturn, 1) := by decide +kernel
def rm_X4_takeIndicators : Room := { frames := 2, cells := 0, slots := 0, locals := 40 }
def fn_X4_takeIndicators_B2b (b : Nat) (z2 : Sg → Nat → Int32 → Int32 → Option (Int32 × Sg)) (σ : Sg) (x1 : Nat) (x2 : Int32) (x3 : Int32) : Option (Int32 × Sg) :=
  (if ((x2 + 2) : Int32) ≤ x3 then
  ((fn_X6_codeAt b σ x2).bind fun r1 =>
  (sg_lt (sg_w σ x1 3 (sg_c r1)) fun σ2 =>
  ((fn_X6_codeAt b σ2 (x2 + 1)).bind fun r3 =>
  (sg_lt (sg_w σ2 x1 4 (sg_c r3)) fun σ4 =>
  some (1, σ4)))))
  else ((fn_X6_codeAt b σ x3).bind fun r5 =>
  ((fn_X7_isIndicator r5).bind fun r6 =>
  (if r6 = 0 then
  ((fn_X4_meet b σ (-6) x3).bind fun r8 =>
  (if sg_bo r8.1 then some (r8.1, r8.2) else none))
  else (sg_lt (x3 + 1 : Int32) fun v7 =>
  z2 σ x1 x2 v7)))))
def fn_X4_takeIndicators_B2 (b : Nat) : Nat → Sg → Nat → Int32 → Int32 → Option (Int32 × Sg)
  | 0 => fun _ _ _ _ => none
  | n + 1 => fun σ x1 x2 x3 => fn_X4_takeIndicators_B2b b (fn_X4_takeIndicators_B2 b n) σ x1 x2 x3
set_option maxHeartbeats 4000000 in
set_option maxRecDepth 100000 in
theorem w_X4_takeIndicators_B2b {p : Program} {l : Launch} {e : Env} {s : State} {m : MethodId} {args : Array Value} {below : List Frame} {meth : Method} {c : Code} {Q : State → Prop} {D : va_G} {κ : Nat → ClassId} {b : Nat} {H0 : Heap} {rr : Int32 × Sg} (hZ : sg_Z p c s m args D κ cX4_takeIndicators 4 RX4 wsX4_takeIndicators) (hret : ∀ (v : Int32) (u : Sg) (H : Heap) (locs : List Loc) (pc : Nat) (ls : Array Slot), some (v, u) = some rr → narrow .boolean (.int v) = .int v → CW D κ b u H → va_S (sg_A b 892) H0 H locs → decode cX4_takeIndicators pc = .ok (.ireturn, 1) → W p l e rm_X4_takeIndicators s m args below meth c H locs 0 0 Q (F0 m pc ls [.int v])) {z2 : Sg → Nat → Int32 → Int32 → Option (Int32 × Sg)} (hr2 : ∀ {σ : Sg} {x1 : Nat} {x2 : Int32} {x3 : Int32} {H : Heap} {locs : List Loc} {ls : Array Slot}, z2 σ x1 x2 x3 = some rr → is_Fld b x1 → lv_has ls 4 [(0, .ref (b + 1)), (1, .ref x1), (2, .int x2), (3, .int x3)] → CW D κ b σ H → va_S (sg_A b 892) H0 H locs → W p l e rm_X4_takeIndicators s m args below meth c H locs 0 0 Q (F0 m 2 ls [])) : ∀ {σ : Sg} {x1 : Nat} {x2 : Int32} {x3 : Int32} {H : Heap} {locs : List Loc} {ls : Array Slot}, fn_X4_takeIndicators_B2b b z2 σ x1 x2 x3 = some rr → is_Fld b x1 → lv_has ls 4 [(0, .ref (b + 1)), (1, .ref x1), (2, .int x2), (3, .int x3)] → CW D κ b σ H → va_S (sg_A b 892) H0 H locs → W p l e rm_X4_takeIndicators s m args below meth c H locs 0 0 Q (F0 m 2 ls []) := by
  obtain ⟨hx, hb, hml, hown, hts, hK⟩ := hZ
  intro σ x1 x2 x3 H locs ls h hx1 hl hC hS
  unfold fn_X4_takeIndicators_B2b at h
  refine lv_iload_n hx hb dX4_takeIndicators_2 rfl (lv_at hl 3 rfl) ?_
  refine lv_iload_n hx hb dX4_takeIndicators_3 rfl (lv_at hl 2 rfl) ?_
  refine lv_iconst (v := 2) hx hb dX4_takeIndicators_4 (by decide) ?_
  refine lv_iadd hx hb dX4_takeIndicators_5 ?_
  refine lv_icmp_ge (tgt := 37) hx hb dX4_takeIndicators_6 (by decide) (fun hc => ?_) (fun hc => ?_)
  · replace h := (if_pos hc).symm.trans h
    refine lv_aload_n hx hb dX4_takeIndicators_37 rfl (lv_at hl 1 rfl) ?_
    refine lv_aload_n hx hb dX4_takeIndicators_38 rfl (lv_at hl 0 rfl) ?_
    refine va_get (D := D) (ci := 4) (v := .ref (b + 2)) (C := RX4) (T := TX4) (N := 8) hx hb hts (wqs inW_X4) hown hK.1 hC.1 ((b + 1) - b) sg_gReader rfl 0 (by decide) (hts _ (wq wt_47)) (fun _ h9 => h9) rfl dX4_takeIndicators_39 ?_
    refine lv_iload_n hx hb dX4_takeIndicators_42 rfl (lv_at hl 2 rfl) ?_
    obtain ⟨r1, er1, h⟩ := Option.bind_eq_some_iff.mp h
    refine va_calli (va_runV (As := [.int x2]) (rest := [.ref x1]) ⟨hx, hb, hml, hown, hts⟩ (c_X6_codeAt l D κ b σ x2 _ er1) (cwV 1 hts (gwV wt_312 wt_244 wt_245 wt_3 wt_246) rfl rfl rfl (by decide +kernel) ⟨Nat.le_of_ble_eq_true rfl, Nat.le_of_ble_eq_true rfl⟩) (CW_preV hK hC sg_gText rfl) rfl rfl hl.1 rfl (lv_room (Nat.le_of_ble_eq_true rfl)) dX4_takeIndicators_43 ⟨Nat.zero_le _, Nat.zero_le _⟩) hS (fun _ _ h => h) (fun _ h => h) (fun r u t H locs ht _ hp hB _ _ hS => ?_)
    refine sg_topi hp.1 ?_
    have hC : CW D κ b σ H := CW_b hB ht hp.2
    refine lv_i2c (v := (sg_c r1)) hx hb dX4_takeIndicators_46 rfl ?_
    refine va_putN (D := D) (ci := 1) (v := .int (sg_c r1)) (ty := .char) (C := RX1) (T := TX1) (N := 5) hx hb hts (wqs inW_X1) tyX1 tyX1_ok nmX1 hown hK.1 hC.1 sg_D hS (x1 - b) (sg_gField hx1) rfl 3 (by decide) (nf_22 hK) (fun _ h9 => h9) rfl (by decide +kernel) (pk_nc _) (pk_fc _) (Nat.le_of_ble_eq_true rfl) dX4_takeIndicators_47 (fun H locs hP _ hS => ?_)
    obtain ⟨σ2, eσ2, h⟩ := sg_lte h
    have hC : CW D κ b σ2 H := eσ2 ▸ CW_put (k := 3) (v := (sg_c r1)) hC (sg_aField hx1) (sg_yField hx1 _ _) hP
    refine lv_aload_n hx hb dX4_takeIndicators_50 rfl (lv_at hl 1 rfl) ?_
    refine lv_aload_n hx hb dX4_takeIndicators_51 rfl (lv_at hl 0 rfl) ?_
    refine va_get (D := D) (ci := 4) (v := .ref (b + 2)) (C := RX4) (T := TX4) (N := 8) hx hb hts (wqs inW_X4) hown hK.1 hC.1 ((b + 1) - b) sg_gReader rfl 0 (by decide) (hts _ (wq wt_47)) (fun _ h9 => h9) rfl dX4_takeIndicators_52 ?_
    refine lv_iload_n hx hb dX4_takeIndicators_55 rfl (lv_at hl 2 rfl) ?_
    refine lv_iconst (v := 1) hx hb dX4_takeIndicators_56 (by decide) ?_
    refine lv_iadd hx hb dX4_takeIndicators_57 ?_
    obtain ⟨r3, er3, h⟩ := Option.bind_eq_some_iff.mp h
    refine va_calli (va_runV (As := [.int (x2 + 1)]) (rest := [.ref x1]) ⟨hx, hb, hml, hown, hts⟩ (c_X6_codeAt l D κ b σ2 (x2 + 1) _ er3) (cwV 1 hts (gwV wt_312 wt_244 wt_245 wt_3 wt_246) rfl rfl rfl (by decide +kernel) ⟨Nat.le_of_ble_eq_true rfl, Nat.le_of_ble_eq_true rfl⟩) (CW_preV hK hC sg_gText rfl) rfl rfl hl.1 rfl (lv_room (Nat.le_of_ble_eq_true rfl)) dX4_takeIndicators_58 ⟨Nat.zero_le _, Nat.zero_le _⟩) hS (fun _ _ h => h) (fun _ h => h) (fun r u t H locs ht _ hp hB _ _ hS => ?_)
    refine sg_topi hp.1 ?_
    have hC : CW D κ b σ2 H := CW_b hB ht hp.2
    refine lv_i2c (v := (sg_c r3)) hx hb dX4_takeIndicators_61 rfl ?_
    refine va_putN (D := D) (ci := 1) (v := .int (sg_c r3)) (ty := .char) (C := RX1) (T := TX1) (N := 5) hx hb hts (wqs inW_X1) tyX1 tyX1_ok nmX1 hown hK.1 hC.1 sg_D hS (x1 - b) (sg_gField hx1) rfl 4 (by decide) (nf_24 hK) (fun _ h9 => h9) rfl (by decide +kernel) (pk_nc _) (pk_fc _) (Nat.le_of_ble_eq_true rfl) dX4_takeIndicators_62 (fun H locs hP _ hS => ?_)
    obtain ⟨σ4, eσ4, h⟩ := sg_lte h
    have hC : CW D κ b σ4 H := eσ4 ▸ CW_put (k := 4) (v := (sg_c r3)) hC (sg_aField hx1) (sg_yField hx1 _ _) hP
    refine lv_iconst (v := 1) hx hb dX4_takeIndicators_65 (by decide) ?_
    exact hret _ _ _ _ _ _ h (by decide) hC hS dX4_takeIndicators_66
  · replace h := (if_neg hc).symm.trans h
    refine lv_aload_n hx hb dX4_takeIndicators_9 rfl (lv_at hl 0 rfl) ?_
    refine va_get (D := D) (ci := 4) (v := .ref (b + 2)) (C := RX4) (T := TX4) (N := 8) hx hb hts (wqs inW_X4) hown hK.1 hC.1 ((b + 1) - b) sg_gReader rfl 0 (by decide) (hts _ (wq wt_47)) (fun _ h9 => h9) rfl dX4_takeIndicators_10 ?_
    refine lv_iload_n hx hb dX4_takeIndicators_13 rfl (lv_at hl 3 rfl) ?_
    obtain ⟨r5, er5, h⟩ := Option.bind_eq_some_iff.mp h
    refine va_calli (va_runV (As := [.int x3]) (rest := []) ⟨hx, hb, hml, hown, hts⟩ (c_X6_codeAt l D κ b σ x3 _ er5) (cwV 1 hts (gwV wt_312 wt_244 wt_245 wt_3 wt_246) rfl rfl rfl (by decide +kernel) ⟨Nat.le_of_ble_eq_true rfl, Nat.le_of_ble_eq_true rfl⟩) (CW_preV hK hC sg_gText rfl) rfl rfl hl.1 rfl (lv_room (Nat.le_of_ble_eq_true rfl)) dX4_takeIndicators_14 ⟨Nat.zero_le _, Nat.zero_le _⟩) hS (fun _ _ h => h) (fun _ h => h) (fun r u t H locs ht _ hp hB _ _ hS => ?_)
    refine sg_topi hp.1 ?_
    have hC : CW D κ b σ H := CW_b hB ht hp.2
    obtain ⟨r6, er6, h⟩ := Option.bind_eq_some_iff.mp h
    refine va_calli (va_runSN (As := [.int r5]) (rest := []) ⟨hx, hb, hml, hown, hts⟩ (c_X7_isIndicator l D κ b σ r5 _ er6) ⟨va_cnB 1 hts (gw0 wt_420) rfl rfl rfl (nm_8 hK) (hts _ (wq wt_1)) (by decide +kernel) ⟨Nat.le_of_ble_eq_true rfl, Nat.le_of_ble_eq_true rfl⟩, hts _ (wq wt_419), trivial⟩ (CW_preS hK hC) rfl rfl hl.1 rfl (lv_room (Nat.le_of_ble_eq_true rfl)) dX4_takeIndicators_17 ⟨Nat.zero_le _, Nat.zero_le _⟩) hS (fun _ _ h => h) (fun _ h => h) (fun r u t H locs ht _ hp hB _ _ hS => ?_)
    refine sg_topi hp.1 ?_
    have hC : CW D κ b σ H := CW_b hB ht hp.2
    refine lv_if_ne (tgt := 31) hx hb dX4_takeIndicators_20 (by decide) (fun hc => ?_) (fun hc => ?_)
    · replace h := (if_neg hc).symm.trans h
      obtain ⟨v7, ev7, h⟩ := sg_lte h
      refine lv_iinc (v := v7) (lv' := [(3, .int v7), (0, .ref (b + 1)), (1, .ref x1), (2, .int x2)]) (k := 3) hx hb dX4_takeIndicators_31 hl rfl (sg_inc (by decide) ev7) (by decide) rfl (fun ls hl => ?_)
      refine lv_goto (tgt := 2) hx hb dX4_takeIndicators_34 (by decide) ?_
      exact hr2 h hx1 (lv_sub hl [1, 2, 3, 0] rfl) hC hS
    · replace h := (if_pos hc).symm.trans h
      refine lv_aload_n hx hb dX4_takeIndicators_23 rfl (lv_at hl 0 rfl) ?_
      refine lv_bipush (v := (-6)) hx hb dX4_takeIndicators_24 (by decide) ?_
      refine lv_iload_n hx hb dX4_takeIndicators_26 rfl (lv_at hl 3 rfl) ?_
      obtain ⟨r8, er8, h⟩ := Option.bind_eq_some_iff.mp h
      refine va_calli (va_runV (As := [.int (-6), .int x3]) (rest := []) ⟨hx, hb, hml, hown, hts⟩ (c_X4_meet l D κ b σ (-6) x3 _ er8) (cwV 2 hts (gwV wt_316 wt_318 wp_2 wt_2 wt_319) rfl rfl rfl (by decide +kernel) ⟨Nat.le_of_ble_eq_true rfl, Nat.le_of_ble_eq_true rfl⟩) (CW_preV hK hC sg_gReader rfl) rfl rfl hl.1 rfl (lv_room (Nat.le_of_ble_eq_true rfl)) dX4_takeIndicators_27 ⟨Nat.zero_le _, Nat.zero_le _⟩) hS (fun _ _ h => h) (fun _ h => h) (fun r u t H locs ht _ hp hB _ _ hS => ?_)
      refine sg_topi hp.1 ?_
      have hC : CW D κ b r8.2 H := CW_b hB ht hp.2
      obtain ⟨hg, h⟩ := sg_gd h
      exact hret _ _ _ _ _ _ h (sg_bn hg) hC hS dX4_takeIndicators_30
set_option maxHeartbeats 4000000 in
theorem w_X4_takeIndicators_B2 {p : Program} {l : Launch} {e : Env} {s : State} {m : MethodId} {args : Array Value} {below : List Frame} {meth : Method} {c : Code} {Q : State → Prop} {D : va_G} {κ : Nat → ClassId} {b : Nat} {H0 : Heap} {rr : Int32 × Sg} (hZ : sg_Z p c s m args D κ cX4_takeIndicators 4 RX4 wsX4_takeIndicators) (hret : ∀ (v : Int32) (u : Sg) (H : Heap) (locs : List Loc) (pc : Nat) (ls : Array Slot), some (v, u) = some rr → narrow .boolean (.int v) = .int v → CW D κ b u H → va_S (sg_A b 892) H0 H locs → decode cX4_takeIndicators pc = .ok (.ireturn, 1) → W p l e rm_X4_takeIndicators s m args below meth c H locs 0 0 Q (F0 m pc ls [.int v])) : ∀ n : Nat, ∀ {σ : Sg} {x1 : Nat} {x2 : Int32} {x3 : Int32} {H : Heap} {locs : List Loc} {ls : Array Slot}, fn_X4_takeIndicators_B2 b n σ x1 x2 x3 = some rr → is_Fld b x1 → lv_has ls 4 [(0, .ref (b + 1)), (1, .ref x1), (2, .int x2), (3, .int x3)] → CW D κ b σ H → va_S (sg_A b 892) H0 H locs → W p l e rm_X4_takeIndicators s m args below meth c H locs 0 0 Q (F0 m 2 ls []) := by
  intro n
  induction n with
  | zero => intro σ x1 x2 x3 H locs ls h hx1 hl hC hS; cases (show (none : Option (Int32 × Sg)) = some rr from h)
  | succ n ih =>
    intro σ x1 x2 x3 H locs ls h hx1 hl hC hS
    exact w_X4_takeIndicators_B2b hZ hret ih (show fn_X4_takeIndicators_B2b b (fn_X4_takeIndicators_B2 b n) σ x1 x2 x3 = some rr from h) hx1 hl hC hS
def fn_X4_takeIndicators (b : Nat) (σ : Sg) (x1 : Nat) (x2 : Int32) : Option (Int32 × Sg) :=
  fn_X4_takeIndicators_B2 b sg_N σ x1 x2 x2
set_option maxHeartbeats 4000000 in
set_option maxRecDepth 100000 in
theorem w_X4_takeIndicators_B0 {p : Program} {l : Launch} {e : Env} {s : State} {m : MethodId} {args : Array Value} {below : List Frame} {meth : Method} {c : Code} {Q : State → Prop} {D : va_G} {κ : Nat → ClassId} {b : Nat} {H0 : Heap} {rr : Int32 × Sg} (hZ : sg_Z p c s m args D κ cX4_takeIndicators 4 RX4 wsX4_takeIndicators) (hret : ∀ (v : Int32) (u : Sg) (H : Heap) (locs : List Loc) (pc : Nat) (ls : Array Slot), some (v, u) = some rr → narrow .boolean (.int v) = .int v → CW D κ b u H → va_S (sg_A b 892) H0 H locs → decode cX4_takeIndicators pc = .ok (.ireturn, 1) → W p l e rm_X4_takeIndicators s m args below meth c H locs 0 0 Q (F0 m pc ls [.int v])) : ∀ {σ : Sg} {x1 : Nat} {x2 : Int32} {H : Heap} {locs : List Loc} {ls : Array Slot}, fn_X4_takeIndicators b σ x1 x2 = some rr → is_Fld b x1 → lv_has ls 4 [(0, .ref (b + 1)), (1, .ref x1), (2, .int x2)] → CW D κ b σ H → va_S (sg_A b 892) H0 H locs → W p l e rm_X4_takeIndicators s m args below meth c H locs 0 0 Q (F0 m 0 ls []) := by
  obtain ⟨hx, hb, hml, hown, hts, hK⟩ := hZ
  intro σ x1 x2 H locs ls h hx1 hl hC hS
  unfold fn_X4_takeIndicators at h
  refine lv_iload_n hx hb dX4_takeIndicators_0 rfl (lv_at hl 2 rfl) ?_
  refine lv_istore_n (lv' := [(3, .int x2), (0, .ref (b + 1)), (1, .ref x1), (2, .int x2)]) hx hb dX4_takeIndicators_1 rfl hl (by decide) rfl (fun ls hl => ?_)
  exact w_X4_takeIndicators_B2 ⟨hx, hb, hml, hown, hts, hK⟩ hret  sg_N h hx1 (lv_sub hl [1, 2, 3, 0] rfl) hC hS
set_option maxHeartbeats 4000000 in
set_option maxRecDepth 100000 in
theorem c_X4_takeIndicators (l : Launch) (D : va_G) (κ : Nat → ClassId) (b : Nat) (σ : Sg) (x1 : Nat) (x2 : Int32) (rr : Int32 × Sg) (hx1 : is_Fld b x1) (h : fn_X4_takeIndicators b σ x1 x2 = some rr) : Met l yX4_takeIndicators wsX4_takeIndicators rm_X4_takeIndicators (va_Pc [.ref (b + 1), .ref x1, .int x2] (fun U => KK D κ U ∧ CW D κ b σ U.heap)) (va_Qi (fun (r : Int32) (u : Sg) => r = rr.1 ∧ u = rr.2) (fun u t => CW D κ b u t.heap) (sg_A b 892)) 0 0 (sg_A b 892) := by
  refine Met.ofW (cc := cX4_takeIndicators) (maxL := 4) (ret := (some .boolean)) (by decide) rfl ?_
  intro p e s m args below meth c s₁ B hml hv
  obtain ⟨rfl, hK, hC⟩ := hv
  have hr := B.returns
  have hlocks := B.notSynchronized
  have hl := lv_entry ([.ref (b + 1), .ref x1, .int x2]) (n := 4) (Nat.le_of_ble_eq_true rfl)
  rw [lg_entry_eq]
  generalize (lg_sl ([.ref (b + 1), .ref x1, .int x2]) ++ List.replicate (4 - (lg_sl ([.ref (b + 1), .ref x1, .int x2])).length) Slot.unset).toArray = ls at hl ⊢
  have hl : lv_has ls 4 [(0, .ref (b + 1)), (1, .ref x1), (2, .int x2)] := hl
  exact w_X4_takeIndicators_B0 ⟨B.exec, B.bytes, hml, findClass_of_methodNamed B.named, atoms_spec (ws := wsX4_takeIndicators) B.pre, hK⟩ (fun v u H locs pc ls hq hbo hC hS hd => W.zret B.exec B.bytes hr hbo (fun t ht hW => ⟨⟨v, _, rfl, ⟨congrArg Prod.fst (Option.some.inj hq), congrArg Prod.snd (Option.some.inj hq)⟩, CW_e ht hC⟩, hS.F ht⟩) hS.2.2 hd) h hx1 hl hC va_S.rf

-- RecordShelf$Reader.takeCode(LRecordShelf$Field;I)Z
theorem dX4_takeCode_0 : decode cX4_takeCode 0 = .ok (.aload_n 0, 1) := by decide +kernel
theorem dX4_takeCode_1 : decode cX4_takeCode 1 = .ok (.getfield 12, 3) := by decide +kernel
theorem dX4_takeCode_4 : decode cX4_takeCode 4 = .ok (.iload_n 2, 1) := by decide +kernel
theorem dX4_takeCode_5 : decode cX4_takeCode 5 = .ok (.invokevirtual 65, 3) := by decide +kernel
theorem dX4_takeCode_8 : decode cX4_takeCode 8 = .ok (.istore_n 3, 1) := by decide +kernel
theorem dX4_takeCode_9 : decode cX4_takeCode 9 = .ok (.iload_n 3, 1) := by decide +kernel
theorem dX4_takeCode_10 : decode cX4_takeCode 10 = .ok (.invokestatic 170, 3) := by decide +kernel
theorem dX4_takeCode_13 : decode cX4_takeCode 13 = .ok (.ifCond .ne 11, 3) := by decide +kernel
theorem dX4_takeCode_16 : decode cX4_takeCode 16 = .ok (.aload_n 0, 1) := by decide +kernel
theorem dX4_takeCode_17 : decode cX4_takeCode 17 = .ok (.bipush (-6), 2) := by decide +kernel
theorem dX4_takeCode_19 : decode cX4_takeCode 19 = .ok (.iload_n 2, 1) := by decide +kernel
theorem dX4_takeCode_20 : decode cX4_takeCode 20 = .ok (.invokevirtual 73, 3) := by decide +kernel
theorem dX4_takeCode_23 : decode cX4_takeCode 23 = .ok (.ireturn, 1) := by decide +kernel
theorem dX4_takeCode_24 : decode cX4_takeCode 24 = .ok (.aload_n 1, 1) := by decide +kernel
theorem dX4_takeCode_25 : decode cX4_takeCode 25 = .ok (.iload_n 3, 1) := by decide +kernel
theorem dX4_takeCode_26 : decode cX4_takeCode 26 = .ok (.i2c, 1) := by decide +kernel
theorem dX4_takeCode_27 : decode cX4_takeCode 27 = .ok (.invokevirtual 131, 3) := by decide +kernel
theorem dX4_takeCode_30 : decode cX4_takeCode 30 = .ok (.iconst 1, 1) := by decide +kernel
theorem dX4_takeCode_31 : decode cX4_takeCode 31 = .ok (.ireturn, 1) := by decide +kernel
def rm_X4_takeCode : Room := { frames := 3, cells := 0, slots := 0, locals := 62 }
def fn_X4_takeCode (b : Nat) (σ : Sg) (x1 : Nat) (x2 : Int32) : Option (Int32 × Sg) :=
  ((fn_X6_codeAt b σ x2).bind fun r1 =>
  ((fn_X7_isCode r1).bind fun r2 =>
  (if r2 = 0 then
  ((fn_X4_meet b σ (-6) x2).bind fun r4 =>
  (if sg_bo r4.1 then some (r4.1, r4.2) else none))
  else ((fn_X1_addSubfield b σ x1 (sg_c r1)).bind fun r3 =>
  some (1, r3)))))
set_option maxHeartbeats 4000000 in
set_option maxRecDepth 100000 in
theorem w_X4_takeCode_B0 {p : Program} {l : Launch} {e : Env} {s : State} {m : MethodId} {args : Array Value} {below : List Frame} {meth : Method} {c : Code} {Q : State → Prop} {D : va_G} {κ : Nat → ClassId} {b : Nat} {H0 : Heap} {rr : Int32 × Sg} (hZ : sg_Z p c s m args D κ cX4_takeCode 4 RX4 wsX4_takeCode) (hret : ∀ (v : Int32) (u : Sg) (H : Heap) (locs : List Loc) (pc : Nat) (ls : Array Slot), some (v, u) = some rr → narrow .boolean (.int v) = .int v → CW D κ b u H → va_S (sg_A b 892) H0 H locs → decode cX4_takeCode pc = .ok (.ireturn, 1) → W p l e rm_X4_takeCode s m args below meth c H locs 0 0 Q (F0 m pc ls [.int v])) : ∀ {σ : Sg} {x1 : Nat} {x2 : Int32} {H : Heap} {locs : List Loc} {ls : Array Slot}, fn_X4_takeCode b σ x1 x2 = some rr → is_Fld b x1 → lv_has ls 4 [(0, .ref (b + 1)), (1, .ref x1), (2, .int x2)] → CW D κ b σ H → va_S (sg_A b 892) H0 H locs → W p l e rm_X4_takeCode s m args below meth c H locs 0 0 Q (F0 m 0 ls []) := by
  obtain ⟨hx, hb, hml, hown, hts, hK⟩ := hZ
  intro σ x1 x2 H locs ls h hx1 hl hC hS
  unfold fn_X4_takeCode at h
  refine lv_aload_n hx hb dX4_takeCode_0 rfl (lv_at hl 0 rfl) ?_
  refine va_get (D := D) (ci := 4) (v := .ref (b + 2)) (C := RX4) (T := TX4) (N := 8) hx hb hts (wqs inW_X4) hown hK.1 hC.1 ((b + 1) - b) sg_gReader rfl 0 (by decide) (hts _ (wq wt_47)) (fun _ h9 => h9) rfl dX4_takeCode_1 ?_
  refine lv_iload_n hx hb dX4_takeCode_4 rfl (lv_at hl 2 rfl) ?_
  obtain ⟨r1, er1, h⟩ := Option.bind_eq_some_iff.mp h
  refine va_calli (va_runV (As := [.int x2]) (rest := []) ⟨hx, hb, hml, hown, hts⟩ (c_X6_codeAt l D κ b σ x2 _ er1) (cwV 1 hts (gwV wt_312 wt_244 wt_245 wt_3 wt_246) rfl rfl rfl (by decide +kernel) ⟨Nat.le_of_ble_eq_true rfl, Nat.le_of_ble_eq_true rfl⟩) (CW_preV hK hC sg_gText rfl) rfl rfl hl.1 rfl (lv_room (Nat.le_of_ble_eq_true rfl)) dX4_takeCode_5 ⟨Nat.zero_le _, Nat.zero_le _⟩) hS (fun _ _ h => h) (fun _ h => h) (fun r u t H locs ht _ hp hB _ _ hS => ?_)
  refine sg_topi hp.1 ?_
  have hC : CW D κ b σ H := CW_b hB ht hp.2
  refine lv_istore_n (lv' := [(3, .int r1), (0, .ref (b + 1)), (1, .ref x1), (2, .int x2)]) hx hb dX4_takeCode_8 rfl hl (by decide) rfl (fun ls hl => ?_)
  refine lv_iload_n hx hb dX4_takeCode_9 rfl (lv_at hl 0 rfl) ?_
  obtain ⟨r2, er2, h⟩ := Option.bind_eq_some_iff.mp h
  refine va_calli (va_runSN (As := [.int r1]) (rest := []) ⟨hx, hb, hml, hown, hts⟩ (c_X7_isCode l D κ b σ r1 _ er2) ⟨va_cnB 1 hts (gw0 wt_405) rfl rfl rfl (nm_9 hK) (hts _ (wq wt_1)) (by decide +kernel) ⟨Nat.le_of_ble_eq_true rfl, Nat.le_of_ble_eq_true rfl⟩, hts _ (wq wt_404), trivial⟩ (CW_preS hK hC) rfl rfl hl.1 rfl (lv_room (Nat.le_of_ble_eq_true rfl)) dX4_takeCode_10 ⟨Nat.zero_le _, Nat.zero_le _⟩) hS (fun _ _ h => h) (fun _ h => h) (fun r u t H locs ht _ hp hB _ _ hS => ?_)
  refine sg_topi hp.1 ?_
  have hC : CW D κ b σ H := CW_b hB ht hp.2
  refine lv_if_ne (tgt := 24) hx hb dX4_takeCode_13 (by decide) (fun hc => ?_) (fun hc => ?_)
  · replace h := (if_neg hc).symm.trans h
    refine lv_aload_n hx hb dX4_takeCode_24 rfl (lv_at hl 2 rfl) ?_
    refine lv_iload_n hx hb dX4_takeCode_25 rfl (lv_at hl 0 rfl) ?_
    refine lv_i2c (v := (sg_c r1)) hx hb dX4_takeCode_26 rfl ?_
    obtain ⟨r3, er3, h⟩ := Option.bind_eq_some_iff.mp h
    refine va_callv (va_runV (As := [.int (sg_c r1)]) (rest := []) ⟨hx, hb, hml, hown, hts⟩ (c_X1_addSubfield l D κ b σ x1 (sg_c r1) _ hx1 er3) (cwV 1 hts (gwV wt_370 wt_371 wt_372 wt_7 wt_373) rfl rfl rfl (by decide +kernel) ⟨Nat.le_of_ble_eq_true rfl, Nat.le_of_ble_eq_true rfl⟩) (CW_preV hK hC (sg_gField hx1) rfl) rfl rfl hl.1 rfl (lv_room (Nat.le_of_ble_eq_true rfl)) dX4_takeCode_27 ⟨Nat.zero_le _, Nat.zero_le _⟩) hS (fun _ _ h => h) (fun _ h => h) (fun u t H locs ht _ hp hB _ _ hS => ?_)
    have hC : CW D κ b r3 H := CW_b hB ht hp
    refine lv_iconst (v := 1) hx hb dX4_takeCode_30 (by decide) ?_
    exact hret _ _ _ _ _ _ h (by decide) hC hS dX4_takeCode_31
  · replace h := (if_pos hc).symm.trans h
    refine lv_aload_n hx hb dX4_takeCode_16 rfl (lv_at hl 1 rfl) ?_
    refine lv_bipush (v := (-6)) hx hb dX4_takeCode_17 (by decide) ?_
    refine lv_iload_n hx hb dX4_takeCode_19 rfl (lv_at hl 3 rfl) ?_
    obtain ⟨r4, er4, h⟩ := Option.bind_eq_some_iff.mp h
    refine va_calli (va_runV (As := [.int (-6), .int x2]) (rest := []) ⟨hx, hb, hml, hown, hts⟩ (c_X4_meet l D κ b σ (-6) x2 _ er4) (cwV 2 hts (gwV wt_316 wt_318 wp_2 wt_2 wt_319) rfl rfl rfl (by decide +kernel) ⟨Nat.le_of_ble_eq_true rfl, Nat.le_of_ble_eq_true rfl⟩) (CW_preV hK hC sg_gReader rfl) rfl rfl hl.1 rfl (lv_room (Nat.le_of_ble_eq_true rfl)) dX4_takeCode_20 ⟨Nat.zero_le _, Nat.zero_le _⟩) hS (fun _ _ h => h) (fun _ h => h) (fun r u t H locs ht _ hp hB _ _ hS => ?_)
    refine sg_topi hp.1 ?_
    have hC : CW D κ b r4.2 H := CW_b hB ht hp.2
    obtain ⟨hg, h⟩ := sg_gd h
    exact hret _ _ _ _ _ _ h (sg_bn hg) hC hS dX4_takeCode_23
set_option maxHeartbeats 4000000 in
set_option maxRecDepth 100000 in
theorem c_X4_takeCode (l : Launch) (D : va_G) (κ : Nat → ClassId) (b : Nat) (σ : Sg) (x1 : Nat) (x2 : Int32) (rr : Int32 × Sg) (hx1 : is_Fld b x1) (h : fn_X4_takeCode b σ x1 x2 = some rr) : Met l yX4_takeCode wsX4_takeCode rm_X4_takeCode (va_Pc [.ref (b + 1), .ref x1, .int x2] (fun U => KK D κ U ∧ CW D κ b σ U.heap)) (va_Qi (fun (r : Int32) (u : Sg) => r = rr.1 ∧ u = rr.2) (fun u t => CW D κ b u t.heap) (sg_A b 892)) 0 0 (sg_A b 892) := by
  refine Met.ofW (cc := cX4_takeCode) (maxL := 4) (ret := (some .boolean)) (by decide) rfl ?_
  intro p e s m args below meth c s₁ B hml hv
  obtain ⟨rfl, hK, hC⟩ := hv
  have hr := B.returns
  have hlocks := B.notSynchronized
  have hl := lv_entry ([.ref (b + 1), .ref x1, .int x2]) (n := 4) (Nat.le_of_ble_eq_true rfl)
  rw [lg_entry_eq]
  generalize (lg_sl ([.ref (b + 1), .ref x1, .int x2]) ++ List.replicate (4 - (lg_sl ([.ref (b + 1), .ref x1, .int x2])).length) Slot.unset).toArray = ls at hl ⊢
  have hl : lv_has ls 4 [(0, .ref (b + 1)), (1, .ref x1), (2, .int x2)] := hl
  exact w_X4_takeCode_B0 ⟨B.exec, B.bytes, hml, findClass_of_methodNamed B.named, atoms_spec (ws := wsX4_takeCode) B.pre, hK⟩ (fun v u H locs pc ls hq hbo hC hS hd => W.zret B.exec B.bytes hr hbo (fun t ht hW => ⟨⟨v, _, rfl, ⟨congrArg Prod.fst (Option.some.inj hq), congrArg Prod.snd (Option.some.inj hq)⟩, CW_e ht hC⟩, hS.F ht⟩) hS.2.2 hd) h hx1 hl hC va_S.rf

-- RecordShelf$Reader.takeDivided(LRecordShelf$Field;II)Z
theorem dX4_takeDivided_0 : decode cX4_takeDivided 0 = .ok (.aload_n 0, 1) := by decide +kernel
theorem dX4_takeDivided_1 : decode cX4_takeDivided 1 = .ok (.aload_n 1, 1) := by decide +kernel
theorem dX4_takeDivided_2 : decode cX4_takeDivided 2 = .ok (.iload_n 2, 1) := by decide +kernel
theorem dX4_takeDivided_3 : decode cX4_takeDivided 3 = .ok (.invokevirtual 151, 3) := by decide +kernel
theorem dX4_takeDivided_6 : decode cX4_takeDivided 6 = .ok (.ifCond .ne 5, 3) := by decide +kernel
theorem dX4_takeDivided_9 : decode cX4_takeDivided 9 = .ok (.iconst 0, 1) := by decide +kernel
theorem dX4_takeDivided_10 : decode cX4_takeDivided 10 = .ok (.ireturn, 1) := by decide +kernel
theorem dX4_takeDivided_11 : decode cX4_takeDivided 11 = .ok (.iconst 0, 1) := by decide +kernel
theorem dX4_takeDivided_12 : decode cX4_takeDivided 12 = .ok (.istore 4, 2) := by decide +kernel
theorem dX4_takeDivided_14 : decode cX4_takeDivided 14 = .ok (.iload_n 2, 1) := by decide +kernel
theorem dX4_takeDivided_15 : decode cX4_takeDivided 15 = .ok (.iconst 2, 1) := by decide +kernel
theorem dX4_takeDivided_16 : decode cX4_takeDivided 16 = .ok (.iadd, 1) := by decide +kernel
theorem dX4_takeDivided_17 : decode cX4_takeDivided 17 = .ok (.istore 5, 2) := by decide +kernel
theorem dX4_takeDivided_19 : decode cX4_takeDivided 19 = .ok (.iload 5, 2) := by decide +kernel
theorem dX4_takeDivided_21 : decode cX4_takeDivided 21 = .ok (.iload_n 3, 1) := by decide +kernel
theorem dX4_takeDivided_22 : decode cX4_takeDivided 22 = .ok (.if_icmp .ge 106, 3) := by decide +kernel
theorem dX4_takeDivided_25 : decode cX4_takeDivided 25 = .ok (.iload 4, 2) := by decide +kernel
theorem dX4_takeDivided_27 : decode cX4_takeDivided 27 = .ok (.ifCond .eq 21, 3) := by decide +kernel
theorem dX4_takeDivided_30 : decode cX4_takeDivided 30 = .ok (.aload_n 0, 1) := by decide +kernel
theorem dX4_takeDivided_31 : decode cX4_takeDivided 31 = .ok (.aload_n 1, 1) := by decide +kernel
theorem dX4_takeDivided_32 : decode cX4_takeDivided 32 = .ok (.iload 5, 2) := by decide +kernel
theorem dX4_takeDivided_34 : decode cX4_takeDivided 34 = .ok (.invokevirtual 155, 3) := by decide +kernel
theorem dX4_takeDivided_37 : decode cX4_takeDivided 37 = .ok (.ifCond .ne 5, 3) := by decide +kernel
theorem dX4_takeDivided_40 : decode cX4_takeDivided 40 = .ok (.iconst 0, 1) := by decide +kernel
theorem dX4_takeDivided_41 : decode cX4_takeDivided 41 = .ok (.ireturn, 1) := by decide +kernel
theorem dX4_takeDivided_42 : decode cX4_takeDivided 42 = .ok (.iconst 0, 1) := by decide +kernel
theorem dX4_takeDivided_43 : decode cX4_takeDivided 43 = .ok (.istore 4, 2) := by decide +kernel
theorem dX4_takeDivided_45 : decode cX4_takeDivided 45 = .ok (.goto 77, 3) := by decide +kernel
theorem dX4_takeDivided_48 : decode cX4_takeDivided 48 = .ok (.aload_n 0, 1) := by decide +kernel
theorem dX4_takeDivided_49 : decode cX4_takeDivided 49 = .ok (.getfield 12, 3) := by decide +kernel
theorem dX4_takeDivided_52 : decode cX4_takeDivided 52 = .ok (.iload 5, 2) := by decide +kernel
theorem dX4_takeDivided_54 : decode cX4_takeDivided 54 = .ok (.invokevirtual 65, 3) := by decide +kernel
theorem dX4_takeDivided_57 : decode cX4_takeDivided 57 = .ok (.bipush 31, 2) := by decide +kernel
theorem dX4_takeDivided_59 : decode cX4_takeDivided 59 = .ok (.if_icmp .ne 25, 3) := by decide +kernel
theorem dX4_takeDivided_62 : decode cX4_takeDivided 62 = .ok (.aload_n 1, 1) := by decide +kernel
theorem dX4_takeDivided_63 : decode cX4_takeDivided 63 = .ok (.invokevirtual 158, 3) := by decide +kernel
theorem dX4_takeDivided_66 : decode cX4_takeDivided 66 = .ok (.ifCond .eq 12, 3) := by decide +kernel
theorem dX4_takeDivided_69 : decode cX4_takeDivided 69 = .ok (.aload_n 0, 1) := by decide +kernel
theorem dX4_takeDivided_70 : decode cX4_takeDivided 70 = .ok (.bipush (-2), 2) := by decide +kernel
theorem dX4_takeDivided_72 : decode cX4_takeDivided 72 = .ok (.iload 5, 2) := by decide +kernel
theorem dX4_takeDivided_74 : decode cX4_takeDivided 74 = .ok (.invokevirtual 73, 3) := by decide +kernel
theorem dX4_takeDivided_77 : decode cX4_takeDivided 77 = .ok (.ireturn, 1) := by decide +kernel
theorem dX4_takeDivided_78 : decode cX4_takeDivided 78 = .ok (.iconst 1, 1) := by decide +kernel
theorem dX4_takeDivided_79 : decode cX4_takeDivided 79 = .ok (.istore 4, 2) := by decide +kernel
theorem dX4_takeDivided_81 : decode cX4_takeDivided 81 = .ok (.goto 41, 3) := by decide +kernel
theorem dX4_takeDivided_84 : decode cX4_takeDivided 84 = .ok (.aload_n 1, 1) := by decide +kernel
theorem dX4_takeDivided_85 : decode cX4_takeDivided 85 = .ok (.getfield 159, 3) := by decide +kernel
theorem dX4_takeDivided_88 : decode cX4_takeDivided 88 = .ok (.ifCond .ne 12, 3) := by decide +kernel
theorem dX4_takeDivided_91 : decode cX4_takeDivided 91 = .ok (.aload_n 0, 1) := by decide +kernel
theorem dX4_takeDivided_92 : decode cX4_takeDivided 92 = .ok (.bipush (-6), 2) := by decide +kernel
theorem dX4_takeDivided_94 : decode cX4_takeDivided 94 = .ok (.iload 5, 2) := by decide +kernel
theorem dX4_takeDivided_96 : decode cX4_takeDivided 96 = .ok (.invokevirtual 73, 3) := by decide +kernel
theorem dX4_takeDivided_99 : decode cX4_takeDivided 99 = .ok (.ireturn, 1) := by decide +kernel
theorem dX4_takeDivided_100 : decode cX4_takeDivided 100 = .ok (.aload_n 0, 1) := by decide +kernel
theorem dX4_takeDivided_101 : decode cX4_takeDivided 101 = .ok (.aload_n 1, 1) := by decide +kernel
theorem dX4_takeDivided_102 : decode cX4_takeDivided 102 = .ok (.getfield 135, 3) := by decide +kernel
theorem dX4_takeDivided_105 : decode cX4_takeDivided 105 = .ok (.aload_n 1, 1) := by decide +kernel
theorem dX4_takeDivided_106 : decode cX4_takeDivided 106 = .ok (.getfield 159, 3) := by decide +kernel
theorem dX4_takeDivided_109 : decode cX4_takeDivided 109 = .ok (.iconst 1, 1) := by decide +kernel
theorem dX4_takeDivided_110 : decode cX4_takeDivided 110 = .ok (.isub, 1) := by decide +kernel
theorem dX4_takeDivided_111 : decode cX4_takeDivided 111 = .ok (.aaload, 1) := by decide +kernel
theorem dX4_takeDivided_112 : decode cX4_takeDivided 112 = .ok (.iload 5, 2) := by decide +kernel
theorem dX4_takeDivided_114 : decode cX4_takeDivided 114 = .ok (.invokevirtual 139, 3) := by decide +kernel
theorem dX4_takeDivided_117 : decode cX4_takeDivided 117 = .ok (.ifCond .ne 5, 3) := by decide +kernel
theorem dX4_takeDivided_120 : decode cX4_takeDivided 120 = .ok (.iconst 0, 1) := by decide +kernel
theorem dX4_takeDivided_121 : decode cX4_takeDivided 121 = .ok (.ireturn, 1) := by decide +kernel
theorem dX4_takeDivided_122 : decode cX4_takeDivided 122 = .ok (.iinc 5 1, 3) := by decide +kernel
theorem dX4_takeDivided_125 : decode cX4_takeDivided 125 = .ok (.goto (-106), 3) := by decide +kernel
theorem dX4_takeDivided_128 : decode cX4_takeDivided 128 = .ok (.aload_n 1, 1) := by decide +kernel
theorem dX4_takeDivided_129 : decode cX4_takeDivided 129 = .ok (.getfield 159, 3) := by decide +kernel
theorem dX4_takeDivided_132 : decode cX4_takeDivided 132 = .ok (.ifCond .le 12, 3) := by decide +kernel
theorem dX4_takeDivided_135 : decode cX4_takeDivided 135 = .ok (.iload 4, 2) := by decide +kernel
theorem dX4_takeDivided_137 : decode cX4_takeDivided 137 = .ok (.ifCond .ne 7, 3) := by decide +kernel
theorem dX4_takeDivided_140 : decode cX4_takeDivided 140 = .ok (.iconst 1, 1) := by decide +kernel
theorem dX4_takeDivided_141 : decode cX4_takeDivided 141 = .ok (.goto 4, 3) := by decide +kernel
theorem dX4_takeDivided_144 : decode cX4_takeDivided 144 = .ok (.iconst 0, 1) := by decide +kernel
theorem dX4_takeDivided_145 : decode cX4_takeDivided 145 = .ok (.istore 5, 2) := by decide +kernel
theorem dX4_takeDivided_147 : decode cX4_takeDivided 147 = .ok (.iload 5, 2) := by decide +kernel
theorem dX4_takeDivided_149 : decode cX4_takeDivided 149 = .ok (.ifCond .eq 16, 3) := by decide +kernel
theorem dX4_takeDivided_152 : decode cX4_takeDivided 152 = .ok (.aload_n 0, 1) := by decide +kernel
theorem dX4_takeDivided_153 : decode cX4_takeDivided 153 = .ok (.getfield 12, 3) := by decide +kernel
theorem dX4_takeDivided_156 : decode cX4_takeDivided 156 = .ok (.iload_n 3, 1) := by decide +kernel
theorem dX4_takeDivided_157 : decode cX4_takeDivided 157 = .ok (.invokevirtual 65, 3) := by decide +kernel
theorem dX4_takeDivided_160 : decode cX4_takeDivided 160 = .ok (.bipush 30, 2) := by decide +kernel
theorem dX4_takeDivided_162 : decode cX4_takeDivided 162 = .ok (.if_icmp .eq 13, 3) := by decide +kernel
theorem dX4_takeDivided_165 : decode cX4_takeDivided 165 = .ok (.aload_n 0, 1) := by decide +kernel
theorem dX4_takeDivided_166 : decode cX4_takeDivided 166 = .ok (.bipush (-6), 2) := by decide +kernel
theorem dX4_takeDivided_168 : decode cX4_takeDivided 168 = .ok (.iload_n 3, 1) := by decide +kernel
theorem dX4_takeDivided_169 : decode cX4_takeDivided 169 = .ok (.invokevirtual 73, 3) := by decide +kernel
theorem dX4_takeDivided_172 : decode cX4_takeDivided 172 = .ok (.ifCond .eq 7, 3) := by decide +kernel
theorem dX4_takeDivided_175 : decode cX4_takeDivided 175 = .ok (.iconst 1, 1) := by decide +kernel
theorem dX4_takeDivided_176 : decode cX4_takeDivided 176 = .ok (.goto 4, 3) := by decide +kernel
theorem dX4_takeDivided_179 : decode cX4_takeDivided 179 = .ok (.iconst 0, 1) := by decide +kernel
theorem dX4_takeDivided_180 : decode cX4_takeDivided 180 = .ok (.ireturn, 1) := by decide +kernel
def rm_X4_takeDivided : Room := { frames := 4, cells := 0, slots := 0, locals := 87 }
def fn_X4_takeDivided_B175 (b : Nat) (σ : Sg) : Option (Int32 × Sg) :=
  some (1, σ)
set_option maxHeartbeats 4000000 in
set_option maxRecDepth 100000 in
theorem w_X4_takeDivided_B175 {p : Program} {l : Launch} {e : Env} {s : State} {m : MethodId} {args : Array Value} {below : List Frame} {meth : Method} {c : Code} {Q : State → Prop} {D : va_G} {κ : Nat → ClassId} {b : Nat} {H0 : Heap} {rr : Int32 × Sg} (hZ : sg_Z p c s m args D κ cX4_takeDivided 6 RX4 wsX4_takeDivided) (hret : ∀ (v : Int32) (u : Sg) (H : Heap) (locs : List Loc) (pc : Nat) (ls : Array Slot), some (v, u) = some rr → narrow .boolean (.int v) = .int v → CW D κ b u H → va_S (sg_A b 892) H0 H locs → decode cX4_takeDivided pc = .ok (.ireturn, 1) → W p l e rm_X4_takeDivided s m args below meth c H locs 0 0 Q (F0 m pc ls [.int v])) : ∀ {σ : Sg} {H : Heap} {locs : List Loc} {ls : Array Slot}, fn_X4_takeDivided_B175 b σ = some rr → lv_has ls 6 [] → CW D κ b σ H → va_S (sg_A b 892) H0 H locs → W p l e rm_X4_takeDivided s m args below meth c H locs 0 0 Q (F0 m 175 ls []) := by
  obtain ⟨hx, hb, hml, hown, hts, hK⟩ := hZ
  intro σ H locs ls h hl hC hS
  unfold fn_X4_takeDivided_B175 at h
  refine lv_iconst (v := 1) hx hb dX4_takeDivided_175 (by decide) ?_
  refine lv_goto (tgt := 180) hx hb dX4_takeDivided_176 (by decide) ?_
  exact hret _ _ _ _ _ _ h (by decide) hC hS dX4_takeDivided_180
def fn_X4_takeDivided_B165 (b : Nat) (σ : Sg) (x3 : Int32) : Option (Int32 × Sg) :=
  ((fn_X4_meet b σ (-6) x3).bind fun r1 =>
  (if r1.1 = 0 then
  some (0, r1.2)
  else fn_X4_takeDivided_B175 b r1.2))
set_option maxHeartbeats 4000000 in
set_option maxRecDepth 100000 in
theorem w_X4_takeDivided_B165 {p : Program} {l : Launch} {e : Env} {s : State} {m : MethodId} {args : Array Value} {below : List Frame} {meth : Method} {c : Code} {Q : State → Prop} {D : va_G} {κ : Nat → ClassId} {b : Nat} {H0 : Heap} {rr : Int32 × Sg} (hZ : sg_Z p c s m args D κ cX4_takeDivided 6 RX4 wsX4_takeDivided) (hret : ∀ (v : Int32) (u : Sg) (H : Heap) (locs : List Loc) (pc : Nat) (ls : Array Slot), some (v, u) = some rr → narrow .boolean (.int v) = .int v → CW D κ b u H → va_S (sg_A b 892) H0 H locs → decode cX4_takeDivided pc = .ok (.ireturn, 1) → W p l e rm_X4_takeDivided s m args below meth c H locs 0 0 Q (F0 m pc ls [.int v])) : ∀ {σ : Sg} {x3 : Int32} {H : Heap} {locs : List Loc} {ls : Array Slot}, fn_X4_takeDivided_B165 b σ x3 = some rr → lv_has ls 6 [(0, .ref (b + 1)), (3, .int x3)] → CW D κ b σ H → va_S (sg_A b 892) H0 H locs → W p l e rm_X4_takeDivided s m args below meth c H locs 0 0 Q (F0 m 165 ls []) := by
  obtain ⟨hx, hb, hml, hown, hts, hK⟩ := hZ
  intro σ x3 H locs ls h hl hC hS
  unfold fn_X4_takeDivided_B165 at h
  refine lv_aload_n hx hb dX4_takeDivided_165 rfl (lv_at hl 0 rfl) ?_
  refine lv_bipush (v := (-6)) hx hb dX4_takeDivided_166 (by decide) ?_
  refine lv_iload_n hx hb dX4_takeDivided_168 rfl (lv_at hl 1 rfl) ?_
  obtain ⟨r1, er1, h⟩ := Option.bind_eq_some_iff.mp h
  refine va_calli (va_runV (As := [.int (-6), .int x3]) (rest := []) ⟨hx, hb, hml, hown, hts⟩ (c_X4_meet l D κ b σ (-6) x3 _ er1) (cwV 2 hts (gwV wt_316 wt_318 wp_2 wt_2 wt_319) rfl rfl rfl (by decide +kernel) ⟨Nat.le_of_ble_eq_true rfl, Nat.le_of_ble_eq_true rfl⟩) (CW_preV hK hC sg_gReader rfl) rfl rfl hl.1 rfl (lv_room (Nat.le_of_ble_eq_true rfl)) dX4_takeDivided_169 ⟨Nat.zero_le _, Nat.zero_le _⟩) hS (fun _ _ h => h) (fun _ h => h) (fun r u t H locs ht _ hp hB _ _ hS => ?_)
  refine sg_topi hp.1 ?_
  have hC : CW D κ b r1.2 H := CW_b hB ht hp.2
  refine lv_if_eq (tgt := 179) hx hb dX4_takeDivided_172 (by decide) (fun hc => ?_) (fun hc => ?_)
  · replace h := (if_pos hc).symm.trans h
    refine lv_iconst (v := 0) hx hb dX4_takeDivided_179 (by decide) ?_
    exact hret _ _ _ _ _ _ h (by decide) hC hS dX4_takeDivided_180
  · replace h := (if_neg hc).symm.trans h
    exact w_X4_takeDivided_B175 ⟨hx, hb, hml, hown, hts, hK⟩ hret  h (lv_sub hl [] rfl) hC hS
def fn_X4_takeDivided_B145 (b : Nat) (σ : Sg) (x3 : Int32) (y0 : Int32) : Option (Int32 × Sg) :=
  (if y0 = 0 then
  fn_X4_takeDivided_B165 b σ x3
  else ((fn_X6_codeAt b σ x3).bind fun r1 =>
  (if r1 = 30 then
  fn_X4_takeDivided_B175 b σ
  else fn_X4_takeDivided_B165 b σ x3)))
set_option maxHeartbeats 4000000 in
set_option maxRecDepth 100000 in
theorem w_X4_takeDivided_B145 {p : Program} {l : Launch} {e : Env} {s : State} {m : MethodId} {args : Array Value} {below : List Frame} {meth : Method} {c : Code} {Q : State → Prop} {D : va_G} {κ : Nat → ClassId} {b : Nat} {H0 : Heap} {rr : Int32 × Sg} (hZ : sg_Z p c s m args D κ cX4_takeDivided 6 RX4 wsX4_takeDivided) (hret : ∀ (v : Int32) (u : Sg) (H : Heap) (locs : List Loc) (pc : Nat) (ls : Array Slot), some (v, u) = some rr → narrow .boolean (.int v) = .int v → CW D κ b u H → va_S (sg_A b 892) H0 H locs → decode cX4_takeDivided pc = .ok (.ireturn, 1) → W p l e rm_X4_takeDivided s m args below meth c H locs 0 0 Q (F0 m pc ls [.int v])) : ∀ {σ : Sg} {x3 : Int32} {y0 : Int32} {H : Heap} {locs : List Loc} {ls : Array Slot}, fn_X4_takeDivided_B145 b σ x3 y0 = some rr → lv_has ls 6 [(0, .ref (b + 1)), (3, .int x3)] → CW D κ b σ H → va_S (sg_A b 892) H0 H locs → W p l e rm_X4_takeDivided s m args below meth c H locs 0 0 Q (F0 m 145 ls [.int y0]) := by
  obtain ⟨hx, hb, hml, hown, hts, hK⟩ := hZ
  intro σ x3 y0 H locs ls h hl hC hS
  unfold fn_X4_takeDivided_B145 at h
  refine lv_istore (lv' := [(5, .int y0), (0, .ref (b + 1)), (3, .int x3)]) hx hb dX4_takeDivided_145 hl (by decide) rfl (fun ls hl => ?_)
  refine lv_iload hx hb dX4_takeDivided_147 (lv_at hl 0 rfl) ?_
  refine lv_if_eq (tgt := 165) hx hb dX4_takeDivided_149 (by decide) (fun hc => ?_) (fun hc => ?_)
  · replace h := (if_pos hc).symm.trans h
    exact w_X4_takeDivided_B165 ⟨hx, hb, hml, hown, hts, hK⟩ hret  h (lv_sub hl [1, 2] rfl) hC hS
  · replace h := (if_neg hc).symm.trans h
    refine lv_aload_n hx hb dX4_takeDivided_152 rfl (lv_at hl 1 rfl) ?_
    refine va_get (D := D) (ci := 4) (v := .ref (b + 2)) (C := RX4) (T := TX4) (N := 8) hx hb hts (wqs inW_X4) hown hK.1 hC.1 ((b + 1) - b) sg_gReader rfl 0 (by decide) (hts _ (wq wt_47)) (fun _ h9 => h9) rfl dX4_takeDivided_153 ?_
    refine lv_iload_n hx hb dX4_takeDivided_156 rfl (lv_at hl 2 rfl) ?_
    obtain ⟨r1, er1, h⟩ := Option.bind_eq_some_iff.mp h
    refine va_calli (va_runV (As := [.int x3]) (rest := []) ⟨hx, hb, hml, hown, hts⟩ (c_X6_codeAt l D κ b σ x3 _ er1) (cwV 1 hts (gwV wt_312 wt_244 wt_245 wt_3 wt_246) rfl rfl rfl (by decide +kernel) ⟨Nat.le_of_ble_eq_true rfl, Nat.le_of_ble_eq_true rfl⟩) (CW_preV hK hC sg_gText rfl) rfl rfl hl.1 rfl (lv_room (Nat.le_of_ble_eq_true rfl)) dX4_takeDivided_157 ⟨Nat.zero_le _, Nat.zero_le _⟩) hS (fun _ _ h => h) (fun _ h => h) (fun r u t H locs ht _ hp hB _ _ hS => ?_)
    refine sg_topi hp.1 ?_
    have hC : CW D κ b σ H := CW_b hB ht hp.2
    refine lv_bipush (v := 30) hx hb dX4_takeDivided_160 (by decide) ?_
    refine lv_icmp_eq (tgt := 175) hx hb dX4_takeDivided_162 (by decide) (fun hc => ?_) (fun hc => ?_)
    · replace h := (if_pos hc).symm.trans h
      exact w_X4_takeDivided_B175 ⟨hx, hb, hml, hown, hts, hK⟩ hret  h (lv_sub hl [] rfl) hC hS
    · replace h := (if_neg hc).symm.trans h
      exact w_X4_takeDivided_B165 ⟨hx, hb, hml, hown, hts, hK⟩ hret  h (lv_sub hl [1, 2] rfl) hC hS
def fn_X4_takeDivided_B144 (b : Nat) (σ : Sg) (x3 : Int32) : Option (Int32 × Sg) :=
  fn_X4_takeDivided_B145 b σ x3 0
set_option maxHeartbeats 4000000 in
set_option maxRecDepth 100000 in
theorem w_X4_takeDivided_B144 {p : Program} {l : Launch} {e : Env} {s : State} {m : MethodId} {args : Array Value} {below : List Frame} {meth : Method} {c : Code} {Q : State → Prop} {D : va_G} {κ : Nat → ClassId} {b : Nat} {H0 : Heap} {rr : Int32 × Sg} (hZ : sg_Z p c s m args D κ cX4_takeDivided 6 RX4 wsX4_takeDivided) (hret : ∀ (v : Int32) (u : Sg) (H : Heap) (locs : List Loc) (pc : Nat) (ls : Array Slot), some (v, u) = some rr → narrow .boolean (.int v) = .int v → CW D κ b u H → va_S (sg_A b 892) H0 H locs → decode cX4_takeDivided pc = .ok (.ireturn, 1) → W p l e rm_X4_takeDivided s m args below meth c H locs 0 0 Q (F0 m pc ls [.int v])) : ∀ {σ : Sg} {x3 : Int32} {H : Heap} {locs : List Loc} {ls : Array Slot}, fn_X4_takeDivided_B144 b σ x3 = some rr → lv_has ls 6 [(0, .ref (b + 1)), (3, .int x3)] → CW D κ b σ H → va_S (sg_A b 892) H0 H locs → W p l e rm_X4_takeDivided s m args below meth c H locs 0 0 Q (F0 m 144 ls []) := by
  obtain ⟨hx, hb, hml, hown, hts, hK⟩ := hZ
  intro σ x3 H locs ls h hl hC hS
  unfold fn_X4_takeDivided_B144 at h
  refine lv_iconst (v := 0) hx hb dX4_takeDivided_144 (by decide) ?_
  exact w_X4_takeDivided_B145 ⟨hx, hb, hml, hown, hts, hK⟩ hret  h (lv_sub hl [0, 1] rfl) hC hS
def fn_X4_takeDivided_B122 (b : Nat) (z19 : Sg → Nat → Int32 → Int32 → Int32 → Option (Int32 × Sg)) (σ : Sg) (x1 : Nat) (x3 : Int32) (x4 : Int32) (x5 : Int32) : Option (Int32 × Sg) :=
  (sg_lt (x5 + 1 : Int32) fun v1 =>
  z19 σ x1 x3 x4 v1)
set_option maxHeartbeats 4000000 in
set_option maxRecDepth 100000 in
theorem w_X4_takeDivided_B122 {p : Program} {l : Launch} {e : Env} {s : State} {m : MethodId} {args : Array Value} {below : List Frame} {meth : Method} {c : Code} {Q : State → Prop} {D : va_G} {κ : Nat → ClassId} {b : Nat} {H0 : Heap} {rr : Int32 × Sg} (hZ : sg_Z p c s m args D κ cX4_takeDivided 6 RX4 wsX4_takeDivided) (hret : ∀ (v : Int32) (u : Sg) (H : Heap) (locs : List Loc) (pc : Nat) (ls : Array Slot), some (v, u) = some rr → narrow .boolean (.int v) = .int v → CW D κ b u H → va_S (sg_A b 892) H0 H locs → decode cX4_takeDivided pc = .ok (.ireturn, 1) → W p l e rm_X4_takeDivided s m args below meth c H locs 0 0 Q (F0 m pc ls [.int v])) {z19 : Sg → Nat → Int32 → Int32 → Int32 → Option (Int32 × Sg)} (hr19 : ∀ {σ : Sg} {x1 : Nat} {x3 : Int32} {x4 : Int32} {x5 : Int32} {H : Heap} {locs : List Loc} {ls : Array Slot}, z19 σ x1 x3 x4 x5 = some rr → is_Fld b x1 → lv_has ls 6 [(0, .ref (b + 1)), (1, .ref x1), (3, .int x3), (4, .int x4), (5, .int x5)] → CW D κ b σ H → va_S (sg_A b 892) H0 H locs → W p l e rm_X4_takeDivided s m args below meth c H locs 0 0 Q (F0 m 19 ls [])) : ∀ {σ : Sg} {x1 : Nat} {x3 : Int32} {x4 : Int32} {x5 : Int32} {H : Heap} {locs : List Loc} {ls : Array Slot}, fn_X4_takeDivided_B122 b z19 σ x1 x3 x4 x5 = some rr → is_Fld b x1 → lv_has ls 6 [(0, .ref (b + 1)), (1, .ref x1), (3, .int x3), (4, .int x4), (5, .int x5)] → CW D κ b σ H → va_S (sg_A b 892) H0 H locs → W p l e rm_X4_takeDivided s m args below meth c H locs 0 0 Q (F0 m 122 ls []) := by
  obtain ⟨hx, hb, hml, hown, hts, hK⟩ := hZ
  intro σ x1 x3 x4 x5 H locs ls h hx1 hl hC hS
  unfold fn_X4_takeDivided_B122 at h
  obtain ⟨v1, ev1, h⟩ := sg_lte h
  refine lv_iinc (v := v1) (lv' := [(5, .int v1), (0, .ref (b + 1)), (1, .ref x1), (3, .int x3), (4, .int x4)]) (k := 4) hx hb dX4_takeDivided_122 hl rfl (sg_inc (by decide) ev1) (by decide) rfl (fun ls hl => ?_)
  refine lv_goto (tgt := 19) hx hb dX4_takeDivided_125 (by decide) ?_
  exact hr19 h hx1 (lv_sub hl [1, 2, 3, 4, 0] rfl) hC hS
def fn_X4_takeDivided_B19b (b : Nat) (z19 : Sg → Nat → Int32 → Int32 → Int32 → Option (Int32 × Sg)) (σ : Sg) (x1 : Nat) (x3 : Int32) (x4 : Int32) (x5 : Int32) : Option (Int32 × Sg) :=
  (if (x3 : Int32) ≤ x5 then
  (if (σ.1 x1 1) ≤ 0 then
  fn_X4_takeDivided_B144 b σ x3
  else (if x4 = 0 then
  fn_X4_takeDivided_B145 b σ x3 1
  else fn_X4_takeDivided_B144 b σ x3))
  else (if x4 = 0 then
  ((fn_X6_codeAt b σ x5).bind fun r1 =>
  (if r1 = 31 then
  ((fn_X1_isFull b σ x1).bind fun r5 =>
  (if r5 = 0 then
  fn_X4_takeDivided_B122 b z19 σ x1 x3 1 x5
  else ((fn_X4_meet b σ (-2) x5).bind fun r6 =>
  (if sg_bo r6.1 then some (r6.1, r6.2) else none))))
  else (if (σ.1 x1 1) = 0 then
  ((fn_X4_meet b σ (-6) x5).bind fun r4 =>
  (if sg_bo r4.1 then some (r4.1, r4.2) else none))
  else (if sg_ib ((σ.1 x1 1) - 1) 4 then
  ((fn_X4_takeLetter b σ (x1 + 2 + 4 * sg_x ((σ.1 x1 1) - 1)) x5).bind fun r3 =>
  (if r3.1 = 0 then
  some (0, r3.2)
  else fn_X4_takeDivided_B122 b z19 r3.2 x1 x3 x4 x5))
  else none))))
  else ((fn_X4_takeCode b σ x1 x5).bind fun r7 =>
  (if r7.1 = 0 then
  some (0, r7.2)
  else fn_X4_takeDivided_B122 b z19 r7.2 x1 x3 0 x5))))
def fn_X4_takeDivided_B19 (b : Nat) : Nat → Sg → Nat → Int32 → Int32 → Int32 → Option (Int32 × Sg)
  | 0 => fun _ _ _ _ _ => none
  | n + 1 => fun σ x1 x3 x4 x5 => fn_X4_takeDivided_B19b b (fn_X4_takeDivided_B19 b n) σ x1 x3 x4 x5
set_option maxHeartbeats 4000000 in
set_option maxRecDepth 100000 in
theorem w_X4_takeDivided_B19b {p : Program} {l : Launch} {e : Env} {s : State} {m : MethodId} {args : Array Value} {below : List Frame} {meth : Method} {c : Code} {Q : State → Prop} {D : va_G} {κ : Nat → ClassId} {b : Nat} {H0 : Heap} {rr : Int32 × Sg} (hZ : sg_Z p c s m args D κ cX4_takeDivided 6 RX4 wsX4_takeDivided) (hret : ∀ (v : Int32) (u : Sg) (H : Heap) (locs : List Loc) (pc : Nat) (ls : Array Slot), some (v, u) = some rr → narrow .boolean (.int v) = .int v → CW D κ b u H → va_S (sg_A b 892) H0 H locs → decode cX4_takeDivided pc = .ok (.ireturn, 1) → W p l e rm_X4_takeDivided s m args below meth c H locs 0 0 Q (F0 m pc ls [.int v])) {z19 : Sg → Nat → Int32 → Int32 → Int32 → Option (Int32 × Sg)} (hr19 : ∀ {σ : Sg} {x1 : Nat} {x3 : Int32} {x4 : Int32} {x5 : Int32} {H : Heap} {locs : List Loc} {ls : Array Slot}, z19 σ x1 x3 x4 x5 = some rr → is_Fld b x1 → lv_has ls 6 [(0, .ref (b + 1)), (1, .ref x1), (3, .int x3), (4, .int x4), (5, .int x5)] → CW D κ b σ H → va_S (sg_A b 892) H0 H locs → W p l e rm_X4_takeDivided s m args below meth c H locs 0 0 Q (F0 m 19 ls [])) : ∀ {σ : Sg} {x1 : Nat} {x3 : Int32} {x4 : Int32} {x5 : Int32} {H : Heap} {locs : List Loc} {ls : Array Slot}, fn_X4_takeDivided_B19b b z19 σ x1 x3 x4 x5 = some rr → is_Fld b x1 → lv_has ls 6 [(0, .ref (b + 1)), (1, .ref x1), (3, .int x3), (4, .int x4), (5, .int x5)] → CW D κ b σ H → va_S (sg_A b 892) H0 H locs → W p l e rm_X4_takeDivided s m args below meth c H locs 0 0 Q (F0 m 19 ls []) := by
  obtain ⟨hx, hb, hml, hown, hts, hK⟩ := hZ
  intro σ x1 x3 x4 x5 H locs ls h hx1 hl hC hS
  unfold fn_X4_takeDivided_B19b at h
  refine lv_iload hx hb dX4_takeDivided_19 (lv_at hl 4 rfl) ?_
  refine lv_iload_n hx hb dX4_takeDivided_21 rfl (lv_at hl 2 rfl) ?_
  refine lv_icmp_ge (tgt := 128) hx hb dX4_takeDivided_22 (by decide) (fun hc => ?_) (fun hc => ?_)
  · replace h := (if_pos hc).symm.trans h
    refine lv_aload_n hx hb dX4_takeDivided_128 rfl (lv_at hl 1 rfl) ?_
    refine va_getN (D := D) (ci := 1) (v := .int (σ.1 x1 1)) (C := RX1) (T := TX1) (N := 5) hx hb hts (wqs inW_X1) hown hK.1 hC.1 (x1 - b) (sg_gField hx1) rfl 1 (by decide) (nf_18 hK) (fun _ h9 => h9) rfl dX4_takeDivided_129 ?_
    refine lv_if_le (tgt := 144) hx hb dX4_takeDivided_132 (by decide) (fun hc => ?_) (fun hc => ?_)
    · replace h := (if_pos hc).symm.trans h
      exact w_X4_takeDivided_B144 ⟨hx, hb, hml, hown, hts, hK⟩ hret  h (lv_sub hl [0, 2] rfl) hC hS
    · replace h := (if_neg hc).symm.trans h
      refine lv_iload hx hb dX4_takeDivided_135 (lv_at hl 3 rfl) ?_
      refine lv_if_ne (tgt := 144) hx hb dX4_takeDivided_137 (by decide) (fun hc => ?_) (fun hc => ?_)
      · replace h := (if_neg hc).symm.trans h
        exact w_X4_takeDivided_B144 ⟨hx, hb, hml, hown, hts, hK⟩ hret  h (lv_sub hl [0, 2] rfl) hC hS
      · replace h := (if_pos hc).symm.trans h
        refine lv_iconst (v := 1) hx hb dX4_takeDivided_140 (by decide) ?_
        refine lv_goto (tgt := 145) hx hb dX4_takeDivided_141 (by decide) ?_
        exact w_X4_takeDivided_B145 ⟨hx, hb, hml, hown, hts, hK⟩ hret  h (lv_sub hl [0, 2] rfl) hC hS
  · replace h := (if_neg hc).symm.trans h
    refine lv_iload hx hb dX4_takeDivided_25 (lv_at hl 3 rfl) ?_
    refine lv_if_eq (tgt := 48) hx hb dX4_takeDivided_27 (by decide) (fun hc => ?_) (fun hc => ?_)
    · replace h := (if_pos hc).symm.trans h
      refine lv_aload_n hx hb dX4_takeDivided_48 rfl (lv_at hl 0 rfl) ?_
      refine va_get (D := D) (ci := 4) (v := .ref (b + 2)) (C := RX4) (T := TX4) (N := 8) hx hb hts (wqs inW_X4) hown hK.1 hC.1 ((b + 1) - b) sg_gReader rfl 0 (by decide) (hts _ (wq wt_47)) (fun _ h9 => h9) rfl dX4_takeDivided_49 ?_
      refine lv_iload hx hb dX4_takeDivided_52 (lv_at hl 4 rfl) ?_
      obtain ⟨r1, er1, h⟩ := Option.bind_eq_some_iff.mp h
      refine va_calli (va_runV (As := [.int x5]) (rest := []) ⟨hx, hb, hml, hown, hts⟩ (c_X6_codeAt l D κ b σ x5 _ er1) (cwV 1 hts (gwV wt_312 wt_244 wt_245 wt_3 wt_246) rfl rfl rfl (by decide +kernel) ⟨Nat.le_of_ble_eq_true rfl, Nat.le_of_ble_eq_true rfl⟩) (CW_preV hK hC sg_gText rfl) rfl rfl hl.1 rfl (lv_room (Nat.le_of_ble_eq_true rfl)) dX4_takeDivided_54 ⟨Nat.zero_le _, Nat.zero_le _⟩) hS (fun _ _ h => h) (fun _ h => h) (fun r u t H locs ht _ hp hB _ _ hS => ?_)
      refine sg_topi hp.1 ?_
      have hC : CW D κ b σ H := CW_b hB ht hp.2
      refine lv_bipush (v := 31) hx hb dX4_takeDivided_57 (by decide) ?_
      refine lv_icmp_ne (tgt := 84) hx hb dX4_takeDivided_59 (by decide) (fun hc => ?_) (fun hc => ?_)
      · replace h := (if_neg hc).symm.trans h
        refine lv_aload_n hx hb dX4_takeDivided_84 rfl (lv_at hl 1 rfl) ?_
        refine va_getN (D := D) (ci := 1) (v := .int (σ.1 x1 1)) (C := RX1) (T := TX1) (N := 5) hx hb hts (wqs inW_X1) hown hK.1 hC.1 (x1 - b) (sg_gField hx1) rfl 1 (by decide) (nf_18 hK) (fun _ h9 => h9) rfl dX4_takeDivided_85 ?_
        refine lv_if_ne (tgt := 100) hx hb dX4_takeDivided_88 (by decide) (fun hc => ?_) (fun hc => ?_)
        · replace h := (if_neg hc).symm.trans h
          refine lv_aload_n hx hb dX4_takeDivided_100 rfl (lv_at hl 0 rfl) ?_
          refine lv_aload_n hx hb dX4_takeDivided_101 rfl (lv_at hl 1 rfl) ?_
          refine va_getN (D := D) (ci := 1) (v := .ref (x1 + 1)) (C := RX1) (T := TX1) (N := 5) hx hb hts (wqs inW_X1) hown hK.1 hC.1 (x1 - b) (sg_gField hx1) rfl 0 (by decide) (nf_15 hK) (fun _ h9 => h9) rfl dX4_takeDivided_102 ?_
          refine lv_aload_n hx hb dX4_takeDivided_105 rfl (lv_at hl 1 rfl) ?_
          refine va_getN (D := D) (ci := 1) (v := .int (σ.1 x1 1)) (C := RX1) (T := TX1) (N := 5) hx hb hts (wqs inW_X1) hown hK.1 hC.1 (x1 - b) (sg_gField hx1) rfl 1 (by decide) (nf_18 hK) (fun _ h9 => h9) rfl dX4_takeDivided_106 ?_
          refine lv_iconst (v := 1) hx hb dX4_takeDivided_109 (by decide) ?_
          refine lv_isub hx hb dX4_takeDivided_110 ?_
          obtain ⟨hg, h⟩ := sg_gd h
          refine va_aldq (C := "RecordShelf$Subfield") hx hb hK.1 hC.1 ((x1 + 1) - b) 4 (sg_gsubs hx1) rfl (sg_in hg) dX4_takeDivided_111 ?_
          have hv2 := sg_vSub hx1 hg
          refine W.eq (g2 := F0 m 112 ls [.ref (x1 + 2 + 4 * sg_x ((σ.1 x1 1) - 1)), .ref (b + 1)]) rfl ?_
          refine lv_iload hx hb dX4_takeDivided_112 (lv_at hl 4 rfl) ?_
          obtain ⟨r3, er3, h⟩ := Option.bind_eq_some_iff.mp h
          refine va_calli (va_runV (As := [.ref (x1 + 2 + 4 * sg_x ((σ.1 x1 1) - 1)), .int x5]) (rest := []) ⟨hx, hb, hml, hown, hts⟩ (c_X4_takeLetter l D κ b σ (x1 + 2 + 4 * sg_x ((σ.1 x1 1) - 1)) x5 _ hv2 er3) (cwV 2 hts (gwV wt_386 wt_388 wp_11 wt_2 wt_389) rfl rfl rfl (by decide +kernel) ⟨Nat.le_of_ble_eq_true rfl, Nat.le_of_ble_eq_true rfl⟩) (CW_preV hK hC sg_gReader rfl) rfl rfl hl.1 rfl (lv_room (Nat.le_of_ble_eq_true rfl)) dX4_takeDivided_114 ⟨Nat.zero_le _, Nat.zero_le _⟩) hS (fun _ _ h => h) (fun _ h => h) (fun r u t H locs ht _ hp hB _ _ hS => ?_)
          refine sg_topi hp.1 ?_
          have hC : CW D κ b r3.2 H := CW_b hB ht hp.2
          refine lv_if_ne (tgt := 122) hx hb dX4_takeDivided_117 (by decide) (fun hc => ?_) (fun hc => ?_)
          · replace h := (if_neg hc).symm.trans h
            exact w_X4_takeDivided_B122 ⟨hx, hb, hml, hown, hts, hK⟩ hret hr19 h hx1 (lv_sub hl [0, 1, 2, 3, 4] rfl) hC hS
          · replace h := (if_pos hc).symm.trans h
            refine lv_iconst (v := 0) hx hb dX4_takeDivided_120 (by decide) ?_
            exact hret _ _ _ _ _ _ h (by decide) hC hS dX4_takeDivided_121
        · replace h := (if_pos hc).symm.trans h
          refine lv_aload_n hx hb dX4_takeDivided_91 rfl (lv_at hl 0 rfl) ?_
          refine lv_bipush (v := (-6)) hx hb dX4_takeDivided_92 (by decide) ?_
          refine lv_iload hx hb dX4_takeDivided_94 (lv_at hl 4 rfl) ?_
          obtain ⟨r4, er4, h⟩ := Option.bind_eq_some_iff.mp h
          refine va_calli (va_runV (As := [.int (-6), .int x5]) (rest := []) ⟨hx, hb, hml, hown, hts⟩ (c_X4_meet l D κ b σ (-6) x5 _ er4) (cwV 2 hts (gwV wt_316 wt_318 wp_2 wt_2 wt_319) rfl rfl rfl (by decide +kernel) ⟨Nat.le_of_ble_eq_true rfl, Nat.le_of_ble_eq_true rfl⟩) (CW_preV hK hC sg_gReader rfl) rfl rfl hl.1 rfl (lv_room (Nat.le_of_ble_eq_true rfl)) dX4_takeDivided_96 ⟨Nat.zero_le _, Nat.zero_le _⟩) hS (fun _ _ h => h) (fun _ h => h) (fun r u t H locs ht _ hp hB _ _ hS => ?_)
          refine sg_topi hp.1 ?_
          have hC : CW D κ b r4.2 H := CW_b hB ht hp.2
          obtain ⟨hg, h⟩ := sg_gd h
          exact hret _ _ _ _ _ _ h (sg_bn hg) hC hS dX4_takeDivided_99
      · replace h := (if_pos hc).symm.trans h
        refine lv_aload_n hx hb dX4_takeDivided_62 rfl (lv_at hl 1 rfl) ?_
        obtain ⟨r5, er5, h⟩ := Option.bind_eq_some_iff.mp h
        refine va_calli (va_runV (As := []) (rest := []) ⟨hx, hb, hml, hown, hts⟩ (c_X1_isFull l D κ b σ x1 _ hx1 er5) (cwV 0 hts (gwV wt_427 wt_375 wt_376 wt_7 wt_377) rfl rfl rfl (by decide +kernel) ⟨Nat.le_of_ble_eq_true rfl, Nat.le_of_ble_eq_true rfl⟩) (CW_preV hK hC (sg_gField hx1) rfl) rfl rfl hl.1 rfl (lv_room (Nat.le_of_ble_eq_true rfl)) dX4_takeDivided_63 ⟨Nat.zero_le _, Nat.zero_le _⟩) hS (fun _ _ h => h) (fun _ h => h) (fun r u t H locs ht _ hp hB _ _ hS => ?_)
        refine sg_topi hp.1 ?_
        have hC : CW D κ b σ H := CW_b hB ht hp.2
        refine lv_if_eq (tgt := 78) hx hb dX4_takeDivided_66 (by decide) (fun hc => ?_) (fun hc => ?_)
        · replace h := (if_pos hc).symm.trans h
          refine lv_iconst (v := 1) hx hb dX4_takeDivided_78 (by decide) ?_
          refine lv_istore (lv' := [(4, .int 1), (0, .ref (b + 1)), (1, .ref x1), (3, .int x3), (5, .int x5)]) hx hb dX4_takeDivided_79 hl (by decide) rfl (fun ls hl => ?_)
          refine lv_goto (tgt := 122) hx hb dX4_takeDivided_81 (by decide) ?_
          exact w_X4_takeDivided_B122 ⟨hx, hb, hml, hown, hts, hK⟩ hret hr19 h hx1 (lv_sub hl [1, 2, 3, 0, 4] rfl) hC hS
        · replace h := (if_neg hc).symm.trans h
          refine lv_aload_n hx hb dX4_takeDivided_69 rfl (lv_at hl 0 rfl) ?_
          refine lv_bipush (v := (-2)) hx hb dX4_takeDivided_70 (by decide) ?_
          refine lv_iload hx hb dX4_takeDivided_72 (lv_at hl 4 rfl) ?_
          obtain ⟨r6, er6, h⟩ := Option.bind_eq_some_iff.mp h
          refine va_calli (va_runV (As := [.int (-2), .int x5]) (rest := []) ⟨hx, hb, hml, hown, hts⟩ (c_X4_meet l D κ b σ (-2) x5 _ er6) (cwV 2 hts (gwV wt_316 wt_318 wp_2 wt_2 wt_319) rfl rfl rfl (by decide +kernel) ⟨Nat.le_of_ble_eq_true rfl, Nat.le_of_ble_eq_true rfl⟩) (CW_preV hK hC sg_gReader rfl) rfl rfl hl.1 rfl (lv_room (Nat.le_of_ble_eq_true rfl)) dX4_takeDivided_74 ⟨Nat.zero_le _, Nat.zero_le _⟩) hS (fun _ _ h => h) (fun _ h => h) (fun r u t H locs ht _ hp hB _ _ hS => ?_)
          refine sg_topi hp.1 ?_
          have hC : CW D κ b r6.2 H := CW_b hB ht hp.2
          obtain ⟨hg, h⟩ := sg_gd h
          exact hret _ _ _ _ _ _ h (sg_bn hg) hC hS dX4_takeDivided_77
    · replace h := (if_neg hc).symm.trans h
      refine lv_aload_n hx hb dX4_takeDivided_30 rfl (lv_at hl 0 rfl) ?_
      refine lv_aload_n hx hb dX4_takeDivided_31 rfl (lv_at hl 1 rfl) ?_
      refine lv_iload hx hb dX4_takeDivided_32 (lv_at hl 4 rfl) ?_
      obtain ⟨r7, er7, h⟩ := Option.bind_eq_some_iff.mp h
      refine va_calli (va_runV (As := [.ref x1, .int x5]) (rest := []) ⟨hx, hb, hml, hown, hts⟩ (c_X4_takeCode l D κ b σ x1 x5 _ hx1 er7) (cwV 2 hts (gwV wt_422 wt_424 wp_15 wt_2 wt_425) rfl rfl rfl (by decide +kernel) ⟨Nat.le_of_ble_eq_true rfl, Nat.le_of_ble_eq_true rfl⟩) (CW_preV hK hC sg_gReader rfl) rfl rfl hl.1 rfl (lv_room (Nat.le_of_ble_eq_true rfl)) dX4_takeDivided_34 ⟨Nat.zero_le _, Nat.zero_le _⟩) hS (fun _ _ h => h) (fun _ h => h) (fun r u t H locs ht _ hp hB _ _ hS => ?_)
      refine sg_topi hp.1 ?_
      have hC : CW D κ b r7.2 H := CW_b hB ht hp.2
      refine lv_if_ne (tgt := 42) hx hb dX4_takeDivided_37 (by decide) (fun hc => ?_) (fun hc => ?_)
      · replace h := (if_neg hc).symm.trans h
        refine lv_iconst (v := 0) hx hb dX4_takeDivided_42 (by decide) ?_
        refine lv_istore (lv' := [(4, .int 0), (0, .ref (b + 1)), (1, .ref x1), (3, .int x3), (5, .int x5)]) hx hb dX4_takeDivided_43 hl (by decide) rfl (fun ls hl => ?_)
        refine lv_goto (tgt := 122) hx hb dX4_takeDivided_45 (by decide) ?_
        exact w_X4_takeDivided_B122 ⟨hx, hb, hml, hown, hts, hK⟩ hret hr19 h hx1 (lv_sub hl [1, 2, 3, 0, 4] rfl) hC hS
      · replace h := (if_pos hc).symm.trans h
        refine lv_iconst (v := 0) hx hb dX4_takeDivided_40 (by decide) ?_
        exact hret _ _ _ _ _ _ h (by decide) hC hS dX4_takeDivided_41
set_option maxHeartbeats 4000000 in
theorem w_X4_takeDivided_B19 {p : Program} {l : Launch} {e : Env} {s : State} {m : MethodId} {args : Array Value} {below : List Frame} {meth : Method} {c : Code} {Q : State → Prop} {D : va_G} {κ : Nat → ClassId} {b : Nat} {H0 : Heap} {rr : Int32 × Sg} (hZ : sg_Z p c s m args D κ cX4_takeDivided 6 RX4 wsX4_takeDivided) (hret : ∀ (v : Int32) (u : Sg) (H : Heap) (locs : List Loc) (pc : Nat) (ls : Array Slot), some (v, u) = some rr → narrow .boolean (.int v) = .int v → CW D κ b u H → va_S (sg_A b 892) H0 H locs → decode cX4_takeDivided pc = .ok (.ireturn, 1) → W p l e rm_X4_takeDivided s m args below meth c H locs 0 0 Q (F0 m pc ls [.int v])) : ∀ n : Nat, ∀ {σ : Sg} {x1 : Nat} {x3 : Int32} {x4 : Int32} {x5 : Int32} {H : Heap} {locs : List Loc} {ls : Array Slot}, fn_X4_takeDivided_B19 b n σ x1 x3 x4 x5 = some rr → is_Fld b x1 → lv_has ls 6 [(0, .ref (b + 1)), (1, .ref x1), (3, .int x3), (4, .int x4), (5, .int x5)] → CW D κ b σ H → va_S (sg_A b 892) H0 H locs → W p l e rm_X4_takeDivided s m args below meth c H locs 0 0 Q (F0 m 19 ls []) := by
  intro n
  induction n with
  | zero => intro σ x1 x3 x4 x5 H locs ls h hx1 hl hC hS; cases (show (none : Option (Int32 × Sg)) = some rr from h)
  | succ n ih =>
    intro σ x1 x3 x4 x5 H locs ls h hx1 hl hC hS
    exact w_X4_takeDivided_B19b hZ hret ih (show fn_X4_takeDivided_B19b b (fn_X4_takeDivided_B19 b n) σ x1 x3 x4 x5 = some rr from h) hx1 hl hC hS
def fn_X4_takeDivided (b : Nat) (σ : Sg) (x1 : Nat) (x2 : Int32) (x3 : Int32) : Option (Int32 × Sg) :=
  ((fn_X4_takeIndicators b σ x1 x2).bind fun r1 =>
  (if r1.1 = 0 then
  some (0, r1.2)
  else (sg_lt ((x2 + 2) : Int32) fun v2 =>
  fn_X4_takeDivided_B19 b sg_N r1.2 x1 x3 0 v2)))
set_option maxHeartbeats 4000000 in
set_option maxRecDepth 100000 in
theorem w_X4_takeDivided_B0 {p : Program} {l : Launch} {e : Env} {s : State} {m : MethodId} {args : Array Value} {below : List Frame} {meth : Method} {c : Code} {Q : State → Prop} {D : va_G} {κ : Nat → ClassId} {b : Nat} {H0 : Heap} {rr : Int32 × Sg} (hZ : sg_Z p c s m args D κ cX4_takeDivided 6 RX4 wsX4_takeDivided) (hret : ∀ (v : Int32) (u : Sg) (H : Heap) (locs : List Loc) (pc : Nat) (ls : Array Slot), some (v, u) = some rr → narrow .boolean (.int v) = .int v → CW D κ b u H → va_S (sg_A b 892) H0 H locs → decode cX4_takeDivided pc = .ok (.ireturn, 1) → W p l e rm_X4_takeDivided s m args below meth c H locs 0 0 Q (F0 m pc ls [.int v])) : ∀ {σ : Sg} {x1 : Nat} {x2 : Int32} {x3 : Int32} {H : Heap} {locs : List Loc} {ls : Array Slot}, fn_X4_takeDivided b σ x1 x2 x3 = some rr → is_Fld b x1 → lv_has ls 6 [(0, .ref (b + 1)), (1, .ref x1), (2, .int x2), (3, .int x3)] → CW D κ b σ H → va_S (sg_A b 892) H0 H locs → W p l e rm_X4_takeDivided s m args below meth c H locs 0 0 Q (F0 m 0 ls []) := by
  obtain ⟨hx, hb, hml, hown, hts, hK⟩ := hZ
  intro σ x1 x2 x3 H locs ls h hx1 hl hC hS
  unfold fn_X4_takeDivided at h
  refine lv_aload_n hx hb dX4_takeDivided_0 rfl (lv_at hl 0 rfl) ?_
  refine lv_aload_n hx hb dX4_takeDivided_1 rfl (lv_at hl 1 rfl) ?_
  refine lv_iload_n hx hb dX4_takeDivided_2 rfl (lv_at hl 2 rfl) ?_
  obtain ⟨r1, er1, h⟩ := Option.bind_eq_some_iff.mp h
  refine va_calli (va_runV (As := [.ref x1, .int x2]) (rest := []) ⟨hx, hb, hml, hown, hts⟩ (c_X4_takeIndicators l D κ b σ x1 x2 _ hx1 er1) (cwV 2 hts (gwV wt_414 wt_416 wp_14 wt_2 wt_417) rfl rfl rfl (by decide +kernel) ⟨Nat.le_of_ble_eq_true rfl, Nat.le_of_ble_eq_true rfl⟩) (CW_preV hK hC sg_gReader rfl) rfl rfl hl.1 rfl (lv_room (Nat.le_of_ble_eq_true rfl)) dX4_takeDivided_3 ⟨Nat.zero_le _, Nat.zero_le _⟩) hS (fun _ _ h => h) (fun _ h => h) (fun r u t H locs ht _ hp hB _ _ hS => ?_)
  refine sg_topi hp.1 ?_
  have hC : CW D κ b r1.2 H := CW_b hB ht hp.2
  refine lv_if_ne (tgt := 11) hx hb dX4_takeDivided_6 (by decide) (fun hc => ?_) (fun hc => ?_)
  · replace h := (if_neg hc).symm.trans h
    refine lv_iconst (v := 0) hx hb dX4_takeDivided_11 (by decide) ?_
    refine lv_istore (lv' := [(4, .int 0), (0, .ref (b + 1)), (1, .ref x1), (2, .int x2), (3, .int x3)]) hx hb dX4_takeDivided_12 hl (by decide) rfl (fun ls hl => ?_)
    refine lv_iload_n hx hb dX4_takeDivided_14 rfl (lv_at hl 3 rfl) ?_
    refine lv_iconst (v := 2) hx hb dX4_takeDivided_15 (by decide) ?_
    refine lv_iadd hx hb dX4_takeDivided_16 ?_
    obtain ⟨v2, ev2, h⟩ := sg_lte h
    refine sg_topi ev2 ?_
    refine lv_istore (lv' := [(5, .int v2), (4, .int 0), (0, .ref (b + 1)), (1, .ref x1), (2, .int x2), (3, .int x3)]) hx hb dX4_takeDivided_17 hl (by decide) rfl (fun ls hl => ?_)
    exact w_X4_takeDivided_B19 ⟨hx, hb, hml, hown, hts, hK⟩ hret  sg_N h hx1 (lv_sub hl [2, 3, 5, 1, 0] rfl) hC hS
  · replace h := (if_pos hc).symm.trans h
    refine lv_iconst (v := 0) hx hb dX4_takeDivided_9 (by decide) ?_
    exact hret _ _ _ _ _ _ h (by decide) hC hS dX4_takeDivided_10
set_option maxHeartbeats 4000000 in
set_option maxRecDepth 100000 in
theorem c_X4_takeDivided (l : Launch) (D : va_G) (κ : Nat → ClassId) (b : Nat) (σ : Sg) (x1 : Nat) (x2 : Int32) (x3 : Int32) (rr : Int32 × Sg) (hx1 : is_Fld b x1) (h : fn_X4_takeDivided b σ x1 x2 x3 = some rr) : Met l yX4_takeDivided wsX4_takeDivided rm_X4_takeDivided (va_Pc [.ref (b + 1), .ref x1, .int x2, .int x3] (fun U => KK D κ U ∧ CW D κ b σ U.heap)) (va_Qi (fun (r : Int32) (u : Sg) => r = rr.1 ∧ u = rr.2) (fun u t => CW D κ b u t.heap) (sg_A b 892)) 0 0 (sg_A b 892) := by
  refine Met.ofW (cc := cX4_takeDivided) (maxL := 6) (ret := (some .boolean)) (by decide) rfl ?_
  intro p e s m args below meth c s₁ B hml hv
  obtain ⟨rfl, hK, hC⟩ := hv
  have hr := B.returns
  have hlocks := B.notSynchronized
  have hl := lv_entry ([.ref (b + 1), .ref x1, .int x2, .int x3]) (n := 6) (Nat.le_of_ble_eq_true rfl)
  rw [lg_entry_eq]
  generalize (lg_sl ([.ref (b + 1), .ref x1, .int x2, .int x3]) ++ List.replicate (6 - (lg_sl ([.ref (b + 1), .ref x1, .int x2, .int x3])).length) Slot.unset).toArray = ls at hl ⊢
  have hl : lv_has ls 6 [(0, .ref (b + 1)), (1, .ref x1), (2, .int x2), (3, .int x3)] := hl
  exact w_X4_takeDivided_B0 ⟨B.exec, B.bytes, hml, findClass_of_methodNamed B.named, atoms_spec (ws := wsX4_takeDivided) B.pre, hK⟩ (fun v u H locs pc ls hq hbo hC hS hd => W.zret B.exec B.bytes hr hbo (fun t ht hW => ⟨⟨v, _, rfl, ⟨congrArg Prod.fst (Option.some.inj hq), congrArg Prod.snd (Option.some.inj hq)⟩, CW_e ht hC⟩, hS.F ht⟩) hS.2.2 hd) h hx1 hl hC va_S.rf

-- RecordShelf$Reader.checkEnd()Z
theorem dX4_checkEnd_0 : decode cX4_checkEnd 0 = .ok (.aload_n 0, 1) := by decide +kernel
theorem dX4_checkEnd_1 : decode cX4_checkEnd 1 = .ok (.getfield 12, 3) := by decide +kernel
theorem dX4_checkEnd_4 : decode cX4_checkEnd 4 = .ok (.aload_n 0, 1) := by decide +kernel
theorem dX4_checkEnd_5 : decode cX4_checkEnd 5 = .ok (.getfield 12, 3) := by decide +kernel
theorem dX4_checkEnd_8 : decode cX4_checkEnd 8 = .ok (.getfield 51, 3) := by decide +kernel
theorem dX4_checkEnd_11 : decode cX4_checkEnd 11 = .ok (.iconst 1, 1) := by decide +kernel
theorem dX4_checkEnd_12 : decode cX4_checkEnd 12 = .ok (.isub, 1) := by decide +kernel
theorem dX4_checkEnd_13 : decode cX4_checkEnd 13 = .ok (.invokevirtual 65, 3) := by decide +kernel
theorem dX4_checkEnd_16 : decode cX4_checkEnd 16 = .ok (.bipush 29, 2) := by decide +kernel
theorem dX4_checkEnd_18 : decode cX4_checkEnd 18 = .ok (.if_icmp .eq 21, 3) := by decide +kernel
theorem dX4_checkEnd_21 : decode cX4_checkEnd 21 = .ok (.aload_n 0, 1) := by decide +kernel
theorem dX4_checkEnd_22 : decode cX4_checkEnd 22 = .ok (.bipush (-7), 2) := by decide +kernel
theorem dX4_checkEnd_24 : decode cX4_checkEnd 24 = .ok (.aload_n 0, 1) := by decide +kernel
theorem dX4_checkEnd_25 : decode cX4_checkEnd 25 = .ok (.getfield 12, 3) := by decide +kernel
theorem dX4_checkEnd_28 : decode cX4_checkEnd 28 = .ok (.getfield 51, 3) := by decide +kernel
theorem dX4_checkEnd_31 : decode cX4_checkEnd 31 = .ok (.iconst 1, 1) := by decide +kernel
theorem dX4_checkEnd_32 : decode cX4_checkEnd 32 = .ok (.isub, 1) := by decide +kernel
theorem dX4_checkEnd_33 : decode cX4_checkEnd 33 = .ok (.invokevirtual 73, 3) := by decide +kernel
theorem dX4_checkEnd_36 : decode cX4_checkEnd 36 = .ok (.ifCond .eq 7, 3) := by decide +kernel
theorem dX4_checkEnd_39 : decode cX4_checkEnd 39 = .ok (.iconst 1, 1) := by decide +kernel
theorem dX4_checkEnd_40 : decode cX4_checkEnd 40 = .ok (.goto 4, 3) := by decide +kernel
theorem dX4_checkEnd_43 : decode cX4_checkEnd 43 = .ok (.iconst 0, 1) := by decide +kernel
theorem dX4_checkEnd_44 : decode cX4_checkEnd 44 = .ok (.ireturn, 1) := by decide +kernel
def rm_X4_checkEnd : Room := { frames := 1, cells := 0, slots := 0, locals := 22 }
def fn_X4_checkEnd_B39 (b : Nat) (σ : Sg) : Option (Int32 × Sg) :=
  some (1, σ)
set_option maxHeartbeats 4000000 in
set_option maxRecDepth 100000 in
theorem w_X4_checkEnd_B39 {p : Program} {l : Launch} {e : Env} {s : State} {m : MethodId} {args : Array Value} {below : List Frame} {meth : Method} {c : Code} {Q : State → Prop} {D : va_G} {κ : Nat → ClassId} {b : Nat} {H0 : Heap} {rr : Int32 × Sg} (hZ : sg_Z p c s m args D κ cX4_checkEnd 1 RX4 wsX4_checkEnd) (hret : ∀ (v : Int32) (u : Sg) (H : Heap) (locs : List Loc) (pc : Nat) (ls : Array Slot), some (v, u) = some rr → narrow .boolean (.int v) = .int v → CW D κ b u H → va_S (sg_A b 892) H0 H locs → decode cX4_checkEnd pc = .ok (.ireturn, 1) → W p l e rm_X4_checkEnd s m args below meth c H locs 0 0 Q (F0 m pc ls [.int v])) : ∀ {σ : Sg} {H : Heap} {locs : List Loc} {ls : Array Slot}, fn_X4_checkEnd_B39 b σ = some rr → lv_has ls 1 [] → CW D κ b σ H → va_S (sg_A b 892) H0 H locs → W p l e rm_X4_checkEnd s m args below meth c H locs 0 0 Q (F0 m 39 ls []) := by
  obtain ⟨hx, hb, hml, hown, hts, hK⟩ := hZ
  intro σ H locs ls h hl hC hS
  unfold fn_X4_checkEnd_B39 at h
  refine lv_iconst (v := 1) hx hb dX4_checkEnd_39 (by decide) ?_
  refine lv_goto (tgt := 44) hx hb dX4_checkEnd_40 (by decide) ?_
  exact hret _ _ _ _ _ _ h (by decide) hC hS dX4_checkEnd_44
def fn_X4_checkEnd (b : Nat) (σ : Sg) : Option (Int32 × Sg) :=
  ((fn_X6_codeAt b σ ((σ.1 (b + 2) 1) - 1)).bind fun r1 =>
  (if r1 = 29 then
  fn_X4_checkEnd_B39 b σ
  else ((fn_X4_meet b σ (-7) ((σ.1 (b + 2) 1) - 1)).bind fun r2 =>
  (if r2.1 = 0 then
  some (0, r2.2)
  else fn_X4_checkEnd_B39 b r2.2))))
set_option maxHeartbeats 4000000 in
set_option maxRecDepth 100000 in
theorem w_X4_checkEnd_B0 {p : Program} {l : Launch} {e : Env} {s : State} {m : MethodId} {args : Array Value} {below : List Frame} {meth : Method} {c : Code} {Q : State → Prop} {D : va_G} {κ : Nat → ClassId} {b : Nat} {H0 : Heap} {rr : Int32 × Sg} (hZ : sg_Z p c s m args D κ cX4_checkEnd 1 RX4 wsX4_checkEnd) (hret : ∀ (v : Int32) (u : Sg) (H : Heap) (locs : List Loc) (pc : Nat) (ls : Array Slot), some (v, u) = some rr → narrow .boolean (.int v) = .int v → CW D κ b u H → va_S (sg_A b 892) H0 H locs → decode cX4_checkEnd pc = .ok (.ireturn, 1) → W p l e rm_X4_checkEnd s m args below meth c H locs 0 0 Q (F0 m pc ls [.int v])) : ∀ {σ : Sg} {H : Heap} {locs : List Loc} {ls : Array Slot}, fn_X4_checkEnd b σ = some rr → lv_has ls 1 [(0, .ref (b + 1))] → CW D κ b σ H → va_S (sg_A b 892) H0 H locs → W p l e rm_X4_checkEnd s m args below meth c H locs 0 0 Q (F0 m 0 ls []) := by
  obtain ⟨hx, hb, hml, hown, hts, hK⟩ := hZ
  intro σ H locs ls h hl hC hS
  unfold fn_X4_checkEnd at h
  refine lv_aload_n hx hb dX4_checkEnd_0 rfl (lv_at hl 0 rfl) ?_
  refine va_get (D := D) (ci := 4) (v := .ref (b + 2)) (C := RX4) (T := TX4) (N := 8) hx hb hts (wqs inW_X4) hown hK.1 hC.1 ((b + 1) - b) sg_gReader rfl 0 (by decide) (hts _ (wq wt_47)) (fun _ h9 => h9) rfl dX4_checkEnd_1 ?_
  refine lv_aload_n hx hb dX4_checkEnd_4 rfl (lv_at hl 0 rfl) ?_
  refine va_get (D := D) (ci := 4) (v := .ref (b + 2)) (C := RX4) (T := TX4) (N := 8) hx hb hts (wqs inW_X4) hown hK.1 hC.1 ((b + 1) - b) sg_gReader rfl 0 (by decide) (hts _ (wq wt_47)) (fun _ h9 => h9) rfl dX4_checkEnd_5 ?_
  refine va_getN (D := D) (ci := 6) (v := .int (σ.1 (b + 2) 1)) (C := RX6) (T := TX6) (N := 2) hx hb hts (wqs inW_X6) hown hK.1 hC.1 ((b + 2) - b) sg_gText rfl 1 (by decide) (nf_2 hK) (fun _ h9 => h9) rfl dX4_checkEnd_8 ?_
  refine lv_iconst (v := 1) hx hb dX4_checkEnd_11 (by decide) ?_
  refine lv_isub hx hb dX4_checkEnd_12 ?_
  obtain ⟨r1, er1, h⟩ := Option.bind_eq_some_iff.mp h
  refine va_calli (va_runV (As := [.int ((σ.1 (b + 2) 1) - 1)]) (rest := []) ⟨hx, hb, hml, hown, hts⟩ (c_X6_codeAt l D κ b σ ((σ.1 (b + 2) 1) - 1) _ er1) (cwV 1 hts (gwV wt_312 wt_244 wt_245 wt_3 wt_246) rfl rfl rfl (by decide +kernel) ⟨Nat.le_of_ble_eq_true rfl, Nat.le_of_ble_eq_true rfl⟩) (CW_preV hK hC sg_gText rfl) rfl rfl hl.1 rfl (lv_room (Nat.le_of_ble_eq_true rfl)) dX4_checkEnd_13 ⟨Nat.zero_le _, Nat.zero_le _⟩) hS (fun _ _ h => h) (fun _ h => h) (fun r u t H locs ht _ hp hB _ _ hS => ?_)
  refine sg_topi hp.1 ?_
  have hC : CW D κ b σ H := CW_b hB ht hp.2
  refine lv_bipush (v := 29) hx hb dX4_checkEnd_16 (by decide) ?_
  refine lv_icmp_eq (tgt := 39) hx hb dX4_checkEnd_18 (by decide) (fun hc => ?_) (fun hc => ?_)
  · replace h := (if_pos hc).symm.trans h
    exact w_X4_checkEnd_B39 ⟨hx, hb, hml, hown, hts, hK⟩ hret  h (lv_sub hl [] rfl) hC hS
  · replace h := (if_neg hc).symm.trans h
    refine lv_aload_n hx hb dX4_checkEnd_21 rfl (lv_at hl 0 rfl) ?_
    refine lv_bipush (v := (-7)) hx hb dX4_checkEnd_22 (by decide) ?_
    refine lv_aload_n hx hb dX4_checkEnd_24 rfl (lv_at hl 0 rfl) ?_
    refine va_get (D := D) (ci := 4) (v := .ref (b + 2)) (C := RX4) (T := TX4) (N := 8) hx hb hts (wqs inW_X4) hown hK.1 hC.1 ((b + 1) - b) sg_gReader rfl 0 (by decide) (hts _ (wq wt_47)) (fun _ h9 => h9) rfl dX4_checkEnd_25 ?_
    refine va_getN (D := D) (ci := 6) (v := .int (σ.1 (b + 2) 1)) (C := RX6) (T := TX6) (N := 2) hx hb hts (wqs inW_X6) hown hK.1 hC.1 ((b + 2) - b) sg_gText rfl 1 (by decide) (nf_2 hK) (fun _ h9 => h9) rfl dX4_checkEnd_28 ?_
    refine lv_iconst (v := 1) hx hb dX4_checkEnd_31 (by decide) ?_
    refine lv_isub hx hb dX4_checkEnd_32 ?_
    obtain ⟨r2, er2, h⟩ := Option.bind_eq_some_iff.mp h
    refine va_calli (va_runV (As := [.int (-7), .int ((σ.1 (b + 2) 1) - 1)]) (rest := []) ⟨hx, hb, hml, hown, hts⟩ (c_X4_meet l D κ b σ (-7) ((σ.1 (b + 2) 1) - 1) _ er2) (cwV 2 hts (gwV wt_316 wt_318 wp_2 wt_2 wt_319) rfl rfl rfl (by decide +kernel) ⟨Nat.le_of_ble_eq_true rfl, Nat.le_of_ble_eq_true rfl⟩) (CW_preV hK hC sg_gReader rfl) rfl rfl hl.1 rfl (lv_room (Nat.le_of_ble_eq_true rfl)) dX4_checkEnd_33 ⟨Nat.zero_le _, Nat.zero_le _⟩) hS (fun _ _ h => h) (fun _ h => h) (fun r u t H locs ht _ hp hB _ _ hS => ?_)
    refine sg_topi hp.1 ?_
    have hC : CW D κ b r2.2 H := CW_b hB ht hp.2
    refine lv_if_eq (tgt := 43) hx hb dX4_checkEnd_36 (by decide) (fun hc => ?_) (fun hc => ?_)
    · replace h := (if_pos hc).symm.trans h
      refine lv_iconst (v := 0) hx hb dX4_checkEnd_43 (by decide) ?_
      exact hret _ _ _ _ _ _ h (by decide) hC hS dX4_checkEnd_44
    · replace h := (if_neg hc).symm.trans h
      exact w_X4_checkEnd_B39 ⟨hx, hb, hml, hown, hts, hK⟩ hret  h (lv_sub hl [] rfl) hC hS
set_option maxHeartbeats 4000000 in
set_option maxRecDepth 100000 in
theorem c_X4_checkEnd (l : Launch) (D : va_G) (κ : Nat → ClassId) (b : Nat) (σ : Sg)  (rr : Int32 × Sg)  (h : fn_X4_checkEnd b σ = some rr) : Met l yX4_checkEnd wsX4_checkEnd rm_X4_checkEnd (va_Pc [.ref (b + 1)] (fun U => KK D κ U ∧ CW D κ b σ U.heap)) (va_Qi (fun (r : Int32) (u : Sg) => r = rr.1 ∧ u = rr.2) (fun u t => CW D κ b u t.heap) (sg_A b 892)) 0 0 (sg_A b 892) := by
  refine Met.ofW (cc := cX4_checkEnd) (maxL := 1) (ret := (some .boolean)) (by decide) rfl ?_
  intro p e s m args below meth c s₁ B hml hv
  obtain ⟨rfl, hK, hC⟩ := hv
  have hr := B.returns
  have hlocks := B.notSynchronized
  have hl := lv_entry ([.ref (b + 1)]) (n := 1) (Nat.le_of_ble_eq_true rfl)
  rw [lg_entry_eq]
  generalize (lg_sl ([.ref (b + 1)]) ++ List.replicate (1 - (lg_sl ([.ref (b + 1)])).length) Slot.unset).toArray = ls at hl ⊢
  have hl : lv_has ls 1 [(0, .ref (b + 1))] := hl
  exact w_X4_checkEnd_B0 ⟨B.exec, B.bytes, hml, findClass_of_methodNamed B.named, atoms_spec (ws := wsX4_checkEnd) B.pre, hK⟩ (fun v u H locs pc ls hq hbo hC hS hd => W.zret B.exec B.bytes hr hbo (fun t ht hW => ⟨⟨v, _, rfl, ⟨congrArg Prod.fst (Option.some.inj hq), congrArg Prod.snd (Option.some.inj hq)⟩, CW_e ht hC⟩, hS.F ht⟩) hS.2.2 hd) h  hl hC va_S.rf
