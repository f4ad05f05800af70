-- RecordShelf$Headings.clear()V
theorem dX2_clear_0 : decode cX2_clear 0 = .ok (.aload_n 0, 1) := by decide +kernel
theorem dX2_clear_1 : decode cX2_clear 1 = .ok (.iconst 0, 1) := by decide +kernel
theorem dX2_clear_2 : decode cX2_clear 2 = .ok (.putfield 15, 3) := by decide +kernel
theorem dX2_clear_5 : decode cX2_clear 5 = .ok (.return_, 1) := by decide +kernel
def rm_X2_clear : Room := { frames := 0, cells := 0, slots := 0, locals := 0 }
def fn_X2_clear (b : Nat) (σ : Sg) : Option (Sg) :=
  (sg_lt (sg_w σ (b + 6) 1 0) fun σ1 =>
  some σ1)
set_option maxHeartbeats 4000000 in
set_option maxRecDepth 100000 in
theorem w_X2_clear_B0 {p : Program} {l : Launch} {e : Env} {s : State} {m : MethodId} {args : Array Value} {below : List Frame} {meth : Method} {c : Code} {Q : State → Prop} {D : va_G} {κ : Nat → ClassId} {b : Nat} {H0 : Heap} {rr : Sg} (hZ : sg_Z p c s m args D κ cX2_clear 1 RX2 wsX2_clear) (hret : ∀ (u : Sg) (H : Heap) (locs : List Loc) (pc : Nat) (ls : Array Slot), some u = some rr → CW D κ b u H → va_S (sg_A b 892) H0 H locs → decode cX2_clear pc = .ok (.return_, 1) → W p l e rm_X2_clear s m args below meth c H locs 0 0 Q (F0 m pc ls [])) : ∀ {σ : Sg} {H : Heap} {locs : List Loc} {ls : Array Slot}, fn_X2_clear b σ = some rr → lv_has ls 1 [(0, .ref (b + 6))] → CW D κ b σ H → va_S (sg_A b 892) H0 H locs → W p l e rm_X2_clear s m args below meth c H locs 0 0 Q (F0 m 0 ls []) := by
  obtain ⟨hx, hb, hml, hown, hts, hK⟩ := hZ
  intro σ H locs ls h hl hC hS
  unfold fn_X2_clear at h
  refine lv_aload_n hx hb dX2_clear_0 rfl (lv_at hl 0 rfl) ?_
  refine lv_iconst (v := 0) hx hb dX2_clear_1 (by decide) ?_
  refine va_put (D := D) (ci := 2) (v := .int 0) (ty := .int) (C := RX2) (T := TX2) (N := 2) hx hb hts (wqs inW_X2) tyX2 tyX2_ok nmX2 hown hK.1 hC.1 sg_D hS ((b + 6) - b) sg_gHeadings rfl 1 (by decide) (hts _ (wq wt_85)) (fun _ h9 => h9) rfl (by decide +kernel) rfl rfl (Nat.le_of_ble_eq_true rfl) dX2_clear_2 (fun H locs hP _ hS => ?_)
  obtain ⟨σ1, eσ1, h⟩ := sg_lte h
  have hC : CW D κ b σ1 H := eσ1 ▸ CW_put (k := 1) (v := 0) hC sg_aHeadings (sg_yHeadings _ _) hP
  exact hret _ _ _ _ _ h hC hS dX2_clear_5
set_option maxHeartbeats 4000000 in
set_option maxRecDepth 100000 in
theorem c_X2_clear (l : Launch) (D : va_G) (κ : Nat → ClassId) (b : Nat) (σ : Sg)  (rr : Sg)  (h : fn_X2_clear b σ = some rr) : Met l yX2_clear wsX2_clear rm_X2_clear (va_Pc [.ref (b + 6)] (fun U => KK D κ U ∧ CW D κ b σ U.heap)) (va_Qv (fun u : Sg => u = rr) (fun u t => CW D κ b u t.heap) (sg_A b 892)) 0 0 (sg_A b 892) := by
  refine Met.ofW (cc := cX2_clear) (maxL := 1) (ret := none) (by decide) rfl ?_
  intro p e s m args below meth c s₁ B hml hv
  obtain ⟨rfl, hK, hC⟩ := hv
  have hr := B.returns
  have hlocks := B.notSynchronized
  have hl := lv_entry ([.ref (b + 6)]) (n := 1) (Nat.le_of_ble_eq_true rfl)
  rw [lg_entry_eq]
  generalize (lg_sl ([.ref (b + 6)]) ++ List.replicate (1 - (lg_sl ([.ref (b + 6)])).length) Slot.unset).toArray = ls at hl ⊢
  have hl : lv_has ls 1 [(0, .ref (b + 6))] := hl
  exact w_X2_clear_B0 ⟨B.exec, B.bytes, hml, findClass_of_methodNamed B.named, atoms_spec (ws := wsX2_clear) B.pre, hK⟩ (fun u H locs pc ls hq hC hS hd => W.vret B.exec B.bytes hr (fun t ht hW => ⟨⟨_, rfl, Option.some.inj hq, CW_e ht hC⟩, hS.F ht⟩) hS.2.2 hd) h  hl hC va_S.rf

-- RecordShelf$Headings.recordOf(I)I
theorem dX2_recordOf_0 : decode cX2_recordOf 0 = .ok (.iload_n 0, 1) := by decide +kernel
theorem dX2_recordOf_1 : decode cX2_recordOf 1 = .ok (.bipush 32, 2) := by decide +kernel
theorem dX2_recordOf_3 : decode cX2_recordOf 3 = .ok (.idiv, 1) := by decide +kernel
theorem dX2_recordOf_4 : decode cX2_recordOf 4 = .ok (.ireturn, 1) := by decide +kernel
def rm_X2_recordOf : Room := { frames := 0, cells := 0, slots := 0, locals := 0 }
def fn_X2_recordOf (x0 : Int32) : Option (Int32) :=
  some (x0 / 32)
set_option maxHeartbeats 4000000 in
set_option maxRecDepth 100000 in
theorem w_X2_recordOf_B0 {p : Program} {l : Launch} {e : Env} {s : State} {m : MethodId} {args : Array Value} {below : List Frame} {meth : Method} {c : Code} {Q : State → Prop} {D : va_G} {κ : Nat → ClassId} {b : Nat} {H0 : Heap} {rr : Int32} {σ : Sg} (hZ : sg_Z p c s m args D κ cX2_recordOf 1 RX2 wsX2_recordOf) (hret : ∀ (v : Int32) (H : Heap) (locs : List Loc) (pc : Nat) (ls : Array Slot), some v = some rr → CW D κ b σ H → va_S (sg_A b 892) H0 H locs → decode cX2_recordOf pc = .ok (.ireturn, 1) → W p l e rm_X2_recordOf s m args below meth c H locs 0 0 Q (F0 m pc ls [.int v])) : ∀ {x0 : Int32} {H : Heap} {locs : List Loc} {ls : Array Slot}, fn_X2_recordOf x0 = some rr → lv_has ls 1 [(0, .int x0)] → CW D κ b σ H → va_S (sg_A b 892) H0 H locs → W p l e rm_X2_recordOf s m args below meth c H locs 0 0 Q (F0 m 0 ls []) := by
  obtain ⟨hx, hb, hml, hown, hts, hK⟩ := hZ
  intro x0 H locs ls h hl hC hS
  unfold fn_X2_recordOf at h
  refine lv_iload_n hx hb dX2_recordOf_0 rfl (lv_at hl 0 rfl) ?_
  refine lv_bipush (v := 32) hx hb dX2_recordOf_1 (by decide) ?_
  refine lv_idiv hx hb dX2_recordOf_3 (by decide) ?_
  exact hret _ _ _ _ _ h hC hS dX2_recordOf_4
set_option maxHeartbeats 4000000 in
set_option maxRecDepth 100000 in
theorem c_X2_recordOf (l : Launch) (D : va_G) (κ : Nat → ClassId) (b : Nat) (σ : Sg) (x0 : Int32) (rr : Int32)  (h : fn_X2_recordOf x0 = some rr) : Met l yX2_recordOf wsX2_recordOf rm_X2_recordOf (va_Pc [.int x0] (fun U => KK D κ U ∧ CW D κ b σ U.heap)) (va_Qi (fun (r : Int32) (u : Sg) => r = rr ∧ u = σ) (fun u t => CW D κ b u t.heap) (sg_A b 892)) 0 0 (sg_A b 892) := by
  refine Met.ofW (cc := cX2_recordOf) (maxL := 1) (ret := (some .int)) (by decide) rfl ?_
  intro p e s m args below meth c s₁ B hml hv
  obtain ⟨rfl, hK, hC⟩ := hv
  have hr := B.returns
  have hlocks := B.notSynchronized
  have hl := lv_entry ([.int x0]) (n := 1) (Nat.le_of_ble_eq_true rfl)
  rw [lg_entry_eq]
  generalize (lg_sl ([.int x0]) ++ List.replicate (1 - (lg_sl ([.int x0])).length) Slot.unset).toArray = ls at hl ⊢
  have hl : lv_has ls 1 [(0, .int x0)] := hl
  exact w_X2_recordOf_B0 ⟨B.exec, B.bytes, hml, findClass_of_methodNamed B.named, atoms_spec (ws := wsX2_recordOf) B.pre, hK⟩ (fun v H locs pc ls hq hC hS hd => W.iret B.exec B.bytes hr (fun t ht hW => ⟨⟨v, _, rfl, ⟨Option.some.inj hq, rfl⟩, CW_e ht hC⟩, hS.F ht⟩) hS.2.2 hd) h  hl hC va_S.rf

-- RecordShelf$Headings.fieldOf(I)I
theorem dX2_fieldOf_0 : decode cX2_fieldOf 0 = .ok (.iload_n 0, 1) := by decide +kernel
theorem dX2_fieldOf_1 : decode cX2_fieldOf 1 = .ok (.iconst 4, 1) := by decide +kernel
theorem dX2_fieldOf_2 : decode cX2_fieldOf 2 = .ok (.idiv, 1) := by decide +kernel
theorem dX2_fieldOf_3 : decode cX2_fieldOf 3 = .ok (.bipush 8, 2) := by decide +kernel
theorem dX2_fieldOf_5 : decode cX2_fieldOf 5 = .ok (.irem, 1) := by decide +kernel
theorem dX2_fieldOf_6 : decode cX2_fieldOf 6 = .ok (.ireturn, 1) := by decide +kernel
def rm_X2_fieldOf : Room := { frames := 0, cells := 0, slots := 0, locals := 0 }
def fn_X2_fieldOf (x0 : Int32) : Option (Int32) :=
  some ((x0 / 4) - (x0 / 4) / 8 * 8)
set_option maxHeartbeats 4000000 in
set_option maxRecDepth 100000 in
theorem w_X2_fieldOf_B0 {p : Program} {l : Launch} {e : Env} {s : State} {m : MethodId} {args : Array Value} {below : List Frame} {meth : Method} {c : Code} {Q : State → Prop} {D : va_G} {κ : Nat → ClassId} {b : Nat} {H0 : Heap} {rr : Int32} {σ : Sg} (hZ : sg_Z p c s m args D κ cX2_fieldOf 1 RX2 wsX2_fieldOf) (hret : ∀ (v : Int32) (H : Heap) (locs : List Loc) (pc : Nat) (ls : Array Slot), some v = some rr → CW D κ b σ H → va_S (sg_A b 892) H0 H locs → decode cX2_fieldOf pc = .ok (.ireturn, 1) → W p l e rm_X2_fieldOf s m args below meth c H locs 0 0 Q (F0 m pc ls [.int v])) : ∀ {x0 : Int32} {H : Heap} {locs : List Loc} {ls : Array Slot}, fn_X2_fieldOf x0 = some rr → lv_has ls 1 [(0, .int x0)] → CW D κ b σ H → va_S (sg_A b 892) H0 H locs → W p l e rm_X2_fieldOf s m args below meth c H locs 0 0 Q (F0 m 0 ls []) := by
  obtain ⟨hx, hb, hml, hown, hts, hK⟩ := hZ
  intro x0 H locs ls h hl hC hS
  unfold fn_X2_fieldOf at h
  refine lv_iload_n hx hb dX2_fieldOf_0 rfl (lv_at hl 0 rfl) ?_
  refine lv_iconst (v := 4) hx hb dX2_fieldOf_1 (by decide) ?_
  refine lv_idiv hx hb dX2_fieldOf_2 (by decide) ?_
  refine lv_bipush (v := 8) hx hb dX2_fieldOf_3 (by decide) ?_
  refine lv_irem hx hb dX2_fieldOf_5 (by decide) ?_
  exact hret _ _ _ _ _ h hC hS dX2_fieldOf_6
set_option maxHeartbeats 4000000 in
set_option maxRecDepth 100000 in
theorem c_X2_fieldOf (l : Launch) (D : va_G) (κ : Nat → ClassId) (b : Nat) (σ : Sg) (x0 : Int32) (rr : Int32)  (h : fn_X2_fieldOf x0 = some rr) : Met l yX2_fieldOf wsX2_fieldOf rm_X2_fieldOf (va_Pc [.int x0] (fun U => KK D κ U ∧ CW D κ b σ U.heap)) (va_Qi (fun (r : Int32) (u : Sg) => r = rr ∧ u = σ) (fun u t => CW D κ b u t.heap) (sg_A b 892)) 0 0 (sg_A b 892) := by
  refine Met.ofW (cc := cX2_fieldOf) (maxL := 1) (ret := (some .int)) (by decide) rfl ?_
  intro p e s m args below meth c s₁ B hml hv
  obtain ⟨rfl, hK, hC⟩ := hv
  have hr := B.returns
  have hlocks := B.notSynchronized
  have hl := lv_entry ([.int x0]) (n := 1) (Nat.le_of_ble_eq_true rfl)
  rw [lg_entry_eq]
  generalize (lg_sl ([.int x0]) ++ List.replicate (1 - (lg_sl ([.int x0])).length) Slot.unset).toArray = ls at hl ⊢
  have hl : lv_has ls 1 [(0, .int x0)] := hl
  exact w_X2_fieldOf_B0 ⟨B.exec, B.bytes, hml, findClass_of_methodNamed B.named, atoms_spec (ws := wsX2_fieldOf) B.pre, hK⟩ (fun v H locs pc ls hq hC hS hd => W.iret B.exec B.bytes hr (fun t ht hW => ⟨⟨v, _, rfl, ⟨Option.some.inj hq, rfl⟩, CW_e ht hC⟩, hS.F ht⟩) hS.2.2 hd) h  hl hC va_S.rf

-- RecordShelf$Headings.subfieldOf(I)I
theorem dX2_subfieldOf_0 : decode cX2_subfieldOf 0 = .ok (.iload_n 0, 1) := by decide +kernel
theorem dX2_subfieldOf_1 : decode cX2_subfieldOf 1 = .ok (.iconst 4, 1) := by decide +kernel
theorem dX2_subfieldOf_2 : decode cX2_subfieldOf 2 = .ok (.irem, 1) := by decide +kernel
theorem dX2_subfieldOf_3 : decode cX2_subfieldOf 3 = .ok (.ireturn, 1) := by decide +kernel
def rm_X2_subfieldOf : Room := { frames := 0, cells := 0, slots := 0, locals := 0 }
def fn_X2_subfieldOf (x0 : Int32) : Option (Int32) :=
  some (x0 - x0 / 4 * 4)
set_option maxHeartbeats 4000000 in
set_option maxRecDepth 100000 in
theorem w_X2_subfieldOf_B0 {p : Program} {l : Launch} {e : Env} {s : State} {m : MethodId} {args : Array Value} {below : List Frame} {meth : Method} {c : Code} {Q : State → Prop} {D : va_G} {κ : Nat → ClassId} {b : Nat} {H0 : Heap} {rr : Int32} {σ : Sg} (hZ : sg_Z p c s m args D κ cX2_subfieldOf 1 RX2 wsX2_subfieldOf) (hret : ∀ (v : Int32) (H : Heap) (locs : List Loc) (pc : Nat) (ls : Array Slot), some v = some rr → CW D κ b σ H → va_S (sg_A b 892) H0 H locs → decode cX2_subfieldOf pc = .ok (.ireturn, 1) → W p l e rm_X2_subfieldOf s m args below meth c H locs 0 0 Q (F0 m pc ls [.int v])) : ∀ {x0 : Int32} {H : Heap} {locs : List Loc} {ls : Array Slot}, fn_X2_subfieldOf x0 = some rr → lv_has ls 1 [(0, .int x0)] → CW D κ b σ H → va_S (sg_A b 892) H0 H locs → W p l e rm_X2_subfieldOf s m args below meth c H locs 0 0 Q (F0 m 0 ls []) := by
  obtain ⟨hx, hb, hml, hown, hts, hK⟩ := hZ
  intro x0 H locs ls h hl hC hS
  unfold fn_X2_subfieldOf at h
  refine lv_iload_n hx hb dX2_subfieldOf_0 rfl (lv_at hl 0 rfl) ?_
  refine lv_iconst (v := 4) hx hb dX2_subfieldOf_1 (by decide) ?_
  refine lv_irem hx hb dX2_subfieldOf_2 (by decide) ?_
  exact hret _ _ _ _ _ h hC hS dX2_subfieldOf_3
set_option maxHeartbeats 4000000 in
set_option maxRecDepth 100000 in
theorem c_X2_subfieldOf (l : Launch) (D : va_G) (κ : Nat → ClassId) (b : Nat) (σ : Sg) (x0 : Int32) (rr : Int32)  (h : fn_X2_subfieldOf x0 = some rr) : Met l yX2_subfieldOf wsX2_subfieldOf rm_X2_subfieldOf (va_Pc [.int x0] (fun U => KK D κ U ∧ CW D κ b σ U.heap)) (va_Qi (fun (r : Int32) (u : Sg) => r = rr ∧ u = σ) (fun u t => CW D κ b u t.heap) (sg_A b 892)) 0 0 (sg_A b 892) := by
  refine Met.ofW (cc := cX2_subfieldOf) (maxL := 1) (ret := (some .int)) (by decide) rfl ?_
  intro p e s m args below meth c s₁ B hml hv
  obtain ⟨rfl, hK, hC⟩ := hv
  have hr := B.returns
  have hlocks := B.notSynchronized
  have hl := lv_entry ([.int x0]) (n := 1) (Nat.le_of_ble_eq_true rfl)
  rw [lg_entry_eq]
  generalize (lg_sl ([.int x0]) ++ List.replicate (1 - (lg_sl ([.int x0])).length) Slot.unset).toArray = ls at hl ⊢
  have hl : lv_has ls 1 [(0, .int x0)] := hl
  exact w_X2_subfieldOf_B0 ⟨B.exec, B.bytes, hml, findClass_of_methodNamed B.named, atoms_spec (ws := wsX2_subfieldOf) B.pre, hK⟩ (fun v H locs pc ls hq hC hS hd => W.iret B.exec B.bytes hr (fun t ht hW => ⟨⟨v, _, rfl, ⟨Option.some.inj hq, rfl⟩, CW_e ht hC⟩, hS.F ht⟩) hS.2.2 hd) h  hl hC va_S.rf

-- RecordShelf$Headings.keyOf([LRecordShelf$Card;I)LRecordShelf$Key;
theorem dX2_keyOf_0 : decode cX2_keyOf 0 = .ok (.aload_n 0, 1) := by decide +kernel
theorem dX2_keyOf_1 : decode cX2_keyOf 1 = .ok (.iload_n 1, 1) := by decide +kernel
theorem dX2_keyOf_2 : decode cX2_keyOf 2 = .ok (.invokestatic 62, 3) := by decide +kernel
theorem dX2_keyOf_5 : decode cX2_keyOf 5 = .ok (.aaload, 1) := by decide +kernel
theorem dX2_keyOf_6 : decode cX2_keyOf 6 = .ok (.getfield 19, 3) := by decide +kernel
theorem dX2_keyOf_9 : decode cX2_keyOf 9 = .ok (.iload_n 1, 1) := by decide +kernel
theorem dX2_keyOf_10 : decode cX2_keyOf 10 = .ok (.invokestatic 66, 3) := by decide +kernel
theorem dX2_keyOf_13 : decode cX2_keyOf 13 = .ok (.aaload, 1) := by decide +kernel
theorem dX2_keyOf_14 : decode cX2_keyOf 14 = .ok (.getfield 28, 3) := by decide +kernel
theorem dX2_keyOf_17 : decode cX2_keyOf 17 = .ok (.iload_n 1, 1) := by decide +kernel
theorem dX2_keyOf_18 : decode cX2_keyOf 18 = .ok (.invokestatic 69, 3) := by decide +kernel
theorem dX2_keyOf_21 : decode cX2_keyOf 21 = .ok (.aaload, 1) := by decide +kernel
theorem dX2_keyOf_22 : decode cX2_keyOf 22 = .ok (.getfield 72, 3) := by decide +kernel
theorem dX2_keyOf_25 : decode cX2_keyOf 25 = .ok (.areturn, 1) := by decide +kernel
def rm_X2_keyOf : Room := { frames := 1, cells := 0, slots := 0, locals := 20 }
def fn_X2_keyOf (b : Nat) (σ : Sg) (x1 : Int32) : Option (Nat) :=
  ((fn_X2_recordOf x1).bind fun r1 =>
  (if sg_ib r1 6 then
  ((fn_X2_fieldOf x1).bind fun r3 =>
  (if sg_ib r3 8 then
  ((fn_X2_subfieldOf x1).bind fun r5 =>
  (if sg_ib r5 4 then
  some (((σ.2 ((b + 10 + 147 * sg_x r1) + 2) (sg_x r3)) + 2 + 4 * sg_x r5) + 2)
  else none))
  else none))
  else none))
set_option maxHeartbeats 4000000 in
set_option maxRecDepth 100000 in
theorem w_X2_keyOf_B0 {p : Program} {l : Launch} {e : Env} {s : State} {m : MethodId} {args : Array Value} {below : List Frame} {meth : Method} {c : Code} {Q : State → Prop} {D : va_G} {κ : Nat → ClassId} {b : Nat} {H0 : Heap} {rr : Nat} {σ : Sg} (hZ : sg_Z p c s m args D κ cX2_keyOf 2 RX2 wsX2_keyOf) (hret : ∀ (v : Nat) (H : Heap) (locs : List Loc) (pc : Nat) (ls : Array Slot), some v = some rr → is_Key b v → CW D κ b σ H → va_S (sg_A b 892) H0 H locs → decode cX2_keyOf pc = .ok (.areturn, 1) → W p l e rm_X2_keyOf s m args below meth c H locs 0 0 Q (F0 m pc ls [.ref v])) : ∀ {x1 : Int32} {H : Heap} {locs : List Loc} {ls : Array Slot}, fn_X2_keyOf b σ x1 = some rr → lv_has ls 2 [(0, .ref (b + 5)), (1, .int x1)] → CW D κ b σ H → va_S (sg_A b 892) H0 H locs → W p l e rm_X2_keyOf s m args below meth c H locs 0 0 Q (F0 m 0 ls []) := by
  obtain ⟨hx, hb, hml, hown, hts, hK⟩ := hZ
  intro x1 H locs ls h hl hC hS
  unfold fn_X2_keyOf at h
  refine lv_aload_n hx hb dX2_keyOf_0 rfl (lv_at hl 0 rfl) ?_
  refine lv_iload_n hx hb dX2_keyOf_1 rfl (lv_at hl 1 rfl) ?_
  obtain ⟨r1, er1, h⟩ := Option.bind_eq_some_iff.mp h
  refine va_calli (va_runS (As := [.int x1]) (rest := [.ref (b + 5)]) ⟨hx, hb, hml, hown, hts⟩ (c_X2_recordOf l D κ b σ x1 _ er1) (va_cwS 1 hts (gwS wt_581 wt_582 wt_4 wt_583) rfl rfl rfl (by decide +kernel) ⟨Nat.le_of_ble_eq_true rfl, Nat.le_of_ble_eq_true rfl⟩) (CW_preS hK hC) rfl rfl hl.1 rfl (lv_room (Nat.le_of_ble_eq_true rfl)) dX2_keyOf_2 ⟨Nat.zero_le _, Nat.zero_le _⟩) hS (fun _ _ h => h) (fun _ h => h) (fun r u t H locs ht _ hp hB _ _ hS => ?_)
  refine sg_topi hp.1 ?_
  have hC : CW D κ b σ H := CW_b hB ht hp.2
  obtain ⟨hg, h⟩ := sg_gd h
  refine va_aldq (C := "RecordShelf$Card") hx hb hK.1 hC.1 ((b + 5) - b) 2 sg_gcards rfl (sg_in hg) dX2_keyOf_5 ?_
  have hv2 := sg_vCard (b := b) hg
  refine W.eq (g2 := F0 m 6 ls [.ref (b + 10 + 147 * sg_x r1)]) rfl ?_
  refine va_getN (D := D) (ci := 0) (v := .ref ((b + 10 + 147 * sg_x r1) + 2)) (C := RX0) (T := TX0) (N := 3) hx hb hts (wqs inW_X0) hown hK.1 hC.1 ((b + 10 + 147 * sg_x r1) - b) (sg_gCard hv2) rfl 1 (by decide) (nf_26 hK) (fun _ h9 => h9) rfl dX2_keyOf_6 ?_
  refine lv_iload_n hx hb dX2_keyOf_9 rfl (lv_at hl 1 rfl) ?_
  obtain ⟨r3, er3, h⟩ := Option.bind_eq_some_iff.mp h
  refine va_calli (va_runS (As := [.int x1]) (rest := [.ref ((b + 10 + 147 * sg_x r1) + 2)]) ⟨hx, hb, hml, hown, hts⟩ (c_X2_fieldOf l D κ b σ x1 _ er3) (va_cwS 1 hts (gwS wt_584 wt_585 wt_4 wt_586) rfl rfl rfl (by decide +kernel) ⟨Nat.le_of_ble_eq_true rfl, Nat.le_of_ble_eq_true rfl⟩) (CW_preS hK hC) rfl rfl hl.1 rfl (lv_room (Nat.le_of_ble_eq_true rfl)) dX2_keyOf_10 ⟨Nat.zero_le _, Nat.zero_le _⟩) hS (fun _ _ h => h) (fun _ h => h) (fun r u t H locs ht _ hp hB _ _ hS => ?_)
  refine sg_topi hp.1 ?_
  have hC : CW D κ b σ H := CW_b hB ht hp.2
  obtain ⟨hg, h⟩ := sg_gd h
  refine va_aldq (C := "RecordShelf$Field") hx hb hK.1 hC.1 (((b + 10 + 147 * sg_x r1) + 2) - b) 3 (sg_gfields hv2) rfl (sg_in hg) dX2_keyOf_13 ?_
  have hv4 := hC.2 _ hv2 _ hg.2
  refine W.eq (g2 := F0 m 14 ls [.ref (σ.2 ((b + 10 + 147 * sg_x r1) + 2) (sg_x r3))]) rfl ?_
  refine va_getN (D := D) (ci := 1) (v := .ref ((σ.2 ((b + 10 + 147 * sg_x r1) + 2) (sg_x r3)) + 1)) (C := RX1) (T := TX1) (N := 5) hx hb hts (wqs inW_X1) hown hK.1 hC.1 ((σ.2 ((b + 10 + 147 * sg_x r1) + 2) (sg_x r3)) - b) (sg_gField hv4) rfl 0 (by decide) (nf_13 hK) (fun _ h9 => h9) rfl dX2_keyOf_14 ?_
  refine lv_iload_n hx hb dX2_keyOf_17 rfl (lv_at hl 1 rfl) ?_
  obtain ⟨r5, er5, h⟩ := Option.bind_eq_some_iff.mp h
  refine va_calli (va_runS (As := [.int x1]) (rest := [.ref ((σ.2 ((b + 10 + 147 * sg_x r1) + 2) (sg_x r3)) + 1)]) ⟨hx, hb, hml, hown, hts⟩ (c_X2_subfieldOf l D κ b σ x1 _ er5) (va_cwS 1 hts (gwS wt_587 wt_588 wt_4 wt_589) rfl rfl rfl (by decide +kernel) ⟨Nat.le_of_ble_eq_true rfl, Nat.le_of_ble_eq_true rfl⟩) (CW_preS hK hC) rfl rfl hl.1 rfl (lv_room (Nat.le_of_ble_eq_true rfl)) dX2_keyOf_18 ⟨Nat.zero_le _, Nat.zero_le _⟩) hS (fun _ _ h => h) (fun _ h => h) (fun r u t H locs ht _ hp hB _ _ hS => ?_)
  refine sg_topi hp.1 ?_
  have hC : CW D κ b σ H := CW_b hB ht hp.2
  obtain ⟨hg, h⟩ := sg_gd h
  refine va_aldq (C := "RecordShelf$Subfield") hx hb hK.1 hC.1 (((σ.2 ((b + 10 + 147 * sg_x r1) + 2) (sg_x r3)) + 1) - b) 4 (sg_gsubs hv4) rfl (sg_in hg) dX2_keyOf_21 ?_
  have hv6 := sg_vSub hv4 hg
  refine W.eq (g2 := F0 m 22 ls [.ref ((σ.2 ((b + 10 + 147 * sg_x r1) + 2) (sg_x r3)) + 2 + 4 * sg_x r5)]) rfl ?_
  refine va_getN (D := D) (ci := 5) (v := .ref (((σ.2 ((b + 10 + 147 * sg_x r1) + 2) (sg_x r3)) + 2 + 4 * sg_x r5) + 2)) (C := RX5) (T := TX5) (N := 4) hx hb hts (wqs inW_X5) hown hK.1 hC.1 (((σ.2 ((b + 10 + 147 * sg_x r1) + 2) (sg_x r3)) + 2 + 4 * sg_x r5) - b) (sg_gSub hv6) rfl 1 (by decide) (nf_7 hK) (fun _ h9 => h9) rfl dX2_keyOf_22 ?_
  exact hret _ _ _ _ _ h (sg_kO hv6) hC hS dX2_keyOf_25
set_option maxHeartbeats 4000000 in
set_option maxRecDepth 100000 in
theorem c_X2_keyOf (l : Launch) (D : va_G) (κ : Nat → ClassId) (b : Nat) (σ : Sg) (x1 : Int32) (rr : Nat)  (h : fn_X2_keyOf b σ x1 = some rr) : Met l yX2_keyOf wsX2_keyOf rm_X2_keyOf (va_Pc [.ref (b + 5), .int x1] (fun U => KK D κ U ∧ CW D κ b σ U.heap)) (va_Qr (fun _ : Sg => True) (fun u ra t => ra = rr ∧ u = σ ∧ is_Key b rr ∧ CW D κ b u t.heap) (sg_A b 892)) 0 0 (sg_A b 892) := by
  refine Met.ofW (cc := cX2_keyOf) (maxL := 2) (ret := (some (.object "RecordShelf$Key"))) (by decide) rfl ?_
  intro p e s m args below meth c s₁ B hml hv
  obtain ⟨rfl, hK, hC⟩ := hv
  have hr := B.returns
  have hlocks := B.notSynchronized
  have hl := lv_entry ([.ref (b + 5), .int x1]) (n := 2) (Nat.le_of_ble_eq_true rfl)
  rw [lg_entry_eq]
  generalize (lg_sl ([.ref (b + 5), .int x1]) ++ List.replicate (2 - (lg_sl ([.ref (b + 5), .int x1])).length) Slot.unset).toArray = ls at hl ⊢
  have hl : lv_has ls 2 [(0, .ref (b + 5)), (1, .int x1)] := hl
  exact w_X2_keyOf_B0 ⟨B.exec, B.bytes, hml, findClass_of_methodNamed B.named, atoms_spec (ws := wsX2_keyOf) B.pre, hK⟩ (fun v H locs pc ls hq hvv hC hS hd => W.aret B.exec B.bytes hr (Or.inl ⟨_, rfl⟩) (Or.inr ⟨_, rfl⟩) (fun t ht hW => ⟨⟨_, v, rfl, trivial, Option.some.inj hq, rfl, Option.some.inj hq ▸ hvv, CW_e ht hC⟩, hS.F ht⟩) hS.2.2 hd) h  hl hC va_S.rf

-- RecordShelf$Headings.rank([LRecordShelf$Card;LRecordShelf$Key;)I
theorem dX2_rank_0 : decode cX2_rank 0 = .ok (.iconst 0, 1) := by decide +kernel
theorem dX2_rank_1 : decode cX2_rank 1 = .ok (.istore_n 3, 1) := by decide +kernel
theorem dX2_rank_2 : decode cX2_rank 2 = .ok (.sipush 128, 3) := by decide +kernel
theorem dX2_rank_5 : decode cX2_rank 5 = .ok (.istore 4, 2) := by decide +kernel
theorem dX2_rank_7 : decode cX2_rank 7 = .ok (.iload 4, 2) := by decide +kernel
theorem dX2_rank_9 : decode cX2_rank 9 = .ok (.ifCond .le 50, 3) := by decide +kernel
theorem dX2_rank_12 : decode cX2_rank 12 = .ok (.iload_n 3, 1) := by decide +kernel
theorem dX2_rank_13 : decode cX2_rank 13 = .ok (.iload 4, 2) := by decide +kernel
theorem dX2_rank_15 : decode cX2_rank 15 = .ok (.iadd, 1) := by decide +kernel
theorem dX2_rank_16 : decode cX2_rank 16 = .ok (.istore 5, 2) := by decide +kernel
theorem dX2_rank_18 : decode cX2_rank 18 = .ok (.iload 5, 2) := by decide +kernel
theorem dX2_rank_20 : decode cX2_rank 20 = .ok (.aload_n 0, 1) := by decide +kernel
theorem dX2_rank_21 : decode cX2_rank 21 = .ok (.getfield 15, 3) := by decide +kernel
theorem dX2_rank_24 : decode cX2_rank 24 = .ok (.if_icmp .gt 26, 3) := by decide +kernel
theorem dX2_rank_27 : decode cX2_rank 27 = .ok (.aload_n 1, 1) := by decide +kernel
theorem dX2_rank_28 : decode cX2_rank 28 = .ok (.aload_n 0, 1) := by decide +kernel
theorem dX2_rank_29 : decode cX2_rank 29 = .ok (.getfield 9, 3) := by decide +kernel
theorem dX2_rank_32 : decode cX2_rank 32 = .ok (.iload 5, 2) := by decide +kernel
theorem dX2_rank_34 : decode cX2_rank 34 = .ok (.iconst 1, 1) := by decide +kernel
theorem dX2_rank_35 : decode cX2_rank 35 = .ok (.isub, 1) := by decide +kernel
theorem dX2_rank_36 : decode cX2_rank 36 = .ok (.iaload, 1) := by decide +kernel
theorem dX2_rank_37 : decode cX2_rank 37 = .ok (.invokestatic 42, 3) := by decide +kernel
theorem dX2_rank_40 : decode cX2_rank 40 = .ok (.aload_n 2, 1) := by decide +kernel
theorem dX2_rank_41 : decode cX2_rank 41 = .ok (.invokevirtual 56, 3) := by decide +kernel
theorem dX2_rank_44 : decode cX2_rank 44 = .ok (.ifCond .gt 6, 3) := by decide +kernel
theorem dX2_rank_47 : decode cX2_rank 47 = .ok (.iload 5, 2) := by decide +kernel
theorem dX2_rank_49 : decode cX2_rank 49 = .ok (.istore_n 3, 1) := by decide +kernel
theorem dX2_rank_50 : decode cX2_rank 50 = .ok (.iload 4, 2) := by decide +kernel
theorem dX2_rank_52 : decode cX2_rank 52 = .ok (.iconst 2, 1) := by decide +kernel
theorem dX2_rank_53 : decode cX2_rank 53 = .ok (.idiv, 1) := by decide +kernel
theorem dX2_rank_54 : decode cX2_rank 54 = .ok (.istore 4, 2) := by decide +kernel
theorem dX2_rank_56 : decode cX2_rank 56 = .ok (.goto (-49), 3) := by decide +kernel
theorem dX2_rank_59 : decode cX2_rank 59 = .ok (.iload_n 3, 1) := by decide +kernel
theorem dX2_rank_60 : decode cX2_rank 60 = .ok (.ireturn, 1) := by decide +kernel
def rm_X2_rank : Room := { frames := 2, cells := 0, slots := 0, locals := 44 }
def fn_X2_rank_B50 (b : Nat) (σ : Sg) (z7 : Nat → Int32 → Int32 → Option (Int32)) (x2 : Nat) (x3 : Int32) (x4 : Int32) : Option (Int32) :=
  (sg_lt ((x4 / 2) : Int32) fun v1 =>
  z7 x2 x3 v1)
set_option maxHeartbeats 4000000 in
set_option maxRecDepth 100000 in
theorem w_X2_rank_B50 {p : Program} {l : Launch} {e : Env} {s : State} {m : MethodId} {args : Array Value} {below : List Frame} {meth : Method} {c : Code} {Q : State → Prop} {D : va_G} {κ : Nat → ClassId} {b : Nat} {H0 : Heap} {rr : Int32} {σ : Sg} (hZ : sg_Z p c s m args D κ cX2_rank 6 RX2 wsX2_rank) (hret : ∀ (v : Int32) (H : Heap) (locs : List Loc) (pc : Nat) (ls : Array Slot), some v = some rr → CW D κ b σ H → va_S (sg_A b 892) H0 H locs → decode cX2_rank pc = .ok (.ireturn, 1) → W p l e rm_X2_rank s m args below meth c H locs 0 0 Q (F0 m pc ls [.int v])) {z7 : Nat → Int32 → Int32 → Option (Int32)} (hr7 : ∀ {x2 : Nat} {x3 : Int32} {x4 : Int32} {H : Heap} {locs : List Loc} {ls : Array Slot}, z7 x2 x3 x4 = some rr → is_Key b x2 → lv_has ls 6 [(0, .ref (b + 6)), (1, .ref (b + 5)), (2, .ref x2), (3, .int x3), (4, .int x4)] → CW D κ b σ H → va_S (sg_A b 892) H0 H locs → W p l e rm_X2_rank s m args below meth c H locs 0 0 Q (F0 m 7 ls [])) : ∀ {x2 : Nat} {x3 : Int32} {x4 : Int32} {H : Heap} {locs : List Loc} {ls : Array Slot}, fn_X2_rank_B50 b σ z7 x2 x3 x4 = some rr → is_Key b x2 → lv_has ls 6 [(0, .ref (b + 6)), (1, .ref (b + 5)), (2, .ref x2), (3, .int x3), (4, .int x4)] → CW D κ b σ H → va_S (sg_A b 892) H0 H locs → W p l e rm_X2_rank s m args below meth c H locs 0 0 Q (F0 m 50 ls []) := by
  obtain ⟨hx, hb, hml, hown, hts, hK⟩ := hZ
  intro x2 x3 x4 H locs ls h hx2 hl hC hS
  unfold fn_X2_rank_B50 at h
  refine lv_iload hx hb dX2_rank_50 (lv_at hl 4 rfl) ?_
  refine lv_iconst (v := 2) hx hb dX2_rank_52 (by decide) ?_
  refine lv_idiv hx hb dX2_rank_53 (by decide) ?_
  obtain ⟨v1, ev1, h⟩ := sg_lte h
  refine sg_topi ev1 ?_
  refine lv_istore (lv' := [(4, .int v1), (0, .ref (b + 6)), (1, .ref (b + 5)), (2, .ref x2), (3, .int x3)]) hx hb dX2_rank_54 hl (by decide) rfl (fun ls hl => ?_)
  refine lv_goto (tgt := 7) hx hb dX2_rank_56 (by decide) ?_
  exact hr7 h hx2 (lv_sub hl [1, 2, 3, 4, 0] rfl) hC hS
def fn_X2_rank_B7b (b : Nat) (σ : Sg) (z7 : Nat → Int32 → Int32 → Option (Int32)) (x2 : Nat) (x3 : Int32) (x4 : Int32) : Option (Int32) :=
  (if x4 ≤ 0 then
  some x3
  else (sg_lt ((x3 + x4) : Int32) fun v1 =>
  (if ((σ.1 (b + 6) 1) : Int32) < v1 then
  fn_X2_rank_B50 b σ z7 x2 x3 x4
  else (if sg_ib (v1 - 1) 192 then
  ((fn_X2_keyOf b σ (σ.1 (b + 7) (sg_x (v1 - 1)))).bind fun r2 =>
  ((fn_X3_against b σ r2 x2).bind fun r4 =>
  (if (0 : Int32) < r4 then
  fn_X2_rank_B50 b σ z7 x2 x3 x4
  else fn_X2_rank_B50 b σ z7 x2 v1 x4)))
  else none))))
def fn_X2_rank_B7 (b : Nat) (σ : Sg) : Nat → Nat → Int32 → Int32 → Option (Int32)
  | 0 => fun _ _ _ => none
  | n + 1 => fun x2 x3 x4 => fn_X2_rank_B7b b σ (fn_X2_rank_B7 b σ n) x2 x3 x4
set_option maxHeartbeats 4000000 in
set_option maxRecDepth 100000 in
theorem w_X2_rank_B7b {p : Program} {l : Launch} {e : Env} {s : State} {m : MethodId} {args : Array Value} {below : List Frame} {meth : Method} {c : Code} {Q : State → Prop} {D : va_G} {κ : Nat → ClassId} {b : Nat} {H0 : Heap} {rr : Int32} {σ : Sg} (hZ : sg_Z p c s m args D κ cX2_rank 6 RX2 wsX2_rank) (hret : ∀ (v : Int32) (H : Heap) (locs : List Loc) (pc : Nat) (ls : Array Slot), some v = some rr → CW D κ b σ H → va_S (sg_A b 892) H0 H locs → decode cX2_rank pc = .ok (.ireturn, 1) → W p l e rm_X2_rank s m args below meth c H locs 0 0 Q (F0 m pc ls [.int v])) {z7 : Nat → Int32 → Int32 → Option (Int32)} (hr7 : ∀ {x2 : Nat} {x3 : Int32} {x4 : Int32} {H : Heap} {locs : List Loc} {ls : Array Slot}, z7 x2 x3 x4 = some rr → is_Key b x2 → lv_has ls 6 [(0, .ref (b + 6)), (1, .ref (b + 5)), (2, .ref x2), (3, .int x3), (4, .int x4)] → CW D κ b σ H → va_S (sg_A b 892) H0 H locs → W p l e rm_X2_rank s m args below meth c H locs 0 0 Q (F0 m 7 ls [])) : ∀ {x2 : Nat} {x3 : Int32} {x4 : Int32} {H : Heap} {locs : List Loc} {ls : Array Slot}, fn_X2_rank_B7b b σ z7 x2 x3 x4 = some rr → is_Key b x2 → lv_has ls 6 [(0, .ref (b + 6)), (1, .ref (b + 5)), (2, .ref x2), (3, .int x3), (4, .int x4)] → CW D κ b σ H → va_S (sg_A b 892) H0 H locs → W p l e rm_X2_rank s m args below meth c H locs 0 0 Q (F0 m 7 ls []) := by
  obtain ⟨hx, hb, hml, hown, hts, hK⟩ := hZ
  intro x2 x3 x4 H locs ls h hx2 hl hC hS
  unfold fn_X2_rank_B7b at h
  refine lv_iload hx hb dX2_rank_7 (lv_at hl 4 rfl) ?_
  refine lv_if_le (tgt := 59) hx hb dX2_rank_9 (by decide) (fun hc => ?_) (fun hc => ?_)
  · replace h := (if_pos hc).symm.trans h
    refine lv_iload_n hx hb dX2_rank_59 rfl (lv_at hl 3 rfl) ?_
    exact hret _ _ _ _ _ h hC hS dX2_rank_60
  · replace h := (if_neg hc).symm.trans h
    refine lv_iload_n hx hb dX2_rank_12 rfl (lv_at hl 3 rfl) ?_
    refine lv_iload hx hb dX2_rank_13 (lv_at hl 4 rfl) ?_
    refine lv_iadd hx hb dX2_rank_15 ?_
    obtain ⟨v1, ev1, h⟩ := sg_lte h
    refine sg_topi ev1 ?_
    refine lv_istore (lv' := [(5, .int v1), (0, .ref (b + 6)), (1, .ref (b + 5)), (2, .ref x2), (3, .int x3), (4, .int x4)]) hx hb dX2_rank_16 hl (by decide) rfl (fun ls hl => ?_)
    refine lv_iload hx hb dX2_rank_18 (lv_at hl 0 rfl) ?_
    refine lv_aload_n hx hb dX2_rank_20 rfl (lv_at hl 1 rfl) ?_
    refine va_get (D := D) (ci := 2) (v := .int (σ.1 (b + 6) 1)) (C := RX2) (T := TX2) (N := 2) hx hb hts (wqs inW_X2) hown hK.1 hC.1 ((b + 6) - b) sg_gHeadings rfl 1 (by decide) (hts _ (wq wt_85)) (fun _ h9 => h9) rfl dX2_rank_21 ?_
    refine lv_icmp_gt (tgt := 50) hx hb dX2_rank_24 (by decide) (fun hc => ?_) (fun hc => ?_)
    · replace h := (if_pos hc).symm.trans h
      exact w_X2_rank_B50 ⟨hx, hb, hml, hown, hts, hK⟩ hret hr7 h hx2 (lv_sub hl [1, 2, 3, 4, 5] rfl) hC hS
    · replace h := (if_neg hc).symm.trans h
      refine lv_aload_n hx hb dX2_rank_27 rfl (lv_at hl 2 rfl) ?_
      refine lv_aload_n hx hb dX2_rank_28 rfl (lv_at hl 1 rfl) ?_
      refine va_get (D := D) (ci := 2) (v := .ref (b + 7)) (C := RX2) (T := TX2) (N := 2) hx hb hts (wqs inW_X2) hown hK.1 hC.1 ((b + 6) - b) sg_gHeadings rfl 0 (by decide) (hts _ (wq wt_84)) (fun _ h9 => h9) rfl dX2_rank_29 ?_
      refine lv_iload hx hb dX2_rank_32 (lv_at hl 0 rfl) ?_
      refine lv_iconst (v := 1) hx hb dX2_rank_34 (by decide) ?_
      refine lv_isub hx hb dX2_rank_35 ?_
      obtain ⟨hg, h⟩ := sg_gd h
      refine va_iald hx hb hK.1 hC.1 ((b + 7) - b) 0 sg_gplaces rfl (sg_in hg) dX2_rank_36 ?_
      obtain ⟨r2, er2, h⟩ := Option.bind_eq_some_iff.mp h
      refine va_callr (va_runS (As := [.ref (b + 5), .int (σ.1 (b + 7) (sg_x (v1 - 1)))]) (rest := []) ⟨hx, hb, hml, hown, hts⟩ (c_X2_keyOf l D κ b σ (σ.1 (b + 7) (sg_x (v1 - 1))) _ er2) (va_cwS 2 hts (gwS wt_578 wt_579 wt_4 wt_580) rfl rfl rfl (by decide +kernel) ⟨Nat.le_of_ble_eq_true rfl, Nat.le_of_ble_eq_true rfl⟩) (CW_preS hK hC) rfl rfl hl.1 rfl (lv_room (Nat.le_of_ble_eq_true rfl)) dX2_rank_37 ⟨Nat.zero_le _, Nat.zero_le _⟩) hS (fun _ _ h => h) (fun _ h => h) (fun u ra t H locs ht _ _ hB _ _ hS => ?_)
      obtain ⟨hp1, hp2, hv3, hB⟩ := hB
      refine sg_topr hp1 ?_
      have hC : CW D κ b σ H := CW_b hB ht hp2
      refine lv_aload_n hx hb dX2_rank_40 rfl (lv_at hl 3 rfl) ?_
      obtain ⟨r4, er4, h⟩ := Option.bind_eq_some_iff.mp h
      refine va_calli (va_runV (As := [.ref x2]) (rest := []) ⟨hx, hb, hml, hown, hts⟩ (c_X3_against l D κ b σ r2 x2 _ hv3 hx2 er4) (cwV 1 hts (gwV wt_594 wt_595 wt_596 wt_5 wt_597) rfl rfl rfl (by decide +kernel) ⟨Nat.le_of_ble_eq_true rfl, Nat.le_of_ble_eq_true rfl⟩) (CW_preV hK hC (sg_gKey hv3) rfl) rfl rfl hl.1 rfl (lv_room (Nat.le_of_ble_eq_true rfl)) dX2_rank_41 ⟨Nat.zero_le _, Nat.zero_le _⟩) hS (fun _ _ h => h) (fun _ h => h) (fun r u t H locs ht _ hp hB _ _ hS => ?_)
      refine sg_topi hp.1 ?_
      have hC : CW D κ b σ H := CW_b hB ht hp.2
      refine lv_if_gt (tgt := 50) hx hb dX2_rank_44 (by decide) (fun hc => ?_) (fun hc => ?_)
      · replace h := (if_pos hc).symm.trans h
        exact w_X2_rank_B50 ⟨hx, hb, hml, hown, hts, hK⟩ hret hr7 h hx2 (lv_sub hl [1, 2, 3, 4, 5] rfl) hC hS
      · replace h := (if_neg hc).symm.trans h
        refine lv_iload hx hb dX2_rank_47 (lv_at hl 0 rfl) ?_
        refine lv_istore_n (lv' := [(3, .int v1), (5, .int v1), (0, .ref (b + 6)), (1, .ref (b + 5)), (2, .ref x2), (4, .int x4)]) hx hb dX2_rank_49 rfl hl (by decide) rfl (fun ls hl => ?_)
        exact w_X2_rank_B50 ⟨hx, hb, hml, hown, hts, hK⟩ hret hr7 h hx2 (lv_sub hl [2, 3, 4, 0, 5] rfl) hC hS
set_option maxHeartbeats 4000000 in
theorem w_X2_rank_B7 {p : Program} {l : Launch} {e : Env} {s : State} {m : MethodId} {args : Array Value} {below : List Frame} {meth : Method} {c : Code} {Q : State → Prop} {D : va_G} {κ : Nat → ClassId} {b : Nat} {H0 : Heap} {rr : Int32} {σ : Sg} (hZ : sg_Z p c s m args D κ cX2_rank 6 RX2 wsX2_rank) (hret : ∀ (v : Int32) (H : Heap) (locs : List Loc) (pc : Nat) (ls : Array Slot), some v = some rr → CW D κ b σ H → va_S (sg_A b 892) H0 H locs → decode cX2_rank pc = .ok (.ireturn, 1) → W p l e rm_X2_rank s m args below meth c H locs 0 0 Q (F0 m pc ls [.int v])) : ∀ n : Nat, ∀ {x2 : Nat} {x3 : Int32} {x4 : Int32} {H : Heap} {locs : List Loc} {ls : Array Slot}, fn_X2_rank_B7 b σ n x2 x3 x4 = some rr → is_Key b x2 → lv_has ls 6 [(0, .ref (b + 6)), (1, .ref (b + 5)), (2, .ref x2), (3, .int x3), (4, .int x4)] → CW D κ b σ H → va_S (sg_A b 892) H0 H locs → W p l e rm_X2_rank s m args below meth c H locs 0 0 Q (F0 m 7 ls []) := by
  intro n
  induction n with
  | zero => intro x2 x3 x4 H locs ls h hx2 hl hC hS; cases (show (none : Option (Int32)) = some rr from h)
  | succ n ih =>
    intro x2 x3 x4 H locs ls h hx2 hl hC hS
    exact w_X2_rank_B7b hZ hret ih (show fn_X2_rank_B7b b σ (fn_X2_rank_B7 b σ n) x2 x3 x4 = some rr from h) hx2 hl hC hS
def fn_X2_rank (b : Nat) (σ : Sg) (x2 : Nat) : Option (Int32) :=
  fn_X2_rank_B7 b σ sg_N x2 0 128
set_option maxHeartbeats 4000000 in
set_option maxRecDepth 100000 in
theorem w_X2_rank_B0 {p : Program} {l : Launch} {e : Env} {s : State} {m : MethodId} {args : Array Value} {below : List Frame} {meth : Method} {c : Code} {Q : State → Prop} {D : va_G} {κ : Nat → ClassId} {b : Nat} {H0 : Heap} {rr : Int32} {σ : Sg} (hZ : sg_Z p c s m args D κ cX2_rank 6 RX2 wsX2_rank) (hret : ∀ (v : Int32) (H : Heap) (locs : List Loc) (pc : Nat) (ls : Array Slot), some v = some rr → CW D κ b σ H → va_S (sg_A b 892) H0 H locs → decode cX2_rank pc = .ok (.ireturn, 1) → W p l e rm_X2_rank s m args below meth c H locs 0 0 Q (F0 m pc ls [.int v])) : ∀ {x2 : Nat} {H : Heap} {locs : List Loc} {ls : Array Slot}, fn_X2_rank b σ x2 = some rr → is_Key b x2 → lv_has ls 6 [(0, .ref (b + 6)), (1, .ref (b + 5)), (2, .ref x2)] → CW D κ b σ H → va_S (sg_A b 892) H0 H locs → W p l e rm_X2_rank s m args below meth c H locs 0 0 Q (F0 m 0 ls []) := by
  obtain ⟨hx, hb, hml, hown, hts, hK⟩ := hZ
  intro x2 H locs ls h hx2 hl hC hS
  unfold fn_X2_rank at h
  refine lv_iconst (v := 0) hx hb dX2_rank_0 (by decide) ?_
  refine lv_istore_n (lv' := [(3, .int 0), (0, .ref (b + 6)), (1, .ref (b + 5)), (2, .ref x2)]) hx hb dX2_rank_1 rfl hl (by decide) rfl (fun ls hl => ?_)
  refine lv_sipush (v := 128) hx hb dX2_rank_2 (by decide) ?_
  refine lv_istore (lv' := [(4, .int 128), (3, .int 0), (0, .ref (b + 6)), (1, .ref (b + 5)), (2, .ref x2)]) hx hb dX2_rank_5 hl (by decide) rfl (fun ls hl => ?_)
  exact w_X2_rank_B7 ⟨hx, hb, hml, hown, hts, hK⟩ hret  sg_N h hx2 (lv_sub hl [2, 3, 4, 1, 0] rfl) hC hS
set_option maxHeartbeats 4000000 in
set_option maxRecDepth 100000 in
theorem c_X2_rank (l : Launch) (D : va_G) (κ : Nat → ClassId) (b : Nat) (σ : Sg) (x2 : Nat) (rr : Int32) (hx2 : is_Key b x2) (h : fn_X2_rank b σ x2 = some rr) : Met l yX2_rank wsX2_rank rm_X2_rank (va_Pc [.ref (b + 6), .ref (b + 5), .ref x2] (fun U => KK D κ U ∧ CW D κ b σ U.heap)) (va_Qi (fun (r : Int32) (u : Sg) => r = rr ∧ u = σ) (fun u t => CW D κ b u t.heap) (sg_A b 892)) 0 0 (sg_A b 892) := by
  refine Met.ofW (cc := cX2_rank) (maxL := 6) (ret := (some .int)) (by decide) rfl ?_
  intro p e s m args below meth c s₁ B hml hv
  obtain ⟨rfl, hK, hC⟩ := hv
  have hr := B.returns
  have hlocks := B.notSynchronized
  have hl := lv_entry ([.ref (b + 6), .ref (b + 5), .ref x2]) (n := 6) (Nat.le_of_ble_eq_true rfl)
  rw [lg_entry_eq]
  generalize (lg_sl ([.ref (b + 6), .ref (b + 5), .ref x2]) ++ List.replicate (6 - (lg_sl ([.ref (b + 6), .ref (b + 5), .ref x2])).length) Slot.unset).toArray = ls at hl ⊢
  have hl : lv_has ls 6 [(0, .ref (b + 6)), (1, .ref (b + 5)), (2, .ref x2)] := hl
  exact w_X2_rank_B0 ⟨B.exec, B.bytes, hml, findClass_of_methodNamed B.named, atoms_spec (ws := wsX2_rank) B.pre, hK⟩ (fun v H locs pc ls hq hC hS hd => W.iret B.exec B.bytes hr (fun t ht hW => ⟨⟨v, _, rfl, ⟨Option.some.inj hq, rfl⟩, CW_e ht hC⟩, hS.F ht⟩) hS.2.2 hd) h hx2 hl hC va_S.rf

-- RecordShelf$Headings.add([LRecordShelf$Card;I)V
theorem dX2_add_0 : decode cX2_add 0 = .ok (.aload_n 0, 1) := by decide +kernel
theorem dX2_add_1 : decode cX2_add 1 = .ok (.getfield 15, 3) := by decide +kernel
theorem dX2_add_4 : decode cX2_add 4 = .ok (.aload_n 0, 1) := by decide +kernel
theorem dX2_add_5 : decode cX2_add 5 = .ok (.getfield 9, 3) := by decide +kernel
theorem dX2_add_8 : decode cX2_add 8 = .ok (.arraylength, 1) := by decide +kernel
theorem dX2_add_9 : decode cX2_add 9 = .ok (.if_icmp .ge 52, 3) := by decide +kernel
theorem dX2_add_12 : decode cX2_add 12 = .ok (.aload_n 0, 1) := by decide +kernel
theorem dX2_add_13 : decode cX2_add 13 = .ok (.aload_n 1, 1) := by decide +kernel
theorem dX2_add_14 : decode cX2_add 14 = .ok (.aload_n 1, 1) := by decide +kernel
theorem dX2_add_15 : decode cX2_add 15 = .ok (.iload_n 2, 1) := by decide +kernel
theorem dX2_add_16 : decode cX2_add 16 = .ok (.invokestatic 42, 3) := by decide +kernel
theorem dX2_add_19 : decode cX2_add 19 = .ok (.invokevirtual 46, 3) := by decide +kernel
theorem dX2_add_22 : decode cX2_add 22 = .ok (.istore_n 3, 1) := by decide +kernel
theorem dX2_add_23 : decode cX2_add 23 = .ok (.aload_n 0, 1) := by decide +kernel
theorem dX2_add_24 : decode cX2_add 24 = .ok (.getfield 9, 3) := by decide +kernel
theorem dX2_add_27 : decode cX2_add 27 = .ok (.iload_n 3, 1) := by decide +kernel
theorem dX2_add_28 : decode cX2_add 28 = .ok (.aload_n 0, 1) := by decide +kernel
theorem dX2_add_29 : decode cX2_add 29 = .ok (.getfield 9, 3) := by decide +kernel
theorem dX2_add_32 : decode cX2_add 32 = .ok (.iload_n 3, 1) := by decide +kernel
theorem dX2_add_33 : decode cX2_add 33 = .ok (.iconst 1, 1) := by decide +kernel
theorem dX2_add_34 : decode cX2_add 34 = .ok (.iadd, 1) := by decide +kernel
theorem dX2_add_35 : decode cX2_add 35 = .ok (.aload_n 0, 1) := by decide +kernel
theorem dX2_add_36 : decode cX2_add 36 = .ok (.getfield 15, 3) := by decide +kernel
theorem dX2_add_39 : decode cX2_add 39 = .ok (.iload_n 3, 1) := by decide +kernel
theorem dX2_add_40 : decode cX2_add 40 = .ok (.isub, 1) := by decide +kernel
theorem dX2_add_41 : decode cX2_add 41 = .ok (.invokestatic 50, 3) := by decide +kernel
theorem dX2_add_44 : decode cX2_add 44 = .ok (.aload_n 0, 1) := by decide +kernel
theorem dX2_add_45 : decode cX2_add 45 = .ok (.getfield 9, 3) := by decide +kernel
theorem dX2_add_48 : decode cX2_add 48 = .ok (.iload_n 3, 1) := by decide +kernel
theorem dX2_add_49 : decode cX2_add 49 = .ok (.iload_n 2, 1) := by decide +kernel
theorem dX2_add_50 : decode cX2_add 50 = .ok (.iastore, 1) := by decide +kernel
theorem dX2_add_51 : decode cX2_add 51 = .ok (.aload_n 0, 1) := by decide +kernel
theorem dX2_add_52 : decode cX2_add 52 = .ok (.dup, 1) := by decide +kernel
theorem dX2_add_53 : decode cX2_add 53 = .ok (.getfield 15, 3) := by decide +kernel
theorem dX2_add_56 : decode cX2_add 56 = .ok (.iconst 1, 1) := by decide +kernel
theorem dX2_add_57 : decode cX2_add 57 = .ok (.iadd, 1) := by decide +kernel
theorem dX2_add_58 : decode cX2_add 58 = .ok (.putfield 15, 3) := by decide +kernel
theorem dX2_add_61 : decode cX2_add 61 = .ok (.return_, 1) := by decide +kernel
def rm_X2_add : Room := { frames := 3, cells := 0, slots := 0, locals := 69 }
def fn_X2_add (b : Nat) (σ : Sg) (x2 : Int32) : Option (Sg) :=
  (if (192 : Int32) ≤ (σ.1 (b + 6) 1) then
  some σ
  else ((fn_X2_keyOf b σ x2).bind fun r1 =>
  ((fn_X2_rank b σ r1).bind fun r3 =>
  (if sg_cp r3 (r3 + 1) ((σ.1 (b + 6) 1) - r3) 192 then
  (sg_lt (sg_f σ (b + 7) (va_cpy (σ.1 (b + 7)) (σ.1 (b + 7)) (sg_x r3) (sg_x (r3 + 1)) (sg_x ((σ.1 (b + 6) 1) - r3)))) fun σ4 =>
  (if sg_ib r3 192 then
  (sg_lt (sg_w σ4 (b + 7) (sg_x r3) x2) fun σ5 =>
  (sg_lt (sg_w σ5 (b + 6) 1 ((σ5.1 (b + 6) 1) + 1)) fun σ6 =>
  some σ6))
  else none))
  else none))))
set_option maxHeartbeats 4000000 in
set_option maxRecDepth 100000 in
theorem w_X2_add_B0 {p : Program} {l : Launch} {e : Env} {s : State} {m : MethodId} {args : Array Value} {below : List Frame} {meth : Method} {c : Code} {Q : State → Prop} {D : va_G} {κ : Nat → ClassId} {b : Nat} {H0 : Heap} {rr : Sg} (hZ : sg_Z p c s m args D κ cX2_add 4 RX2 wsX2_add) (hret : ∀ (u : Sg) (H : Heap) (locs : List Loc) (pc : Nat) (ls : Array Slot), some u = some rr → CW D κ b u H → va_S (sg_A b 892) H0 H locs → decode cX2_add pc = .ok (.return_, 1) → W p l e rm_X2_add s m args below meth c H locs 0 0 Q (F0 m pc ls [])) : ∀ {σ : Sg} {x2 : Int32} {H : Heap} {locs : List Loc} {ls : Array Slot}, fn_X2_add b σ x2 = some rr → lv_has ls 4 [(0, .ref (b + 6)), (1, .ref (b + 5)), (2, .int x2)] → CW D κ b σ H → va_S (sg_A b 892) H0 H locs → W p l e rm_X2_add s m args below meth c H locs 0 0 Q (F0 m 0 ls []) := by
  obtain ⟨hx, hb, hml, hown, hts, hK⟩ := hZ
  intro σ x2 H locs ls h hl hC hS
  unfold fn_X2_add at h
  refine lv_aload_n hx hb dX2_add_0 rfl (lv_at hl 0 rfl) ?_
  refine va_get (D := D) (ci := 2) (v := .int (σ.1 (b + 6) 1)) (C := RX2) (T := TX2) (N := 2) hx hb hts (wqs inW_X2) hown hK.1 hC.1 ((b + 6) - b) sg_gHeadings rfl 1 (by decide) (hts _ (wq wt_85)) (fun _ h9 => h9) rfl dX2_add_1 ?_
  refine lv_aload_n hx hb dX2_add_4 rfl (lv_at hl 0 rfl) ?_
  refine va_get (D := D) (ci := 2) (v := .ref (b + 7)) (C := RX2) (T := TX2) (N := 2) hx hb hts (wqs inW_X2) hown hK.1 hC.1 ((b + 6) - b) sg_gHeadings rfl 0 (by decide) (hts _ (wq wt_84)) (fun _ h9 => h9) rfl dX2_add_5 ?_
  refine va_alen (v := 192) hx hb hK.1 hC.1 ((b + 7) - b) 0 sg_gplaces rfl rfl dX2_add_8 ?_
  refine lv_icmp_ge (tgt := 61) hx hb dX2_add_9 (by decide) (fun hc => ?_) (fun hc => ?_)
  · replace h := (if_pos hc).symm.trans h
    exact hret _ _ _ _ _ h hC hS dX2_add_61
  · replace h := (if_neg hc).symm.trans h
    refine lv_aload_n hx hb dX2_add_12 rfl (lv_at hl 0 rfl) ?_
    refine lv_aload_n hx hb dX2_add_13 rfl (lv_at hl 1 rfl) ?_
    refine lv_aload_n hx hb dX2_add_14 rfl (lv_at hl 1 rfl) ?_
    refine lv_iload_n hx hb dX2_add_15 rfl (lv_at hl 2 rfl) ?_
    obtain ⟨r1, er1, h⟩ := Option.bind_eq_some_iff.mp h
    refine va_callr (va_runS (As := [.ref (b + 5), .int x2]) (rest := [.ref (b + 5), .ref (b + 6)]) ⟨hx, hb, hml, hown, hts⟩ (c_X2_keyOf l D κ b σ x2 _ er1) (va_cwS 2 hts (gwS wt_578 wt_579 wt_4 wt_580) rfl rfl rfl (by decide +kernel) ⟨Nat.le_of_ble_eq_true rfl, Nat.le_of_ble_eq_true rfl⟩) (CW_preS hK hC) rfl rfl hl.1 rfl (lv_room (Nat.le_of_ble_eq_true rfl)) dX2_add_16 ⟨Nat.zero_le _, Nat.zero_le _⟩) hS (fun _ _ h => h) (fun _ h => h) (fun u ra t H locs ht _ _ hB _ _ hS => ?_)
    obtain ⟨hp1, hp2, hv2, hB⟩ := hB
    refine sg_topr hp1 ?_
    have hC : CW D κ b σ H := CW_b hB ht hp2
    obtain ⟨r3, er3, h⟩ := Option.bind_eq_some_iff.mp h
    refine va_calli (va_runV (As := [.ref (b + 5), .ref r1]) (rest := []) ⟨hx, hb, hml, hown, hts⟩ (c_X2_rank l D κ b σ r1 _ hv2 er3) (cwV 2 hts (gwV wt_590 wt_592 wp_26 wt_4 wt_593) rfl rfl rfl (by decide +kernel) ⟨Nat.le_of_ble_eq_true rfl, Nat.le_of_ble_eq_true rfl⟩) (CW_preV hK hC sg_gHeadings rfl) rfl rfl hl.1 rfl (lv_room (Nat.le_of_ble_eq_true rfl)) dX2_add_19 ⟨Nat.zero_le _, Nat.zero_le _⟩) hS (fun _ _ h => h) (fun _ h => h) (fun r u t H locs ht _ hp hB _ _ hS => ?_)
    refine sg_topi hp.1 ?_
    have hC : CW D κ b σ H := CW_b hB ht hp.2
    refine lv_istore_n (lv' := [(3, .int r3), (0, .ref (b + 6)), (1, .ref (b + 5)), (2, .int x2)]) hx hb dX2_add_22 rfl hl (by decide) rfl (fun ls hl => ?_)
    refine lv_aload_n hx hb dX2_add_23 rfl (lv_at hl 1 rfl) ?_
    refine va_get (D := D) (ci := 2) (v := .ref (b + 7)) (C := RX2) (T := TX2) (N := 2) hx hb hts (wqs inW_X2) hown hK.1 hC.1 ((b + 6) - b) sg_gHeadings rfl 0 (by decide) (hts _ (wq wt_84)) (fun _ h9 => h9) rfl dX2_add_24 ?_
    refine lv_iload_n hx hb dX2_add_27 rfl (lv_at hl 0 rfl) ?_
    refine lv_aload_n hx hb dX2_add_28 rfl (lv_at hl 1 rfl) ?_
    refine va_get (D := D) (ci := 2) (v := .ref (b + 7)) (C := RX2) (T := TX2) (N := 2) hx hb hts (wqs inW_X2) hown hK.1 hC.1 ((b + 6) - b) sg_gHeadings rfl 0 (by decide) (hts _ (wq wt_84)) (fun _ h9 => h9) rfl dX2_add_29 ?_
    refine lv_iload_n hx hb dX2_add_32 rfl (lv_at hl 0 rfl) ?_
    refine lv_iconst (v := 1) hx hb dX2_add_33 (by decide) ?_
    refine lv_iadd hx hb dX2_add_34 ?_
    refine lv_aload_n hx hb dX2_add_35 rfl (lv_at hl 1 rfl) ?_
    refine va_get (D := D) (ci := 2) (v := .int (σ.1 (b + 6) 1)) (C := RX2) (T := TX2) (N := 2) hx hb hts (wqs inW_X2) hown hK.1 hC.1 ((b + 6) - b) sg_gHeadings rfl 1 (by decide) (hts _ (wq wt_85)) (fun _ h9 => h9) rfl dX2_add_36 ?_
    refine lv_iload_n hx hb dX2_add_39 rfl (lv_at hl 0 rfl) ?_
    refine lv_isub hx hb dX2_add_40 ?_
    obtain ⟨hg, h⟩ := sg_gd h
    refine va_copyi hx hb (hml.trans hl.1.symm) hown (hts _ (wq wt_599)) (hts _ (wq wt_601)) (hts _ (wq wt_600)) (hts _ (wq wt_15)) hK.1 hC.1 sg_D hS ((b + 7) - b) ((b + 7) - b) 0 0 sg_gplaces sg_gplaces rfl rfl rfl hg.1 hg.2.1 hg.2.2.1 hg.2.2.2.1 hg.2.2.2.2 (fun _ _ => rfl) (Nat.le_of_ble_eq_true rfl) (Nat.le_of_ble_eq_true rfl) dX2_add_41 (fun H locs hP _ hS => ?_)
    obtain ⟨σ4, eσ4, h⟩ := sg_lte h
    have hC : CW D κ b σ4 H := eσ4 ▸ CW_putF hC sg_aplaces (sg_yplaces _ _) hP
    refine lv_aload_n hx hb dX2_add_44 rfl (lv_at hl 1 rfl) ?_
    refine va_get (D := D) (ci := 2) (v := .ref (b + 7)) (C := RX2) (T := TX2) (N := 2) hx hb hts (wqs inW_X2) hown hK.1 hC.1 ((b + 6) - b) sg_gHeadings rfl 0 (by decide) (hts _ (wq wt_84)) (fun _ h9 => h9) rfl dX2_add_45 ?_
    refine lv_iload_n hx hb dX2_add_48 rfl (lv_at hl 0 rfl) ?_
    refine lv_iload_n hx hb dX2_add_49 rfl (lv_at hl 3 rfl) ?_
    obtain ⟨hg, h⟩ := sg_gd h
    refine va_iast hx hb hK.1 hC.1 sg_D hS ((b + 7) - b) 0 sg_gplaces rfl (sg_in hg) dX2_add_50 (fun H locs hP _ hS => ?_)
    obtain ⟨σ5, eσ5, h⟩ := sg_lte h
    have hC : CW D κ b σ5 H := eσ5 ▸ CW_put (k := sg_x r3) (v := x2) hC sg_aplaces (sg_yplaces _ _) hP
    refine lv_aload_n hx hb dX2_add_51 rfl (lv_at hl 1 rfl) ?_
    refine lv_dup hx hb dX2_add_52 rfl ?_
    refine va_get (D := D) (ci := 2) (v := .int (σ5.1 (b + 6) 1)) (C := RX2) (T := TX2) (N := 2) hx hb hts (wqs inW_X2) hown hK.1 hC.1 ((b + 6) - b) sg_gHeadings rfl 1 (by decide) (hts _ (wq wt_85)) (fun _ h9 => h9) rfl dX2_add_53 ?_
    refine lv_iconst (v := 1) hx hb dX2_add_56 (by decide) ?_
    refine lv_iadd hx hb dX2_add_57 ?_
    refine va_put (D := D) (ci := 2) (v := .int ((σ5.1 (b + 6) 1) + 1)) (ty := .int) (C := RX2) (T := TX2) (N := 2) hx hb hts (wqs inW_X2) tyX2 tyX2_ok nmX2 hown hK.1 hC.1 sg_D hS ((b + 6) - b) sg_gHeadings rfl 1 (by decide) (hts _ (wq wt_85)) (fun _ h9 => h9) rfl (by decide +kernel) rfl rfl (Nat.le_of_ble_eq_true rfl) dX2_add_58 (fun H locs hP _ hS => ?_)
    obtain ⟨σ6, eσ6, h⟩ := sg_lte h
    have hC : CW D κ b σ6 H := eσ6 ▸ CW_put (k := 1) (v := ((σ5.1 (b + 6) 1) + 1)) hC sg_aHeadings (sg_yHeadings _ _) hP
    exact hret _ _ _ _ _ h hC hS dX2_add_61
set_option maxHeartbeats 4000000 in
set_option maxRecDepth 100000 in
theorem c_X2_add (l : Launch) (D : va_G) (κ : Nat → ClassId) (b : Nat) (σ : Sg) (x2 : Int32) (rr : Sg)  (h : fn_X2_add b σ x2 = some rr) : Met l yX2_add wsX2_add rm_X2_add (va_Pc [.ref (b + 6), .ref (b + 5), .int x2] (fun U => KK D κ U ∧ CW D κ b σ U.heap)) (va_Qv (fun u : Sg => u = rr) (fun u t => CW D κ b u t.heap) (sg_A b 892)) 0 0 (sg_A b 892) := by
  refine Met.ofW (cc := cX2_add) (maxL := 4) (ret := none) (by decide) rfl ?_
  intro p e s m args below meth c s₁ B hml hv
  obtain ⟨rfl, hK, hC⟩ := hv
  have hr := B.returns
  have hlocks := B.notSynchronized
  have hl := lv_entry ([.ref (b + 6), .ref (b + 5), .int x2]) (n := 4) (Nat.le_of_ble_eq_true rfl)
  rw [lg_entry_eq]
  generalize (lg_sl ([.ref (b + 6), .ref (b + 5), .int x2]) ++ List.replicate (4 - (lg_sl ([.ref (b + 6), .ref (b + 5), .int x2])).length) Slot.unset).toArray = ls at hl ⊢
  have hl : lv_has ls 4 [(0, .ref (b + 6)), (1, .ref (b + 5)), (2, .int x2)] := hl
  exact w_X2_add_B0 ⟨B.exec, B.bytes, hml, findClass_of_methodNamed B.named, atoms_spec (ws := wsX2_add) B.pre, hK⟩ (fun u H locs pc ls hq hC hS hd => W.vret B.exec B.bytes hr (fun t ht hW => ⟨⟨_, rfl, Option.some.inj hq, CW_e ht hC⟩, hS.F ht⟩) hS.2.2 hd) h  hl hC va_S.rf

-- RecordShelf$Headings.addAll([LRecordShelf$Card;IIC)V
theorem dX2_addAll_0 : decode cX2_addAll 0 = .ok (.aload_n 1, 1) := by decide +kernel
theorem dX2_addAll_1 : decode cX2_addAll 1 = .ok (.iload_n 2, 1) := by decide +kernel
theorem dX2_addAll_2 : decode cX2_addAll 2 = .ok (.aaload, 1) := by decide +kernel
theorem dX2_addAll_3 : decode cX2_addAll 3 = .ok (.getfield 19, 3) := by decide +kernel
theorem dX2_addAll_6 : decode cX2_addAll 6 = .ok (.iload_n 3, 1) := by decide +kernel
theorem dX2_addAll_7 : decode cX2_addAll 7 = .ok (.aaload, 1) := by decide +kernel
theorem dX2_addAll_8 : decode cX2_addAll 8 = .ok (.astore 5, 2) := by decide +kernel
theorem dX2_addAll_10 : decode cX2_addAll 10 = .ok (.iconst 0, 1) := by decide +kernel
theorem dX2_addAll_11 : decode cX2_addAll 11 = .ok (.istore 6, 2) := by decide +kernel
theorem dX2_addAll_13 : decode cX2_addAll 13 = .ok (.iload 6, 2) := by decide +kernel
theorem dX2_addAll_15 : decode cX2_addAll 15 = .ok (.aload 5, 2) := by decide +kernel
theorem dX2_addAll_17 : decode cX2_addAll 17 = .ok (.getfield 25, 3) := by decide +kernel
theorem dX2_addAll_20 : decode cX2_addAll 20 = .ok (.if_icmp .ge 41, 3) := by decide +kernel
theorem dX2_addAll_23 : decode cX2_addAll 23 = .ok (.aload 5, 2) := by decide +kernel
theorem dX2_addAll_25 : decode cX2_addAll 25 = .ok (.getfield 28, 3) := by decide +kernel
theorem dX2_addAll_28 : decode cX2_addAll 28 = .ok (.iload 6, 2) := by decide +kernel
theorem dX2_addAll_30 : decode cX2_addAll 30 = .ok (.aaload, 1) := by decide +kernel
theorem dX2_addAll_31 : decode cX2_addAll 31 = .ok (.iload 4, 2) := by decide +kernel
theorem dX2_addAll_33 : decode cX2_addAll 33 = .ok (.invokevirtual 32, 3) := by decide +kernel
theorem dX2_addAll_36 : decode cX2_addAll 36 = .ok (.ifCond .eq 19, 3) := by decide +kernel
theorem dX2_addAll_39 : decode cX2_addAll 39 = .ok (.aload_n 0, 1) := by decide +kernel
theorem dX2_addAll_40 : decode cX2_addAll 40 = .ok (.aload_n 1, 1) := by decide +kernel
theorem dX2_addAll_41 : decode cX2_addAll 41 = .ok (.iload_n 2, 1) := by decide +kernel
theorem dX2_addAll_42 : decode cX2_addAll 42 = .ok (.bipush 8, 2) := by decide +kernel
theorem dX2_addAll_44 : decode cX2_addAll 44 = .ok (.imul, 1) := by decide +kernel
theorem dX2_addAll_45 : decode cX2_addAll 45 = .ok (.iload_n 3, 1) := by decide +kernel
theorem dX2_addAll_46 : decode cX2_addAll 46 = .ok (.iadd, 1) := by decide +kernel
theorem dX2_addAll_47 : decode cX2_addAll 47 = .ok (.iconst 4, 1) := by decide +kernel
theorem dX2_addAll_48 : decode cX2_addAll 48 = .ok (.imul, 1) := by decide +kernel
theorem dX2_addAll_49 : decode cX2_addAll 49 = .ok (.iload 6, 2) := by decide +kernel
theorem dX2_addAll_51 : decode cX2_addAll 51 = .ok (.iadd, 1) := by decide +kernel
theorem dX2_addAll_52 : decode cX2_addAll 52 = .ok (.invokevirtual 38, 3) := by decide +kernel
theorem dX2_addAll_55 : decode cX2_addAll 55 = .ok (.iinc 6 1, 3) := by decide +kernel
theorem dX2_addAll_58 : decode cX2_addAll 58 = .ok (.goto (-45), 3) := by decide +kernel
theorem dX2_addAll_61 : decode cX2_addAll 61 = .ok (.return_, 1) := by decide +kernel
def rm_X2_addAll : Room := { frames := 4, cells := 0, slots := 0, locals := 92 }
def fn_X2_addAll_B55 (b : Nat) (z13 : Sg → Int32 → Int32 → Int32 → Nat → Int32 → Option (Sg)) (σ : Sg) (x2 : Int32) (x3 : Int32) (x4 : Int32) (x5 : Nat) (x6 : Int32) : Option (Sg) :=
  (sg_lt (x6 + 1 : Int32) fun v1 =>
  z13 σ x2 x3 x4 x5 v1)
set_option maxHeartbeats 4000000 in
set_option maxRecDepth 100000 in
theorem w_X2_addAll_B55 {p : Program} {l : Launch} {e : Env} {s : State} {m : MethodId} {args : Array Value} {below : List Frame} {meth : Method} {c : Code} {Q : State → Prop} {D : va_G} {κ : Nat → ClassId} {b : Nat} {H0 : Heap} {rr : Sg} (hZ : sg_Z p c s m args D κ cX2_addAll 7 RX2 wsX2_addAll) (hret : ∀ (u : Sg) (H : Heap) (locs : List Loc) (pc : Nat) (ls : Array Slot), some u = some rr → CW D κ b u H → va_S (sg_A b 892) H0 H locs → decode cX2_addAll pc = .ok (.return_, 1) → W p l e rm_X2_addAll s m args below meth c H locs 0 0 Q (F0 m pc ls [])) {z13 : Sg → Int32 → Int32 → Int32 → Nat → Int32 → Option (Sg)} (hr13 : ∀ {σ : Sg} {x2 : Int32} {x3 : Int32} {x4 : Int32} {x5 : Nat} {x6 : Int32} {H : Heap} {locs : List Loc} {ls : Array Slot}, z13 σ x2 x3 x4 x5 x6 = some rr → is_Fld b x5 → lv_has ls 7 [(0, .ref (b + 6)), (1, .ref (b + 5)), (2, .int x2), (3, .int x3), (4, .int x4), (5, .ref x5), (6, .int x6)] → CW D κ b σ H → va_S (sg_A b 892) H0 H locs → W p l e rm_X2_addAll s m args below meth c H locs 0 0 Q (F0 m 13 ls [])) : ∀ {σ : Sg} {x2 : Int32} {x3 : Int32} {x4 : Int32} {x5 : Nat} {x6 : Int32} {H : Heap} {locs : List Loc} {ls : Array Slot}, fn_X2_addAll_B55 b z13 σ x2 x3 x4 x5 x6 = some rr → is_Fld b x5 → lv_has ls 7 [(0, .ref (b + 6)), (1, .ref (b + 5)), (2, .int x2), (3, .int x3), (4, .int x4), (5, .ref x5), (6, .int x6)] → CW D κ b σ H → va_S (sg_A b 892) H0 H locs → W p l e rm_X2_addAll s m args below meth c H locs 0 0 Q (F0 m 55 ls []) := by
  obtain ⟨hx, hb, hml, hown, hts, hK⟩ := hZ
  intro σ x2 x3 x4 x5 x6 H locs ls h hx5 hl hC hS
  unfold fn_X2_addAll_B55 at h
  obtain ⟨v1, ev1, h⟩ := sg_lte h
  refine lv_iinc (v := v1) (lv' := [(6, .int v1), (0, .ref (b + 6)), (1, .ref (b + 5)), (2, .int x2), (3, .int x3), (4, .int x4), (5, .ref x5)]) (k := 6) hx hb dX2_addAll_55 hl rfl (sg_inc (by decide) ev1) (by decide) rfl (fun ls hl => ?_)
  refine lv_goto (tgt := 13) hx hb dX2_addAll_58 (by decide) ?_
  exact hr13 h hx5 (lv_sub hl [1, 2, 3, 4, 5, 6, 0] rfl) hC hS
def fn_X2_addAll_B13b (b : Nat) (z13 : Sg → Int32 → Int32 → Int32 → Nat → Int32 → Option (Sg)) (σ : Sg) (x2 : Int32) (x3 : Int32) (x4 : Int32) (x5 : Nat) (x6 : Int32) : Option (Sg) :=
  (if ((σ.1 x5 1) : Int32) ≤ x6 then
  some σ
  else (if sg_ib x6 4 then
  ((fn_X5_hasCode b σ (x5 + 2 + 4 * sg_x x6) x4).bind fun r2 =>
  (if r2 = 0 then
  fn_X2_addAll_B55 b z13 σ x2 x3 x4 x5 x6
  else ((fn_X2_add b σ ((((x2 * 8) + x3) * 4) + x6)).bind fun r3 =>
  fn_X2_addAll_B55 b z13 r3 x2 x3 x4 x5 x6)))
  else none))
def fn_X2_addAll_B13 (b : Nat) : Nat → Sg → Int32 → Int32 → Int32 → Nat → Int32 → Option (Sg)
  | 0 => fun _ _ _ _ _ _ => none
  | n + 1 => fun σ x2 x3 x4 x5 x6 => fn_X2_addAll_B13b b (fn_X2_addAll_B13 b n) σ x2 x3 x4 x5 x6
set_option maxHeartbeats 4000000 in
set_option maxRecDepth 100000 in
theorem w_X2_addAll_B13b {p : Program} {l : Launch} {e : Env} {s : State} {m : MethodId} {args : Array Value} {below : List Frame} {meth : Method} {c : Code} {Q : State → Prop} {D : va_G} {κ : Nat → ClassId} {b : Nat} {H0 : Heap} {rr : Sg} (hZ : sg_Z p c s m args D κ cX2_addAll 7 RX2 wsX2_addAll) (hret : ∀ (u : Sg) (H : Heap) (locs : List Loc) (pc : Nat) (ls : Array Slot), some u = some rr → CW D κ b u H → va_S (sg_A b 892) H0 H locs → decode cX2_addAll pc = .ok (.return_, 1) → W p l e rm_X2_addAll s m args below meth c H locs 0 0 Q (F0 m pc ls [])) {z13 : Sg → Int32 → Int32 → Int32 → Nat → Int32 → Option (Sg)} (hr13 : ∀ {σ : Sg} {x2 : Int32} {x3 : Int32} {x4 : Int32} {x5 : Nat} {x6 : Int32} {H : Heap} {locs : List Loc} {ls : Array Slot}, z13 σ x2 x3 x4 x5 x6 = some rr → is_Fld b x5 → lv_has ls 7 [(0, .ref (b + 6)), (1, .ref (b + 5)), (2, .int x2), (3, .int x3), (4, .int x4), (5, .ref x5), (6, .int x6)] → CW D κ b σ H → va_S (sg_A b 892) H0 H locs → W p l e rm_X2_addAll s m args below meth c H locs 0 0 Q (F0 m 13 ls [])) : ∀ {σ : Sg} {x2 : Int32} {x3 : Int32} {x4 : Int32} {x5 : Nat} {x6 : Int32} {H : Heap} {locs : List Loc} {ls : Array Slot}, fn_X2_addAll_B13b b z13 σ x2 x3 x4 x5 x6 = some rr → is_Fld b x5 → lv_has ls 7 [(0, .ref (b + 6)), (1, .ref (b + 5)), (2, .int x2), (3, .int x3), (4, .int x4), (5, .ref x5), (6, .int x6)] → CW D κ b σ H → va_S (sg_A b 892) H0 H locs → W p l e rm_X2_addAll s m args below meth c H locs 0 0 Q (F0 m 13 ls []) := by
  obtain ⟨hx, hb, hml, hown, hts, hK⟩ := hZ
  intro σ x2 x3 x4 x5 x6 H locs ls h hx5 hl hC hS
  unfold fn_X2_addAll_B13b at h
  refine lv_iload hx hb dX2_addAll_13 (lv_at hl 6 rfl) ?_
  refine lv_aload hx hb dX2_addAll_15 (lv_at hl 5 rfl) ?_
  refine va_getN (D := D) (ci := 1) (v := .int (σ.1 x5 1)) (C := RX1) (T := TX1) (N := 5) hx hb hts (wqs inW_X1) hown hK.1 hC.1 (x5 - b) (sg_gField hx5) rfl 1 (by decide) (nf_16 hK) (fun _ h9 => h9) rfl dX2_addAll_17 ?_
  refine lv_icmp_ge (tgt := 61) hx hb dX2_addAll_20 (by decide) (fun hc => ?_) (fun hc => ?_)
  · replace h := (if_pos hc).symm.trans h
    exact hret _ _ _ _ _ h hC hS dX2_addAll_61
  · replace h := (if_neg hc).symm.trans h
    refine lv_aload hx hb dX2_addAll_23 (lv_at hl 5 rfl) ?_
    refine va_getN (D := D) (ci := 1) (v := .ref (x5 + 1)) (C := RX1) (T := TX1) (N := 5) hx hb hts (wqs inW_X1) hown hK.1 hC.1 (x5 - b) (sg_gField hx5) rfl 0 (by decide) (nf_13 hK) (fun _ h9 => h9) rfl dX2_addAll_25 ?_
    refine lv_iload hx hb dX2_addAll_28 (lv_at hl 6 rfl) ?_
    obtain ⟨hg, h⟩ := sg_gd h
    refine va_aldq (C := "RecordShelf$Subfield") hx hb hK.1 hC.1 ((x5 + 1) - b) 4 (sg_gsubs hx5) rfl (sg_in hg) dX2_addAll_30 ?_
    have hv1 := sg_vSub hx5 hg
    refine W.eq (g2 := F0 m 31 ls [.ref (x5 + 2 + 4 * sg_x x6)]) rfl ?_
    refine lv_iload hx hb dX2_addAll_31 (lv_at hl 4 rfl) ?_
    obtain ⟨r2, er2, h⟩ := Option.bind_eq_some_iff.mp h
    refine va_calli (va_runV (As := [.int x4]) (rest := []) ⟨hx, hb, hml, hown, hts⟩ (c_X5_hasCode l D κ b σ (x5 + 2 + 4 * sg_x x6) x4 _ hv1 er2) (cwV 1 hts (gwV wt_570 wt_571 wt_572 wt_8 wt_573) rfl rfl rfl (by decide +kernel) ⟨Nat.le_of_ble_eq_true rfl, Nat.le_of_ble_eq_true rfl⟩) (CW_preV hK hC (sg_gSub hv1) rfl) rfl rfl hl.1 rfl (lv_room (Nat.le_of_ble_eq_true rfl)) dX2_addAll_33 ⟨Nat.zero_le _, Nat.zero_le _⟩) hS (fun _ _ h => h) (fun _ h => h) (fun r u t H locs ht _ hp hB _ _ hS => ?_)
    refine sg_topi hp.1 ?_
    have hC : CW D κ b σ H := CW_b hB ht hp.2
    refine lv_if_eq (tgt := 55) hx hb dX2_addAll_36 (by decide) (fun hc => ?_) (fun hc => ?_)
    · replace h := (if_pos hc).symm.trans h
      exact w_X2_addAll_B55 ⟨hx, hb, hml, hown, hts, hK⟩ hret hr13 h hx5 (lv_sub hl [0, 1, 2, 3, 4, 5, 6] rfl) hC hS
    · replace h := (if_neg hc).symm.trans h
      refine lv_aload_n hx hb dX2_addAll_39 rfl (lv_at hl 0 rfl) ?_
      refine lv_aload_n hx hb dX2_addAll_40 rfl (lv_at hl 1 rfl) ?_
      refine lv_iload_n hx hb dX2_addAll_41 rfl (lv_at hl 2 rfl) ?_
      refine lv_bipush (v := 8) hx hb dX2_addAll_42 (by decide) ?_
      refine lv_imul hx hb dX2_addAll_44 ?_
      refine lv_iload_n hx hb dX2_addAll_45 rfl (lv_at hl 3 rfl) ?_
      refine lv_iadd hx hb dX2_addAll_46 ?_
      refine lv_iconst (v := 4) hx hb dX2_addAll_47 (by decide) ?_
      refine lv_imul hx hb dX2_addAll_48 ?_
      refine lv_iload hx hb dX2_addAll_49 (lv_at hl 6 rfl) ?_
      refine lv_iadd hx hb dX2_addAll_51 ?_
      obtain ⟨r3, er3, h⟩ := Option.bind_eq_some_iff.mp h
      refine va_callv (va_runV (As := [.ref (b + 5), .int ((((x2 * 8) + x3) * 4) + x6)]) (rest := []) ⟨hx, hb, hml, hown, hts⟩ (c_X2_add l D κ b σ ((((x2 * 8) + x3) * 4) + x6) _ er3) (cwV 2 hts (gwV wt_574 wt_576 wp_25 wt_4 wt_577) rfl rfl rfl (by decide +kernel) ⟨Nat.le_of_ble_eq_true rfl, Nat.le_of_ble_eq_true rfl⟩) (CW_preV hK hC sg_gHeadings rfl) rfl rfl hl.1 rfl (lv_room (Nat.le_of_ble_eq_true rfl)) dX2_addAll_52 ⟨Nat.zero_le _, Nat.zero_le _⟩) hS (fun _ _ h => h) (fun _ h => h) (fun u t H locs ht _ hp hB _ _ hS => ?_)
      have hC : CW D κ b r3 H := CW_b hB ht hp
      exact w_X2_addAll_B55 ⟨hx, hb, hml, hown, hts, hK⟩ hret hr13 h hx5 (lv_sub hl [0, 1, 2, 3, 4, 5, 6] rfl) hC hS
set_option maxHeartbeats 4000000 in
theorem w_X2_addAll_B13 {p : Program} {l : Launch} {e : Env} {s : State} {m : MethodId} {args : Array Value} {below : List Frame} {meth : Method} {c : Code} {Q : State → Prop} {D : va_G} {κ : Nat → ClassId} {b : Nat} {H0 : Heap} {rr : Sg} (hZ : sg_Z p c s m args D κ cX2_addAll 7 RX2 wsX2_addAll) (hret : ∀ (u : Sg) (H : Heap) (locs : List Loc) (pc : Nat) (ls : Array Slot), some u = some rr → CW D κ b u H → va_S (sg_A b 892) H0 H locs → decode cX2_addAll pc = .ok (.return_, 1) → W p l e rm_X2_addAll s m args below meth c H locs 0 0 Q (F0 m pc ls [])) : ∀ n : Nat, ∀ {σ : Sg} {x2 : Int32} {x3 : Int32} {x4 : Int32} {x5 : Nat} {x6 : Int32} {H : Heap} {locs : List Loc} {ls : Array Slot}, fn_X2_addAll_B13 b n σ x2 x3 x4 x5 x6 = some rr → is_Fld b x5 → lv_has ls 7 [(0, .ref (b + 6)), (1, .ref (b + 5)), (2, .int x2), (3, .int x3), (4, .int x4), (5, .ref x5), (6, .int x6)] → CW D κ b σ H → va_S (sg_A b 892) H0 H locs → W p l e rm_X2_addAll s m args below meth c H locs 0 0 Q (F0 m 13 ls []) := by
  intro n
  induction n with
  | zero => intro σ x2 x3 x4 x5 x6 H locs ls h hx5 hl hC hS; cases (show (none : Option (Sg)) = some rr from h)
  | succ n ih =>
    intro σ x2 x3 x4 x5 x6 H locs ls h hx5 hl hC hS
    exact w_X2_addAll_B13b hZ hret ih (show fn_X2_addAll_B13b b (fn_X2_addAll_B13 b n) σ x2 x3 x4 x5 x6 = some rr from h) hx5 hl hC hS
def fn_X2_addAll (b : Nat) (σ : Sg) (x2 : Int32) (x3 : Int32) (x4 : Int32) : Option (Sg) :=
  (if sg_ib x2 6 then
  (if sg_ib x3 8 then
  (sg_lt ((σ.2 ((b + 10 + 147 * sg_x x2) + 2) (sg_x x3)) : Nat) fun a3 =>
  fn_X2_addAll_B13 b sg_N σ x2 x3 x4 a3 0)
  else none)
  else none)
set_option maxHeartbeats 4000000 in
set_option maxRecDepth 100000 in
theorem w_X2_addAll_B0 {p : Program} {l : Launch} {e : Env} {s : State} {m : MethodId} {args : Array Value} {below : List Frame} {meth : Method} {c : Code} {Q : State → Prop} {D : va_G} {κ : Nat → ClassId} {b : Nat} {H0 : Heap} {rr : Sg} (hZ : sg_Z p c s m args D κ cX2_addAll 7 RX2 wsX2_addAll) (hret : ∀ (u : Sg) (H : Heap) (locs : List Loc) (pc : Nat) (ls : Array Slot), some u = some rr → CW D κ b u H → va_S (sg_A b 892) H0 H locs → decode cX2_addAll pc = .ok (.return_, 1) → W p l e rm_X2_addAll s m args below meth c H locs 0 0 Q (F0 m pc ls [])) : ∀ {σ : Sg} {x2 : Int32} {x3 : Int32} {x4 : Int32} {H : Heap} {locs : List Loc} {ls : Array Slot}, fn_X2_addAll b σ x2 x3 x4 = some rr → lv_has ls 7 [(0, .ref (b + 6)), (1, .ref (b + 5)), (2, .int x2), (3, .int x3), (4, .int x4)] → CW D κ b σ H → va_S (sg_A b 892) H0 H locs → W p l e rm_X2_addAll s m args below meth c H locs 0 0 Q (F0 m 0 ls []) := by
  obtain ⟨hx, hb, hml, hown, hts, hK⟩ := hZ
  intro σ x2 x3 x4 H locs ls h hl hC hS
  unfold fn_X2_addAll at h
  refine lv_aload_n hx hb dX2_addAll_0 rfl (lv_at hl 1 rfl) ?_
  refine lv_iload_n hx hb dX2_addAll_1 rfl (lv_at hl 2 rfl) ?_
  obtain ⟨hg, h⟩ := sg_gd h
  refine va_aldq (C := "RecordShelf$Card") hx hb hK.1 hC.1 ((b + 5) - b) 2 sg_gcards rfl (sg_in hg) dX2_addAll_2 ?_
  have hv1 := sg_vCard (b := b) hg
  refine W.eq (g2 := F0 m 3 ls [.ref (b + 10 + 147 * sg_x x2)]) rfl ?_
  refine va_getN (D := D) (ci := 0) (v := .ref ((b + 10 + 147 * sg_x x2) + 2)) (C := RX0) (T := TX0) (N := 3) hx hb hts (wqs inW_X0) hown hK.1 hC.1 ((b + 10 + 147 * sg_x x2) - b) (sg_gCard hv1) rfl 1 (by decide) (nf_26 hK) (fun _ h9 => h9) rfl dX2_addAll_3 ?_
  refine lv_iload_n hx hb dX2_addAll_6 rfl (lv_at hl 3 rfl) ?_
  obtain ⟨hg, h⟩ := sg_gd h
  refine va_aldq (C := "RecordShelf$Field") hx hb hK.1 hC.1 (((b + 10 + 147 * sg_x x2) + 2) - b) 3 (sg_gfields hv1) rfl (sg_in hg) dX2_addAll_7 ?_
  have hv2 := hC.2 _ hv1 _ hg.2
  refine W.eq (g2 := F0 m 8 ls [.ref (σ.2 ((b + 10 + 147 * sg_x x2) + 2) (sg_x x3))]) rfl ?_
  obtain ⟨a3, ea3, h⟩ := sg_lte h
  have ha3 := ea3 ▸ hv2
  refine sg_topr ea3 ?_
  refine lv_astore (lv' := [(5, .ref a3), (0, .ref (b + 6)), (1, .ref (b + 5)), (2, .int x2), (3, .int x3), (4, .int x4)]) hx hb dX2_addAll_8 hl (by decide) rfl (fun ls hl => ?_)
  refine lv_iconst (v := 0) hx hb dX2_addAll_10 (by decide) ?_
  refine lv_istore (lv' := [(6, .int 0), (5, .ref a3), (0, .ref (b + 6)), (1, .ref (b + 5)), (2, .int x2), (3, .int x3), (4, .int x4)]) hx hb dX2_addAll_11 hl (by decide) rfl (fun ls hl => ?_)
  exact w_X2_addAll_B13 ⟨hx, hb, hml, hown, hts, hK⟩ hret  sg_N h ha3 (lv_sub hl [2, 3, 4, 5, 6, 1, 0] rfl) hC hS
set_option maxHeartbeats 4000000 in
set_option maxRecDepth 100000 in
theorem c_X2_addAll (l : Launch) (D : va_G) (κ : Nat → ClassId) (b : Nat) (σ : Sg) (x2 : Int32) (x3 : Int32) (x4 : Int32) (rr : Sg)  (h : fn_X2_addAll b σ x2 x3 x4 = some rr) : Met l yX2_addAll wsX2_addAll rm_X2_addAll (va_Pc [.ref (b + 6), .ref (b + 5), .int x2, .int x3, .int x4] (fun U => KK D κ U ∧ CW D κ b σ U.heap)) (va_Qv (fun u : Sg => u = rr) (fun u t => CW D κ b u t.heap) (sg_A b 892)) 0 0 (sg_A b 892) := by
  refine Met.ofW (cc := cX2_addAll) (maxL := 7) (ret := none) (by decide) rfl ?_
  intro p e s m args below meth c s₁ B hml hv
  obtain ⟨rfl, hK, hC⟩ := hv
  have hr := B.returns
  have hlocks := B.notSynchronized
  have hl := lv_entry ([.ref (b + 6), .ref (b + 5), .int x2, .int x3, .int x4]) (n := 7) (Nat.le_of_ble_eq_true rfl)
  rw [lg_entry_eq]
  generalize (lg_sl ([.ref (b + 6), .ref (b + 5), .int x2, .int x3, .int x4]) ++ List.replicate (7 - (lg_sl ([.ref (b + 6), .ref (b + 5), .int x2, .int x3, .int x4])).length) Slot.unset).toArray = ls at hl ⊢
  have hl : lv_has ls 7 [(0, .ref (b + 6)), (1, .ref (b + 5)), (2, .int x2), (3, .int x3), (4, .int x4)] := hl
  exact w_X2_addAll_B0 ⟨B.exec, B.bytes, hml, findClass_of_methodNamed B.named, atoms_spec (ws := wsX2_addAll) B.pre, hK⟩ (fun u H locs pc ls hq hC hS hd => W.vret B.exec B.bytes hr (fun t ht hW => ⟨⟨_, rfl, Option.some.inj hq, CW_e ht hC⟩, hS.F ht⟩) hS.2.2 hd) h  hl hC va_S.rf

-- RecordShelf$Headings.part(II)I
theorem dX2_part_0 : decode cX2_part 0 = .ok (.iload_n 1, 1) := by decide +kernel
theorem dX2_part_1 : decode cX2_part 1 = .ok (.ifCond .lt 11, 3) := by decide +kernel
theorem dX2_part_4 : decode cX2_part 4 = .ok (.iload_n 1, 1) := by decide +kernel
theorem dX2_part_5 : decode cX2_part 5 = .ok (.aload_n 0, 1) := by decide +kernel
theorem dX2_part_6 : decode cX2_part 6 = .ok (.getfield 15, 3) := by decide +kernel
theorem dX2_part_9 : decode cX2_part 9 = .ok (.if_icmp .lt 5, 3) := by decide +kernel
theorem dX2_part_12 : decode cX2_part 12 = .ok (.iconst (-1), 1) := by decide +kernel
theorem dX2_part_13 : decode cX2_part 13 = .ok (.ireturn, 1) := by decide +kernel
theorem dX2_part_14 : decode cX2_part 14 = .ok (.iload_n 2, 1) := by decide +kernel
theorem dX2_part_15 : decode cX2_part 15 = .ok (.tableswitch 55 0 2 #[25, 35, 45], 25) := by decide +kernel
theorem dX2_part_40 : decode cX2_part 40 = .ok (.aload_n 0, 1) := by decide +kernel
theorem dX2_part_41 : decode cX2_part 41 = .ok (.getfield 9, 3) := by decide +kernel
theorem dX2_part_44 : decode cX2_part 44 = .ok (.iload_n 1, 1) := by decide +kernel
theorem dX2_part_45 : decode cX2_part 45 = .ok (.iaload, 1) := by decide +kernel
theorem dX2_part_46 : decode cX2_part 46 = .ok (.invokestatic 62, 3) := by decide +kernel
theorem dX2_part_49 : decode cX2_part 49 = .ok (.ireturn, 1) := by decide +kernel
theorem dX2_part_50 : decode cX2_part 50 = .ok (.aload_n 0, 1) := by decide +kernel
theorem dX2_part_51 : decode cX2_part 51 = .ok (.getfield 9, 3) := by decide +kernel
theorem dX2_part_54 : decode cX2_part 54 = .ok (.iload_n 1, 1) := by decide +kernel
theorem dX2_part_55 : decode cX2_part 55 = .ok (.iaload, 1) := by decide +kernel
theorem dX2_part_56 : decode cX2_part 56 = .ok (.invokestatic 66, 3) := by decide +kernel
theorem dX2_part_59 : decode cX2_part 59 = .ok (.ireturn, 1) := by decide +kernel
theorem dX2_part_60 : decode cX2_part 60 = .ok (.aload_n 0, 1) := by decide +kernel
theorem dX2_part_61 : decode cX2_part 61 = .ok (.getfield 9, 3) := by decide +kernel
theorem dX2_part_64 : decode cX2_part 64 = .ok (.iload_n 1, 1) := by decide +kernel
theorem dX2_part_65 : decode cX2_part 65 = .ok (.iaload, 1) := by decide +kernel
theorem dX2_part_66 : decode cX2_part 66 = .ok (.invokestatic 69, 3) := by decide +kernel
theorem dX2_part_69 : decode cX2_part 69 = .ok (.ireturn, 1) := by decide +kernel
theorem dX2_part_70 : decode cX2_part 70 = .ok (.iconst (-1), 1) := by decide +kernel
theorem dX2_part_71 : decode cX2_part 71 = .ok (.ireturn, 1) := by decide +kernel
def rm_X2_part : Room := { frames := 1, cells := 0, slots := 0, locals := 20 }
def fn_X2_part (b : Nat) (σ : Sg) (x1 : Int32) (x2 : Int32) : Option (Int32) :=
  (if x1 < 0 then
  some (-1)
  else (if x1 < (σ.1 (b + 6) 1) then
  (if x2 = 0 then
  (if sg_ib x1 192 then
  ((fn_X2_recordOf (σ.1 (b + 7) (sg_x x1))).bind fun r1 =>
  some r1)
  else none)
  else (if x2 = 1 then
  (if sg_ib x1 192 then
  ((fn_X2_fieldOf (σ.1 (b + 7) (sg_x x1))).bind fun r2 =>
  some r2)
  else none)
  else (if x2 = 2 then
  (if sg_ib x1 192 then
  ((fn_X2_subfieldOf (σ.1 (b + 7) (sg_x x1))).bind fun r3 =>
  some r3)
  else none)
  else some (-1))))
  else some (-1)))
set_option maxHeartbeats 4000000 in
set_option maxRecDepth 100000 in
theorem w_X2_part_B0 {p : Program} {l : Launch} {e : Env} {s : State} {m : MethodId} {args : Array Value} {below : List Frame} {meth : Method} {c : Code} {Q : State → Prop} {D : va_G} {κ : Nat → ClassId} {b : Nat} {H0 : Heap} {rr : Int32} {σ : Sg} (hZ : sg_Z p c s m args D κ cX2_part 3 RX2 wsX2_part) (hret : ∀ (v : Int32) (H : Heap) (locs : List Loc) (pc : Nat) (ls : Array Slot), some v = some rr → CW D κ b σ H → va_S (sg_A b 892) H0 H locs → decode cX2_part pc = .ok (.ireturn, 1) → W p l e rm_X2_part s m args below meth c H locs 0 0 Q (F0 m pc ls [.int v])) : ∀ {x1 : Int32} {x2 : Int32} {H : Heap} {locs : List Loc} {ls : Array Slot}, fn_X2_part b σ x1 x2 = some rr → lv_has ls 3 [(0, .ref (b + 6)), (1, .int x1), (2, .int x2)] → CW D κ b σ H → va_S (sg_A b 892) H0 H locs → W p l e rm_X2_part s m args below meth c H locs 0 0 Q (F0 m 0 ls []) := by
  obtain ⟨hx, hb, hml, hown, hts, hK⟩ := hZ
  intro x1 x2 H locs ls h hl hC hS
  unfold fn_X2_part at h
  refine lv_iload_n hx hb dX2_part_0 rfl (lv_at hl 1 rfl) ?_
  refine lv_if_lt (tgt := 12) hx hb dX2_part_1 (by decide) (fun hc => ?_) (fun hc => ?_)
  · replace h := (if_pos hc).symm.trans h
    refine lv_iconst (v := (-1)) hx hb dX2_part_12 (by decide) ?_
    exact hret _ _ _ _ _ h hC hS dX2_part_13
  · replace h := (if_neg hc).symm.trans h
    refine lv_iload_n hx hb dX2_part_4 rfl (lv_at hl 1 rfl) ?_
    refine lv_aload_n hx hb dX2_part_5 rfl (lv_at hl 0 rfl) ?_
    refine va_get (D := D) (ci := 2) (v := .int (σ.1 (b + 6) 1)) (C := RX2) (T := TX2) (N := 2) hx hb hts (wqs inW_X2) hown hK.1 hC.1 ((b + 6) - b) sg_gHeadings rfl 1 (by decide) (hts _ (wq wt_85)) (fun _ h9 => h9) rfl dX2_part_6 ?_
    refine lv_icmp_lt (tgt := 14) hx hb dX2_part_9 (by decide) (fun hc => ?_) (fun hc => ?_)
    · replace h := (if_pos hc).symm.trans h
      refine lv_iload_n hx hb dX2_part_14 rfl (lv_at hl 2 rfl) ?_
      by_cases hs0 : x2 = 0
      · replace h := (if_pos hs0).symm.trans h
        refine lv_tableIn (tgt := 40) hx hb dX2_part_15 (by rw [hs0]; decide) (by rw [hs0]; decide) (by rw [hs0] <;> rfl) (by decide) ?_
        refine lv_aload_n hx hb dX2_part_40 rfl (lv_at hl 0 rfl) ?_
        refine va_get (D := D) (ci := 2) (v := .ref (b + 7)) (C := RX2) (T := TX2) (N := 2) hx hb hts (wqs inW_X2) hown hK.1 hC.1 ((b + 6) - b) sg_gHeadings rfl 0 (by decide) (hts _ (wq wt_84)) (fun _ h9 => h9) rfl dX2_part_41 ?_
        refine lv_iload_n hx hb dX2_part_44 rfl (lv_at hl 1 rfl) ?_
        obtain ⟨hg, h⟩ := sg_gd h
        refine va_iald hx hb hK.1 hC.1 ((b + 7) - b) 0 sg_gplaces rfl (sg_in hg) dX2_part_45 ?_
        obtain ⟨r1, er1, h⟩ := Option.bind_eq_some_iff.mp h
        refine va_calli (va_runS (As := [.int (σ.1 (b + 7) (sg_x x1))]) (rest := []) ⟨hx, hb, hml, hown, hts⟩ (c_X2_recordOf l D κ b σ (σ.1 (b + 7) (sg_x x1)) _ er1) (va_cwS 1 hts (gwS wt_581 wt_582 wt_4 wt_583) rfl rfl rfl (by decide +kernel) ⟨Nat.le_of_ble_eq_true rfl, Nat.le_of_ble_eq_true rfl⟩) (CW_preS hK hC) rfl rfl hl.1 rfl (lv_room (Nat.le_of_ble_eq_true rfl)) dX2_part_46 ⟨Nat.zero_le _, Nat.zero_le _⟩) hS (fun _ _ h => h) (fun _ h => h) (fun r u t H locs ht _ hp hB _ _ hS => ?_)
        refine sg_topi hp.1 ?_
        have hC : CW D κ b σ H := CW_b hB ht hp.2
        exact hret _ _ _ _ _ h hC hS dX2_part_49
      · replace h := (if_neg hs0).symm.trans h
        by_cases hs1 : x2 = 1
        · replace h := (if_pos hs1).symm.trans h
          refine lv_tableIn (tgt := 50) hx hb dX2_part_15 (by rw [hs1]; decide) (by rw [hs1]; decide) (by rw [hs1] <;> rfl) (by decide) ?_
          refine lv_aload_n hx hb dX2_part_50 rfl (lv_at hl 0 rfl) ?_
          refine va_get (D := D) (ci := 2) (v := .ref (b + 7)) (C := RX2) (T := TX2) (N := 2) hx hb hts (wqs inW_X2) hown hK.1 hC.1 ((b + 6) - b) sg_gHeadings rfl 0 (by decide) (hts _ (wq wt_84)) (fun _ h9 => h9) rfl dX2_part_51 ?_
          refine lv_iload_n hx hb dX2_part_54 rfl (lv_at hl 1 rfl) ?_
          obtain ⟨hg, h⟩ := sg_gd h
          refine va_iald hx hb hK.1 hC.1 ((b + 7) - b) 0 sg_gplaces rfl (sg_in hg) dX2_part_55 ?_
          obtain ⟨r2, er2, h⟩ := Option.bind_eq_some_iff.mp h
          refine va_calli (va_runS (As := [.int (σ.1 (b + 7) (sg_x x1))]) (rest := []) ⟨hx, hb, hml, hown, hts⟩ (c_X2_fieldOf l D κ b σ (σ.1 (b + 7) (sg_x x1)) _ er2) (va_cwS 1 hts (gwS wt_584 wt_585 wt_4 wt_586) rfl rfl rfl (by decide +kernel) ⟨Nat.le_of_ble_eq_true rfl, Nat.le_of_ble_eq_true rfl⟩) (CW_preS hK hC) rfl rfl hl.1 rfl (lv_room (Nat.le_of_ble_eq_true rfl)) dX2_part_56 ⟨Nat.zero_le _, Nat.zero_le _⟩) hS (fun _ _ h => h) (fun _ h => h) (fun r u t H locs ht _ hp hB _ _ hS => ?_)
          refine sg_topi hp.1 ?_
          have hC : CW D κ b σ H := CW_b hB ht hp.2
          exact hret _ _ _ _ _ h hC hS dX2_part_59
        · replace h := (if_neg hs1).symm.trans h
          by_cases hs2 : x2 = 2
          · replace h := (if_pos hs2).symm.trans h
            refine lv_tableIn (tgt := 60) hx hb dX2_part_15 (by rw [hs2]; decide) (by rw [hs2]; decide) (by rw [hs2] <;> rfl) (by decide) ?_
            refine lv_aload_n hx hb dX2_part_60 rfl (lv_at hl 0 rfl) ?_
            refine va_get (D := D) (ci := 2) (v := .ref (b + 7)) (C := RX2) (T := TX2) (N := 2) hx hb hts (wqs inW_X2) hown hK.1 hC.1 ((b + 6) - b) sg_gHeadings rfl 0 (by decide) (hts _ (wq wt_84)) (fun _ h9 => h9) rfl dX2_part_61 ?_
            refine lv_iload_n hx hb dX2_part_64 rfl (lv_at hl 1 rfl) ?_
            obtain ⟨hg, h⟩ := sg_gd h
            refine va_iald hx hb hK.1 hC.1 ((b + 7) - b) 0 sg_gplaces rfl (sg_in hg) dX2_part_65 ?_
            obtain ⟨r3, er3, h⟩ := Option.bind_eq_some_iff.mp h
            refine va_calli (va_runS (As := [.int (σ.1 (b + 7) (sg_x x1))]) (rest := []) ⟨hx, hb, hml, hown, hts⟩ (c_X2_subfieldOf l D κ b σ (σ.1 (b + 7) (sg_x x1)) _ er3) (va_cwS 1 hts (gwS wt_587 wt_588 wt_4 wt_589) rfl rfl rfl (by decide +kernel) ⟨Nat.le_of_ble_eq_true rfl, Nat.le_of_ble_eq_true rfl⟩) (CW_preS hK hC) rfl rfl hl.1 rfl (lv_room (Nat.le_of_ble_eq_true rfl)) dX2_part_66 ⟨Nat.zero_le _, Nat.zero_le _⟩) hS (fun _ _ h => h) (fun _ h => h) (fun r u t H locs ht _ hp hB _ _ hS => ?_)
            refine sg_topi hp.1 ?_
            have hC : CW D κ b σ H := CW_b hB ht hp.2
            exact hret _ _ _ _ _ h hC hS dX2_part_69
          · replace h := (if_neg hs2).symm.trans h
            refine lv_tableOut (tgt := 70) hx hb dX2_part_15 (sg_sw3t hs0 hs1 hs2) (by decide) ?_
            refine lv_iconst (v := (-1)) hx hb dX2_part_70 (by decide) ?_
            exact hret _ _ _ _ _ h hC hS dX2_part_71
    · replace h := (if_neg hc).symm.trans h
      refine lv_iconst (v := (-1)) hx hb dX2_part_12 (by decide) ?_
      exact hret _ _ _ _ _ h hC hS dX2_part_13
set_option maxHeartbeats 4000000 in
set_option maxRecDepth 100000 in
theorem c_X2_part (l : Launch) (D : va_G) (κ : Nat → ClassId) (b : Nat) (σ : Sg) (x1 : Int32) (x2 : Int32) (rr : Int32)  (h : fn_X2_part b σ x1 x2 = some rr) : Met l yX2_part wsX2_part rm_X2_part (va_Pc [.ref (b + 6), .int x1, .int x2] (fun U => KK D κ U ∧ CW D κ b σ U.heap)) (va_Qi (fun (r : Int32) (u : Sg) => r = rr ∧ u = σ) (fun u t => CW D κ b u t.heap) (sg_A b 892)) 0 0 (sg_A b 892) := by
  refine Met.ofW (cc := cX2_part) (maxL := 3) (ret := (some .int)) (by decide) rfl ?_
  intro p e s m args below meth c s₁ B hml hv
  obtain ⟨rfl, hK, hC⟩ := hv
  have hr := B.returns
  have hlocks := B.notSynchronized
  have hl := lv_entry ([.ref (b + 6), .int x1, .int x2]) (n := 3) (Nat.le_of_ble_eq_true rfl)
  rw [lg_entry_eq]
  generalize (lg_sl ([.ref (b + 6), .int x1, .int x2]) ++ List.replicate (3 - (lg_sl ([.ref (b + 6), .int x1, .int x2])).length) Slot.unset).toArray = ls at hl ⊢
  have hl : lv_has ls 3 [(0, .ref (b + 6)), (1, .int x1), (2, .int x2)] := hl
  exact w_X2_part_B0 ⟨B.exec, B.bytes, hml, findClass_of_methodNamed B.named, atoms_spec (ws := wsX2_part) B.pre, hK⟩ (fun v H locs pc ls hq hC hS hd => W.iret B.exec B.bytes hr (fun t ht hW => ⟨⟨v, _, rfl, ⟨Option.some.inj hq, rfl⟩, CW_e ht hC⟩, hS.F ht⟩) hS.2.2 hd) h  hl hC va_S.rf
