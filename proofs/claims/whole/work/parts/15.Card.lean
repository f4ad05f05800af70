-- RecordShelf$Card.isFull()Z
theorem dX0_isFull_0 : decode cX0_isFull 0 = .ok (.aload_n 0, 1) := by decide +kernel
theorem dX0_isFull_1 : decode cX0_isFull 1 = .ok (.getfield 22, 3) := by decide +kernel
theorem dX0_isFull_4 : decode cX0_isFull 4 = .ok (.bipush 8, 2) := by decide +kernel
theorem dX0_isFull_6 : decode cX0_isFull 6 = .ok (.if_icmp .lt 7, 3) := by decide +kernel
theorem dX0_isFull_9 : decode cX0_isFull 9 = .ok (.iconst 1, 1) := by decide +kernel
theorem dX0_isFull_10 : decode cX0_isFull 10 = .ok (.goto 4, 3) := by decide +kernel
theorem dX0_isFull_13 : decode cX0_isFull 13 = .ok (.iconst 0, 1) := by decide +kernel
theorem dX0_isFull_14 : decode cX0_isFull 14 = .ok (.ireturn, 1) := by decide +kernel
def rm_X0_isFull : Room := { frames := 0, cells := 0, slots := 0, locals := 0 }
def fn_X0_isFull (b : Nat) (σ : Sg) (x0 : Nat) : Option (Int32) :=
  (if (σ.1 x0 2) < 8 then
  some 0
  else some 1)
set_option maxHeartbeats 4000000 in
set_option maxRecDepth 100000 in
theorem w_X0_isFull_B0 {p : Program} {l : Launch} {e : Env} {s : State} {m : MethodId} {args : Array Value} {below : List Frame} {meth : Method} {c : Code} {Q : State → Prop} {D : va_G} {κ : Nat → ClassId} {b : Nat} {H0 : Heap} {rr : Int32} {σ : Sg} (hZ : sg_Z p c s m args D κ cX0_isFull 1 RX0 wsX0_isFull) (hret : ∀ (v : Int32) (H : Heap) (locs : List Loc) (pc : Nat) (ls : Array Slot), some v = some rr → narrow .boolean (.int v) = .int v → CW D κ b σ H → va_S (sg_A b 892) H0 H locs → decode cX0_isFull pc = .ok (.ireturn, 1) → W p l e rm_X0_isFull s m args below meth c H locs 0 0 Q (F0 m pc ls [.int v])) : ∀ {x0 : Nat} {H : Heap} {locs : List Loc} {ls : Array Slot}, fn_X0_isFull b σ x0 = some rr → is_Card b x0 → lv_has ls 1 [(0, .ref x0)] → CW D κ b σ H → va_S (sg_A b 892) H0 H locs → W p l e rm_X0_isFull s m args below meth c H locs 0 0 Q (F0 m 0 ls []) := by
  obtain ⟨hx, hb, hml, hown, hts, hK⟩ := hZ
  intro x0 H locs ls h hx0 hl hC hS
  unfold fn_X0_isFull at h
  refine lv_aload_n hx hb dX0_isFull_0 rfl (lv_at hl 0 rfl) ?_
  refine va_get (D := D) (ci := 0) (v := .int (σ.1 x0 2)) (C := RX0) (T := TX0) (N := 3) hx hb hts (wqs inW_X0) hown hK.1 hC.1 (x0 - b) (sg_gCard hx0) rfl 2 (by decide) (hts _ (wq wt_182)) (fun _ h9 => h9) rfl dX0_isFull_1 ?_
  refine lv_bipush (v := 8) hx hb dX0_isFull_4 (by decide) ?_
  refine lv_icmp_lt (tgt := 13) hx hb dX0_isFull_6 (by decide) (fun hc => ?_) (fun hc => ?_)
  · replace h := (if_pos hc).symm.trans h
    refine lv_iconst (v := 0) hx hb dX0_isFull_13 (by decide) ?_
    exact hret _ _ _ _ _ h (by decide) hC hS dX0_isFull_14
  · replace h := (if_neg hc).symm.trans h
    refine lv_iconst (v := 1) hx hb dX0_isFull_9 (by decide) ?_
    refine lv_goto (tgt := 14) hx hb dX0_isFull_10 (by decide) ?_
    exact hret _ _ _ _ _ h (by decide) hC hS dX0_isFull_14
set_option maxHeartbeats 4000000 in
set_option maxRecDepth 100000 in
theorem c_X0_isFull (l : Launch) (D : va_G) (κ : Nat → ClassId) (b : Nat) (σ : Sg) (x0 : Nat) (rr : Int32) (hx0 : is_Card b x0) (h : fn_X0_isFull b σ x0 = some rr) : Met l yX0_isFull wsX0_isFull rm_X0_isFull (va_Pc [.ref x0] (fun U => KK D κ U ∧ CW D κ b σ U.heap)) (va_Qi (fun (r : Int32) (u : Sg) => r = rr ∧ u = σ) (fun u t => CW D κ b u t.heap) (sg_A b 892)) 0 0 (sg_A b 892) := by
  refine Met.ofW (cc := cX0_isFull) (maxL := 1) (ret := (some .boolean)) (by decide) rfl ?_
  intro p e s m args below meth c s₁ B hml hv
  obtain ⟨rfl, hK, hC⟩ := hv
  have hr := B.returns
  have hlocks := B.notSynchronized
  have hl := lv_entry ([.ref x0]) (n := 1) (Nat.le_of_ble_eq_true rfl)
  rw [lg_entry_eq]
  generalize (lg_sl ([.ref x0]) ++ List.replicate (1 - (lg_sl ([.ref x0])).length) Slot.unset).toArray = ls at hl ⊢
  have hl : lv_has ls 1 [(0, .ref x0)] := hl
  exact w_X0_isFull_B0 ⟨B.exec, B.bytes, hml, findClass_of_methodNamed B.named, atoms_spec (ws := wsX0_isFull) B.pre, hK⟩ (fun v H locs pc ls hq hbo hC hS hd => W.zret B.exec B.bytes hr hbo (fun t ht hW => ⟨⟨v, _, rfl, ⟨Option.some.inj hq, rfl⟩, CW_e ht hC⟩, hS.F ht⟩) hS.2.2 hd) h hx0 hl hC va_S.rf

-- RecordShelf$Card.addField(I)LRecordShelf$Field;
theorem dX0_addField_0 : decode cX0_addField 0 = .ok (.aload_n 0, 1) := by decide +kernel
theorem dX0_addField_1 : decode cX0_addField 1 = .ok (.getfield 17, 3) := by decide +kernel
theorem dX0_addField_4 : decode cX0_addField 4 = .ok (.aload_n 0, 1) := by decide +kernel
theorem dX0_addField_5 : decode cX0_addField 5 = .ok (.getfield 22, 3) := by decide +kernel
theorem dX0_addField_8 : decode cX0_addField 8 = .ok (.aaload, 1) := by decide +kernel
theorem dX0_addField_9 : decode cX0_addField 9 = .ok (.astore_n 2, 1) := by decide +kernel
theorem dX0_addField_10 : decode cX0_addField 10 = .ok (.aload_n 2, 1) := by decide +kernel
theorem dX0_addField_11 : decode cX0_addField 11 = .ok (.iload_n 1, 1) := by decide +kernel
theorem dX0_addField_12 : decode cX0_addField 12 = .ok (.invokevirtual 34, 3) := by decide +kernel
theorem dX0_addField_15 : decode cX0_addField 15 = .ok (.aload_n 0, 1) := by decide +kernel
theorem dX0_addField_16 : decode cX0_addField 16 = .ok (.dup, 1) := by decide +kernel
theorem dX0_addField_17 : decode cX0_addField 17 = .ok (.getfield 22, 3) := by decide +kernel
theorem dX0_addField_20 : decode cX0_addField 20 = .ok (.iconst 1, 1) := by decide +kernel
theorem dX0_addField_21 : decode cX0_addField 21 = .ok (.iadd, 1) := by decide +kernel
theorem dX0_addField_22 : decode cX0_addField 22 = .ok (.putfield 22, 3) := by decide +kernel
theorem dX0_addField_25 : decode cX0_addField 25 = .ok (.aload_n 2, 1) := by decide +kernel
theorem dX0_addField_26 : decode cX0_addField 26 = .ok (.areturn, 1) := by decide +kernel
def rm_X0_addField : Room := { frames := 1, cells := 0, slots := 0, locals := 21 }
def fn_X0_addField (b : Nat) (σ : Sg) (x0 : Nat) (x1 : Int32) : Option (Nat × Sg) :=
  (if sg_ib (σ.1 x0 2) 8 then
  (sg_lt ((σ.2 (x0 + 2) (sg_x (σ.1 x0 2))) : Nat) fun a2 =>
  ((fn_X1_begin b σ a2 x1).bind fun r3 =>
  (sg_lt (sg_w r3 x0 2 ((r3.1 x0 2) + 1)) fun σ4 =>
  some (a2, σ4))))
  else none)
set_option maxHeartbeats 4000000 in
set_option maxRecDepth 100000 in
theorem w_X0_addField_B0 {p : Program} {l : Launch} {e : Env} {s : State} {m : MethodId} {args : Array Value} {below : List Frame} {meth : Method} {c : Code} {Q : State → Prop} {D : va_G} {κ : Nat → ClassId} {b : Nat} {H0 : Heap} {rr : Nat × Sg} (hZ : sg_Z p c s m args D κ cX0_addField 3 RX0 wsX0_addField) (hret : ∀ (v : Nat) (u : Sg) (H : Heap) (locs : List Loc) (pc : Nat) (ls : Array Slot), some (v, u) = some rr → is_Fld b v → CW D κ b u H → va_S (sg_A b 892) H0 H locs → decode cX0_addField pc = .ok (.areturn, 1) → W p l e rm_X0_addField s m args below meth c H locs 0 0 Q (F0 m pc ls [.ref v])) : ∀ {σ : Sg} {x0 : Nat} {x1 : Int32} {H : Heap} {locs : List Loc} {ls : Array Slot}, fn_X0_addField b σ x0 x1 = some rr → is_Card b x0 → lv_has ls 3 [(0, .ref x0), (1, .int x1)] → CW D κ b σ H → va_S (sg_A b 892) H0 H locs → W p l e rm_X0_addField s m args below meth c H locs 0 0 Q (F0 m 0 ls []) := by
  obtain ⟨hx, hb, hml, hown, hts, hK⟩ := hZ
  intro σ x0 x1 H locs ls h hx0 hl hC hS
  unfold fn_X0_addField at h
  refine lv_aload_n hx hb dX0_addField_0 rfl (lv_at hl 0 rfl) ?_
  refine va_get (D := D) (ci := 0) (v := .ref (x0 + 2)) (C := RX0) (T := TX0) (N := 3) hx hb hts (wqs inW_X0) hown hK.1 hC.1 (x0 - b) (sg_gCard hx0) rfl 1 (by decide) (hts _ (wq wt_178)) (fun _ h9 => h9) rfl dX0_addField_1 ?_
  refine lv_aload_n hx hb dX0_addField_4 rfl (lv_at hl 0 rfl) ?_
  refine va_get (D := D) (ci := 0) (v := .int (σ.1 x0 2)) (C := RX0) (T := TX0) (N := 3) hx hb hts (wqs inW_X0) hown hK.1 hC.1 (x0 - b) (sg_gCard hx0) rfl 2 (by decide) (hts _ (wq wt_182)) (fun _ h9 => h9) rfl dX0_addField_5 ?_
  obtain ⟨hg, h⟩ := sg_gd h
  refine va_aldq (C := "RecordShelf$Field") hx hb hK.1 hC.1 ((x0 + 2) - b) 3 (sg_gfields hx0) rfl (sg_in hg) dX0_addField_8 ?_
  have hv1 := hC.2 _ hx0 _ hg.2
  refine W.eq (g2 := F0 m 9 ls [.ref (σ.2 (x0 + 2) (sg_x (σ.1 x0 2)))]) rfl ?_
  obtain ⟨a2, ea2, h⟩ := sg_lte h
  have ha2 := ea2 ▸ hv1
  refine sg_topr ea2 ?_
  refine lv_astore_n (lv' := [(2, .ref a2), (0, .ref x0), (1, .int x1)]) hx hb dX0_addField_9 rfl hl (by decide) rfl (fun ls hl => ?_)
  refine lv_aload_n hx hb dX0_addField_10 rfl (lv_at hl 0 rfl) ?_
  refine lv_iload_n hx hb dX0_addField_11 rfl (lv_at hl 2 rfl) ?_
  obtain ⟨r3, er3, h⟩ := Option.bind_eq_some_iff.mp h
  refine va_callv (va_runV (As := [.int x1]) (rest := []) ⟨hx, hb, hml, hown, hts⟩ (c_X1_begin l D κ b σ a2 x1 _ ha2 er3) (cwV 1 hts (gwV wt_350 wt_351 wt_352 wt_7 wt_353) rfl rfl rfl (by decide +kernel) ⟨Nat.le_of_ble_eq_true rfl, Nat.le_of_ble_eq_true rfl⟩) (CW_preV hK hC (sg_gField ha2) rfl) rfl rfl hl.1 rfl (lv_room (Nat.le_of_ble_eq_true rfl)) dX0_addField_12 ⟨Nat.zero_le _, Nat.zero_le _⟩) hS (fun _ _ h => h) (fun _ h => h) (fun u t H locs ht _ hp hB _ _ hS => ?_)
  have hC : CW D κ b r3 H := CW_b hB ht hp
  refine lv_aload_n hx hb dX0_addField_15 rfl (lv_at hl 1 rfl) ?_
  refine lv_dup hx hb dX0_addField_16 rfl ?_
  refine va_get (D := D) (ci := 0) (v := .int (r3.1 x0 2)) (C := RX0) (T := TX0) (N := 3) hx hb hts (wqs inW_X0) hown hK.1 hC.1 (x0 - b) (sg_gCard hx0) rfl 2 (by decide) (hts _ (wq wt_182)) (fun _ h9 => h9) rfl dX0_addField_17 ?_
  refine lv_iconst (v := 1) hx hb dX0_addField_20 (by decide) ?_
  refine lv_iadd hx hb dX0_addField_21 ?_
  refine va_put (D := D) (ci := 0) (v := .int ((r3.1 x0 2) + 1)) (ty := .int) (C := RX0) (T := TX0) (N := 3) hx hb hts (wqs inW_X0) tyX0 tyX0_ok nmX0 hown hK.1 hC.1 sg_D hS (x0 - b) (sg_gCard hx0) rfl 2 (by decide) (hts _ (wq wt_182)) (fun _ h9 => h9) rfl (by decide +kernel) rfl rfl (Nat.le_of_ble_eq_true rfl) dX0_addField_22 (fun H locs hP _ hS => ?_)
  obtain ⟨σ4, eσ4, h⟩ := sg_lte h
  have hC : CW D κ b σ4 H := eσ4 ▸ CW_put (k := 2) (v := ((r3.1 x0 2) + 1)) hC (sg_aCard hx0) (sg_yCard hx0 _ _) hP
  refine lv_aload_n hx hb dX0_addField_25 rfl (lv_at hl 0 rfl) ?_
  exact hret _ _ _ _ _ _ h ha2 hC hS dX0_addField_26
set_option maxHeartbeats 4000000 in
set_option maxRecDepth 100000 in
theorem c_X0_addField (l : Launch) (D : va_G) (κ : Nat → ClassId) (b : Nat) (σ : Sg) (x0 : Nat) (x1 : Int32) (rr : Nat × Sg) (hx0 : is_Card b x0) (h : fn_X0_addField b σ x0 x1 = some rr) : Met l yX0_addField wsX0_addField rm_X0_addField (va_Pc [.ref x0, .int x1] (fun U => KK D κ U ∧ CW D κ b σ U.heap)) (va_Qr (fun _ : Sg => True) (fun u ra t => ra = rr.1 ∧ u = rr.2 ∧ is_Fld b rr.1 ∧ CW D κ b u t.heap) (sg_A b 892)) 0 0 (sg_A b 892) := by
  refine Met.ofW (cc := cX0_addField) (maxL := 3) (ret := (some (.object "RecordShelf$Field"))) (by decide) rfl ?_
  intro p e s m args below meth c s₁ B hml hv
  obtain ⟨rfl, hK, hC⟩ := hv
  have hr := B.returns
  have hlocks := B.notSynchronized
  have hl := lv_entry ([.ref x0, .int x1]) (n := 3) (Nat.le_of_ble_eq_true rfl)
  rw [lg_entry_eq]
  generalize (lg_sl ([.ref x0, .int x1]) ++ List.replicate (3 - (lg_sl ([.ref x0, .int x1])).length) Slot.unset).toArray = ls at hl ⊢
  have hl : lv_has ls 3 [(0, .ref x0), (1, .int x1)] := hl
  exact w_X0_addField_B0 ⟨B.exec, B.bytes, hml, findClass_of_methodNamed B.named, atoms_spec (ws := wsX0_addField) B.pre, hK⟩ (fun v u H locs pc ls hq hvv hC hS hd => W.aret B.exec B.bytes hr (Or.inl ⟨_, rfl⟩) (Or.inr ⟨_, rfl⟩) (fun t ht hW => ⟨⟨_, v, rfl, trivial, congrArg Prod.fst (Option.some.inj hq), congrArg Prod.snd (Option.some.inj hq), congrArg Prod.fst (Option.some.inj hq) ▸ hvv, CW_e ht hC⟩, hS.F ht⟩) hS.2.2 hd) h hx0 hl hC va_S.rf

-- RecordShelf$Card.takeOut(I)V
theorem dX0_takeOut_0 : decode cX0_takeOut 0 = .ok (.aload_n 0, 1) := by decide +kernel
theorem dX0_takeOut_1 : decode cX0_takeOut 1 = .ok (.getfield 17, 3) := by decide +kernel
theorem dX0_takeOut_4 : decode cX0_takeOut 4 = .ok (.iload_n 1, 1) := by decide +kernel
theorem dX0_takeOut_5 : decode cX0_takeOut 5 = .ok (.aaload, 1) := by decide +kernel
theorem dX0_takeOut_6 : decode cX0_takeOut 6 = .ok (.astore_n 2, 1) := by decide +kernel
theorem dX0_takeOut_7 : decode cX0_takeOut 7 = .ok (.iload_n 1, 1) := by decide +kernel
theorem dX0_takeOut_8 : decode cX0_takeOut 8 = .ok (.istore_n 3, 1) := by decide +kernel
theorem dX0_takeOut_9 : decode cX0_takeOut 9 = .ok (.iload_n 3, 1) := by decide +kernel
theorem dX0_takeOut_10 : decode cX0_takeOut 10 = .ok (.aload_n 0, 1) := by decide +kernel
theorem dX0_takeOut_11 : decode cX0_takeOut 11 = .ok (.getfield 22, 3) := by decide +kernel
theorem dX0_takeOut_14 : decode cX0_takeOut 14 = .ok (.iconst 1, 1) := by decide +kernel
theorem dX0_takeOut_15 : decode cX0_takeOut 15 = .ok (.isub, 1) := by decide +kernel
theorem dX0_takeOut_16 : decode cX0_takeOut 16 = .ok (.if_icmp .ge 23, 3) := by decide +kernel
theorem dX0_takeOut_19 : decode cX0_takeOut 19 = .ok (.aload_n 0, 1) := by decide +kernel
theorem dX0_takeOut_20 : decode cX0_takeOut 20 = .ok (.getfield 17, 3) := by decide +kernel
theorem dX0_takeOut_23 : decode cX0_takeOut 23 = .ok (.iload_n 3, 1) := by decide +kernel
theorem dX0_takeOut_24 : decode cX0_takeOut 24 = .ok (.aload_n 0, 1) := by decide +kernel
theorem dX0_takeOut_25 : decode cX0_takeOut 25 = .ok (.getfield 17, 3) := by decide +kernel
theorem dX0_takeOut_28 : decode cX0_takeOut 28 = .ok (.iload_n 3, 1) := by decide +kernel
theorem dX0_takeOut_29 : decode cX0_takeOut 29 = .ok (.iconst 1, 1) := by decide +kernel
theorem dX0_takeOut_30 : decode cX0_takeOut 30 = .ok (.iadd, 1) := by decide +kernel
theorem dX0_takeOut_31 : decode cX0_takeOut 31 = .ok (.aaload, 1) := by decide +kernel
theorem dX0_takeOut_32 : decode cX0_takeOut 32 = .ok (.aastore, 1) := by decide +kernel
theorem dX0_takeOut_33 : decode cX0_takeOut 33 = .ok (.iinc 3 1, 3) := by decide +kernel
theorem dX0_takeOut_36 : decode cX0_takeOut 36 = .ok (.goto (-27), 3) := by decide +kernel
theorem dX0_takeOut_39 : decode cX0_takeOut 39 = .ok (.aload_n 0, 1) := by decide +kernel
theorem dX0_takeOut_40 : decode cX0_takeOut 40 = .ok (.dup, 1) := by decide +kernel
theorem dX0_takeOut_41 : decode cX0_takeOut 41 = .ok (.getfield 22, 3) := by decide +kernel
theorem dX0_takeOut_44 : decode cX0_takeOut 44 = .ok (.iconst 1, 1) := by decide +kernel
theorem dX0_takeOut_45 : decode cX0_takeOut 45 = .ok (.isub, 1) := by decide +kernel
theorem dX0_takeOut_46 : decode cX0_takeOut 46 = .ok (.putfield 22, 3) := by decide +kernel
theorem dX0_takeOut_49 : decode cX0_takeOut 49 = .ok (.aload_n 0, 1) := by decide +kernel
theorem dX0_takeOut_50 : decode cX0_takeOut 50 = .ok (.getfield 17, 3) := by decide +kernel
theorem dX0_takeOut_53 : decode cX0_takeOut 53 = .ok (.aload_n 0, 1) := by decide +kernel
theorem dX0_takeOut_54 : decode cX0_takeOut 54 = .ok (.getfield 22, 3) := by decide +kernel
theorem dX0_takeOut_57 : decode cX0_takeOut 57 = .ok (.aload_n 2, 1) := by decide +kernel
theorem dX0_takeOut_58 : decode cX0_takeOut 58 = .ok (.aastore, 1) := by decide +kernel
theorem dX0_takeOut_59 : decode cX0_takeOut 59 = .ok (.return_, 1) := by decide +kernel
def rm_X0_takeOut : Room := { frames := 0, cells := 0, slots := 0, locals := 0 }
def fn_X0_takeOut_B9b (b : Nat) (z9 : Sg → Nat → Nat → Int32 → Option (Sg)) (σ : Sg) (x0 : Nat) (x2 : Nat) (x3 : Int32) : Option (Sg) :=
  (if (((σ.1 x0 2) - 1) : Int32) ≤ x3 then
  (sg_lt (sg_w σ x0 2 ((σ.1 x0 2) - 1)) fun σ1 =>
  (if sg_ib (σ1.1 x0 2) 8 then
  (sg_lt (sg_r σ1 (x0 + 2) (sg_x (σ1.1 x0 2)) x2) fun σ2 =>
  some σ2)
  else none))
  else (if sg_ib (x3 + 1) 8 then
  (if sg_ib x3 8 then
  (sg_lt (sg_r σ (x0 + 2) (sg_x x3) (σ.2 (x0 + 2) (sg_x (x3 + 1)))) fun σ4 =>
  (sg_lt (x3 + 1 : Int32) fun v5 =>
  z9 σ4 x0 x2 v5))
  else none)
  else none))
def fn_X0_takeOut_B9 (b : Nat) : Nat → Sg → Nat → Nat → Int32 → Option (Sg)
  | 0 => fun _ _ _ _ => none
  | n + 1 => fun σ x0 x2 x3 => fn_X0_takeOut_B9b b (fn_X0_takeOut_B9 b n) σ x0 x2 x3
set_option maxHeartbeats 4000000 in
set_option maxRecDepth 100000 in
theorem w_X0_takeOut_B9b {p : Program} {l : Launch} {e : Env} {s : State} {m : MethodId} {args : Array Value} {below : List Frame} {meth : Method} {c : Code} {Q : State → Prop} {D : va_G} {κ : Nat → ClassId} {b : Nat} {H0 : Heap} {rr : Sg} (hZ : sg_Z p c s m args D κ cX0_takeOut 4 RX0 wsX0_takeOut) (hret : ∀ (u : Sg) (H : Heap) (locs : List Loc) (pc : Nat) (ls : Array Slot), some u = some rr → CW D κ b u H → va_S (sg_A b 892) H0 H locs → decode cX0_takeOut pc = .ok (.return_, 1) → W p l e rm_X0_takeOut s m args below meth c H locs 0 0 Q (F0 m pc ls [])) {z9 : Sg → Nat → Nat → Int32 → Option (Sg)} (hr9 : ∀ {σ : Sg} {x0 : Nat} {x2 : Nat} {x3 : Int32} {H : Heap} {locs : List Loc} {ls : Array Slot}, z9 σ x0 x2 x3 = some rr → is_Card b x0 → is_Fld b x2 → lv_has ls 4 [(0, .ref x0), (2, .ref x2), (3, .int x3)] → CW D κ b σ H → va_S (sg_A b 892) H0 H locs → W p l e rm_X0_takeOut s m args below meth c H locs 0 0 Q (F0 m 9 ls [])) : ∀ {σ : Sg} {x0 : Nat} {x2 : Nat} {x3 : Int32} {H : Heap} {locs : List Loc} {ls : Array Slot}, fn_X0_takeOut_B9b b z9 σ x0 x2 x3 = some rr → is_Card b x0 → is_Fld b x2 → lv_has ls 4 [(0, .ref x0), (2, .ref x2), (3, .int x3)] → CW D κ b σ H → va_S (sg_A b 892) H0 H locs → W p l e rm_X0_takeOut s m args below meth c H locs 0 0 Q (F0 m 9 ls []) := by
  obtain ⟨hx, hb, hml, hown, hts, hK⟩ := hZ
  intro σ x0 x2 x3 H locs ls h hx0 hx2 hl hC hS
  unfold fn_X0_takeOut_B9b at h
  refine lv_iload_n hx hb dX0_takeOut_9 rfl (lv_at hl 2 rfl) ?_
  refine lv_aload_n hx hb dX0_takeOut_10 rfl (lv_at hl 0 rfl) ?_
  refine va_get (D := D) (ci := 0) (v := .int (σ.1 x0 2)) (C := RX0) (T := TX0) (N := 3) hx hb hts (wqs inW_X0) hown hK.1 hC.1 (x0 - b) (sg_gCard hx0) rfl 2 (by decide) (hts _ (wq wt_182)) (fun _ h9 => h9) rfl dX0_takeOut_11 ?_
  refine lv_iconst (v := 1) hx hb dX0_takeOut_14 (by decide) ?_
  refine lv_isub hx hb dX0_takeOut_15 ?_
  refine lv_icmp_ge (tgt := 39) hx hb dX0_takeOut_16 (by decide) (fun hc => ?_) (fun hc => ?_)
  · replace h := (if_pos hc).symm.trans h
    refine lv_aload_n hx hb dX0_takeOut_39 rfl (lv_at hl 0 rfl) ?_
    refine lv_dup hx hb dX0_takeOut_40 rfl ?_
    refine va_get (D := D) (ci := 0) (v := .int (σ.1 x0 2)) (C := RX0) (T := TX0) (N := 3) hx hb hts (wqs inW_X0) hown hK.1 hC.1 (x0 - b) (sg_gCard hx0) rfl 2 (by decide) (hts _ (wq wt_182)) (fun _ h9 => h9) rfl dX0_takeOut_41 ?_
    refine lv_iconst (v := 1) hx hb dX0_takeOut_44 (by decide) ?_
    refine lv_isub hx hb dX0_takeOut_45 ?_
    refine va_put (D := D) (ci := 0) (v := .int ((σ.1 x0 2) - 1)) (ty := .int) (C := RX0) (T := TX0) (N := 3) hx hb hts (wqs inW_X0) tyX0 tyX0_ok nmX0 hown hK.1 hC.1 sg_D hS (x0 - b) (sg_gCard hx0) rfl 2 (by decide) (hts _ (wq wt_182)) (fun _ h9 => h9) rfl (by decide +kernel) rfl rfl (Nat.le_of_ble_eq_true rfl) dX0_takeOut_46 (fun H locs hP _ hS => ?_)
    obtain ⟨σ1, eσ1, h⟩ := sg_lte h
    have hC : CW D κ b σ1 H := eσ1 ▸ CW_put (k := 2) (v := ((σ.1 x0 2) - 1)) hC (sg_aCard hx0) (sg_yCard hx0 _ _) hP
    refine lv_aload_n hx hb dX0_takeOut_49 rfl (lv_at hl 0 rfl) ?_
    refine va_get (D := D) (ci := 0) (v := .ref (x0 + 2)) (C := RX0) (T := TX0) (N := 3) hx hb hts (wqs inW_X0) hown hK.1 hC.1 (x0 - b) (sg_gCard hx0) rfl 1 (by decide) (hts _ (wq wt_178)) (fun _ h9 => h9) rfl dX0_takeOut_50 ?_
    refine lv_aload_n hx hb dX0_takeOut_53 rfl (lv_at hl 0 rfl) ?_
    refine va_get (D := D) (ci := 0) (v := .int (σ1.1 x0 2)) (C := RX0) (T := TX0) (N := 3) hx hb hts (wqs inW_X0) hown hK.1 hC.1 (x0 - b) (sg_gCard hx0) rfl 2 (by decide) (hts _ (wq wt_182)) (fun _ h9 => h9) rfl dX0_takeOut_54 ?_
    refine lv_aload_n hx hb dX0_takeOut_57 rfl (lv_at hl 1 rfl) ?_
    obtain ⟨hg, h⟩ := sg_gd h
    refine va_astq (r := (RX1, TX1, 5)) hx hb hK.1 hC.1 sg_D hS ((x0 + 2) - b) 3 (x2 - b) 1 (sg_gfields hx0) rfl (sg_gField hx2) rfl (sg_in hg) dX0_takeOut_58 (fun H locs hP _ hS => ?_)
    obtain ⟨σ2, eσ2, h⟩ := sg_lte h
    have hC : CW D κ b σ2 H := eσ2 ▸ CW_putR hC hx0 hx2 hP
    exact hret _ _ _ _ _ h hC hS dX0_takeOut_59
  · replace h := (if_neg hc).symm.trans h
    refine lv_aload_n hx hb dX0_takeOut_19 rfl (lv_at hl 0 rfl) ?_
    refine va_get (D := D) (ci := 0) (v := .ref (x0 + 2)) (C := RX0) (T := TX0) (N := 3) hx hb hts (wqs inW_X0) hown hK.1 hC.1 (x0 - b) (sg_gCard hx0) rfl 1 (by decide) (hts _ (wq wt_178)) (fun _ h9 => h9) rfl dX0_takeOut_20 ?_
    refine lv_iload_n hx hb dX0_takeOut_23 rfl (lv_at hl 2 rfl) ?_
    refine lv_aload_n hx hb dX0_takeOut_24 rfl (lv_at hl 0 rfl) ?_
    refine va_get (D := D) (ci := 0) (v := .ref (x0 + 2)) (C := RX0) (T := TX0) (N := 3) hx hb hts (wqs inW_X0) hown hK.1 hC.1 (x0 - b) (sg_gCard hx0) rfl 1 (by decide) (hts _ (wq wt_178)) (fun _ h9 => h9) rfl dX0_takeOut_25 ?_
    refine lv_iload_n hx hb dX0_takeOut_28 rfl (lv_at hl 2 rfl) ?_
    refine lv_iconst (v := 1) hx hb dX0_takeOut_29 (by decide) ?_
    refine lv_iadd hx hb dX0_takeOut_30 ?_
    obtain ⟨hg, h⟩ := sg_gd h
    refine va_aldq (C := "RecordShelf$Field") hx hb hK.1 hC.1 ((x0 + 2) - b) 3 (sg_gfields hx0) rfl (sg_in hg) dX0_takeOut_31 ?_
    have hv3 := hC.2 _ hx0 _ hg.2
    refine W.eq (g2 := F0 m 32 ls [.ref (σ.2 (x0 + 2) (sg_x (x3 + 1))), .int x3, .ref (x0 + 2)]) rfl ?_
    obtain ⟨hg, h⟩ := sg_gd h
    refine va_astq (r := (RX1, TX1, 5)) hx hb hK.1 hC.1 sg_D hS ((x0 + 2) - b) 3 ((σ.2 (x0 + 2) (sg_x (x3 + 1))) - b) 1 (sg_gfields hx0) rfl (sg_gField hv3) rfl (sg_in hg) dX0_takeOut_32 (fun H locs hP _ hS => ?_)
    obtain ⟨σ4, eσ4, h⟩ := sg_lte h
    have hC : CW D κ b σ4 H := eσ4 ▸ CW_putR hC hx0 hv3 hP
    obtain ⟨v5, ev5, h⟩ := sg_lte h
    refine lv_iinc (v := v5) (lv' := [(3, .int v5), (0, .ref x0), (2, .ref x2)]) (k := 2) hx hb dX0_takeOut_33 hl rfl (sg_inc (by decide) ev5) (by decide) rfl (fun ls hl => ?_)
    refine lv_goto (tgt := 9) hx hb dX0_takeOut_36 (by decide) ?_
    exact hr9 h hx0 hx2 (lv_sub hl [1, 2, 0] rfl) hC hS
set_option maxHeartbeats 4000000 in
theorem w_X0_takeOut_B9 {p : Program} {l : Launch} {e : Env} {s : State} {m : MethodId} {args : Array Value} {below : List Frame} {meth : Method} {c : Code} {Q : State → Prop} {D : va_G} {κ : Nat → ClassId} {b : Nat} {H0 : Heap} {rr : Sg} (hZ : sg_Z p c s m args D κ cX0_takeOut 4 RX0 wsX0_takeOut) (hret : ∀ (u : Sg) (H : Heap) (locs : List Loc) (pc : Nat) (ls : Array Slot), some u = some rr → CW D κ b u H → va_S (sg_A b 892) H0 H locs → decode cX0_takeOut pc = .ok (.return_, 1) → W p l e rm_X0_takeOut s m args below meth c H locs 0 0 Q (F0 m pc ls [])) : ∀ n : Nat, ∀ {σ : Sg} {x0 : Nat} {x2 : Nat} {x3 : Int32} {H : Heap} {locs : List Loc} {ls : Array Slot}, fn_X0_takeOut_B9 b n σ x0 x2 x3 = some rr → is_Card b x0 → is_Fld b x2 → lv_has ls 4 [(0, .ref x0), (2, .ref x2), (3, .int x3)] → CW D κ b σ H → va_S (sg_A b 892) H0 H locs → W p l e rm_X0_takeOut s m args below meth c H locs 0 0 Q (F0 m 9 ls []) := by
  intro n
  induction n with
  | zero => intro σ x0 x2 x3 H locs ls h hx0 hx2 hl hC hS; cases (show (none : Option (Sg)) = some rr from h)
  | succ n ih =>
    intro σ x0 x2 x3 H locs ls h hx0 hx2 hl hC hS
    exact w_X0_takeOut_B9b hZ hret ih (show fn_X0_takeOut_B9b b (fn_X0_takeOut_B9 b n) σ x0 x2 x3 = some rr from h) hx0 hx2 hl hC hS
def fn_X0_takeOut (b : Nat) (σ : Sg) (x0 : Nat) (x1 : Int32) : Option (Sg) :=
  (if sg_ib x1 8 then
  (sg_lt ((σ.2 (x0 + 2) (sg_x x1)) : Nat) fun a2 =>
  fn_X0_takeOut_B9 b sg_N σ x0 a2 x1)
  else none)
set_option maxHeartbeats 4000000 in
set_option maxRecDepth 100000 in
theorem w_X0_takeOut_B0 {p : Program} {l : Launch} {e : Env} {s : State} {m : MethodId} {args : Array Value} {below : List Frame} {meth : Method} {c : Code} {Q : State → Prop} {D : va_G} {κ : Nat → ClassId} {b : Nat} {H0 : Heap} {rr : Sg} (hZ : sg_Z p c s m args D κ cX0_takeOut 4 RX0 wsX0_takeOut) (hret : ∀ (u : Sg) (H : Heap) (locs : List Loc) (pc : Nat) (ls : Array Slot), some u = some rr → CW D κ b u H → va_S (sg_A b 892) H0 H locs → decode cX0_takeOut pc = .ok (.return_, 1) → W p l e rm_X0_takeOut s m args below meth c H locs 0 0 Q (F0 m pc ls [])) : ∀ {σ : Sg} {x0 : Nat} {x1 : Int32} {H : Heap} {locs : List Loc} {ls : Array Slot}, fn_X0_takeOut b σ x0 x1 = some rr → is_Card b x0 → lv_has ls 4 [(0, .ref x0), (1, .int x1)] → CW D κ b σ H → va_S (sg_A b 892) H0 H locs → W p l e rm_X0_takeOut s m args below meth c H locs 0 0 Q (F0 m 0 ls []) := by
  obtain ⟨hx, hb, hml, hown, hts, hK⟩ := hZ
  intro σ x0 x1 H locs ls h hx0 hl hC hS
  unfold fn_X0_takeOut at h
  refine lv_aload_n hx hb dX0_takeOut_0 rfl (lv_at hl 0 rfl) ?_
  refine va_get (D := D) (ci := 0) (v := .ref (x0 + 2)) (C := RX0) (T := TX0) (N := 3) hx hb hts (wqs inW_X0) hown hK.1 hC.1 (x0 - b) (sg_gCard hx0) rfl 1 (by decide) (hts _ (wq wt_178)) (fun _ h9 => h9) rfl dX0_takeOut_1 ?_
  refine lv_iload_n hx hb dX0_takeOut_4 rfl (lv_at hl 1 rfl) ?_
  obtain ⟨hg, h⟩ := sg_gd h
  refine va_aldq (C := "RecordShelf$Field") hx hb hK.1 hC.1 ((x0 + 2) - b) 3 (sg_gfields hx0) rfl (sg_in hg) dX0_takeOut_5 ?_
  have hv1 := hC.2 _ hx0 _ hg.2
  refine W.eq (g2 := F0 m 6 ls [.ref (σ.2 (x0 + 2) (sg_x x1))]) rfl ?_
  obtain ⟨a2, ea2, h⟩ := sg_lte h
  have ha2 := ea2 ▸ hv1
  refine sg_topr ea2 ?_
  refine lv_astore_n (lv' := [(2, .ref a2), (0, .ref x0), (1, .int x1)]) hx hb dX0_takeOut_6 rfl hl (by decide) rfl (fun ls hl => ?_)
  refine lv_iload_n hx hb dX0_takeOut_7 rfl (lv_at hl 2 rfl) ?_
  refine lv_istore_n (lv' := [(3, .int x1), (2, .ref a2), (0, .ref x0), (1, .int x1)]) hx hb dX0_takeOut_8 rfl hl (by decide) rfl (fun ls hl => ?_)
  exact w_X0_takeOut_B9 ⟨hx, hb, hml, hown, hts, hK⟩ hret  sg_N h hx0 ha2 (lv_sub hl [2, 1, 0] rfl) hC hS
set_option maxHeartbeats 4000000 in
set_option maxRecDepth 100000 in
theorem c_X0_takeOut (l : Launch) (D : va_G) (κ : Nat → ClassId) (b : Nat) (σ : Sg) (x0 : Nat) (x1 : Int32) (rr : Sg) (hx0 : is_Card b x0) (h : fn_X0_takeOut b σ x0 x1 = some rr) : Met l yX0_takeOut wsX0_takeOut rm_X0_takeOut (va_Pc [.ref x0, .int x1] (fun U => KK D κ U ∧ CW D κ b σ U.heap)) (va_Qv (fun u : Sg => u = rr) (fun u t => CW D κ b u t.heap) (sg_A b 892)) 0 0 (sg_A b 892) := by
  refine Met.ofW (cc := cX0_takeOut) (maxL := 4) (ret := none) (by decide) rfl ?_
  intro p e s m args below meth c s₁ B hml hv
  obtain ⟨rfl, hK, hC⟩ := hv
  have hr := B.returns
  have hlocks := B.notSynchronized
  have hl := lv_entry ([.ref x0, .int x1]) (n := 4) (Nat.le_of_ble_eq_true rfl)
  rw [lg_entry_eq]
  generalize (lg_sl ([.ref x0, .int x1]) ++ List.replicate (4 - (lg_sl ([.ref x0, .int x1])).length) Slot.unset).toArray = ls at hl ⊢
  have hl : lv_has ls 4 [(0, .ref x0), (1, .int x1)] := hl
  exact w_X0_takeOut_B0 ⟨B.exec, B.bytes, hml, findClass_of_methodNamed B.named, atoms_spec (ws := wsX0_takeOut) B.pre, hK⟩ (fun u H locs pc ls hq hC hS hd => W.vret B.exec B.bytes hr (fun t ht hW => ⟨⟨_, rfl, Option.some.inj hq, CW_e ht hC⟩, hS.F ht⟩) hS.2.2 hd) h hx0 hl hC va_S.rf

-- RecordShelf$Card.fits(ICLRecordShelf$Key;I)Z
theorem dX0_fits_0 : decode cX0_fits 0 = .ok (.iconst 0, 1) := by decide +kernel
theorem dX0_fits_1 : decode cX0_fits 1 = .ok (.istore 5, 2) := by decide +kernel
theorem dX0_fits_3 : decode cX0_fits 3 = .ok (.iload 5, 2) := by decide +kernel
theorem dX0_fits_5 : decode cX0_fits 5 = .ok (.aload_n 0, 1) := by decide +kernel
theorem dX0_fits_6 : decode cX0_fits 6 = .ok (.getfield 22, 3) := by decide +kernel
theorem dX0_fits_9 : decode cX0_fits 9 = .ok (.if_icmp .ge 58, 3) := by decide +kernel
theorem dX0_fits_12 : decode cX0_fits 12 = .ok (.iload_n 1, 1) := by decide +kernel
theorem dX0_fits_13 : decode cX0_fits 13 = .ok (.ifCond .eq 17, 3) := by decide +kernel
theorem dX0_fits_16 : decode cX0_fits 16 = .ok (.aload_n 0, 1) := by decide +kernel
theorem dX0_fits_17 : decode cX0_fits 17 = .ok (.getfield 17, 3) := by decide +kernel
theorem dX0_fits_20 : decode cX0_fits 20 = .ok (.iload 5, 2) := by decide +kernel
theorem dX0_fits_22 : decode cX0_fits 22 = .ok (.aaload, 1) := by decide +kernel
theorem dX0_fits_23 : decode cX0_fits 23 = .ok (.getfield 38, 3) := by decide +kernel
theorem dX0_fits_26 : decode cX0_fits 26 = .ok (.iload_n 1, 1) := by decide +kernel
theorem dX0_fits_27 : decode cX0_fits 27 = .ok (.if_icmp .ne 7, 3) := by decide +kernel
theorem dX0_fits_30 : decode cX0_fits 30 = .ok (.iconst 1, 1) := by decide +kernel
theorem dX0_fits_31 : decode cX0_fits 31 = .ok (.goto 4, 3) := by decide +kernel
theorem dX0_fits_34 : decode cX0_fits 34 = .ok (.iconst 0, 1) := by decide +kernel
theorem dX0_fits_35 : decode cX0_fits 35 = .ok (.istore 6, 2) := by decide +kernel
theorem dX0_fits_37 : decode cX0_fits 37 = .ok (.iload 6, 2) := by decide +kernel
theorem dX0_fits_39 : decode cX0_fits 39 = .ok (.ifCond .eq 22, 3) := by decide +kernel
theorem dX0_fits_42 : decode cX0_fits 42 = .ok (.aload_n 0, 1) := by decide +kernel
theorem dX0_fits_43 : decode cX0_fits 43 = .ok (.getfield 17, 3) := by decide +kernel
theorem dX0_fits_46 : decode cX0_fits 46 = .ok (.iload 5, 2) := by decide +kernel
theorem dX0_fits_48 : decode cX0_fits 48 = .ok (.aaload, 1) := by decide +kernel
theorem dX0_fits_49 : decode cX0_fits 49 = .ok (.iload_n 2, 1) := by decide +kernel
theorem dX0_fits_50 : decode cX0_fits 50 = .ok (.aload_n 3, 1) := by decide +kernel
theorem dX0_fits_51 : decode cX0_fits 51 = .ok (.iload 4, 2) := by decide +kernel
theorem dX0_fits_53 : decode cX0_fits 53 = .ok (.invokevirtual 41, 3) := by decide +kernel
theorem dX0_fits_56 : decode cX0_fits 56 = .ok (.ifCond .eq 5, 3) := by decide +kernel
theorem dX0_fits_59 : decode cX0_fits 59 = .ok (.iconst 1, 1) := by decide +kernel
theorem dX0_fits_60 : decode cX0_fits 60 = .ok (.ireturn, 1) := by decide +kernel
theorem dX0_fits_61 : decode cX0_fits 61 = .ok (.iinc 5 1, 3) := by decide +kernel
theorem dX0_fits_64 : decode cX0_fits 64 = .ok (.goto (-61), 3) := by decide +kernel
theorem dX0_fits_67 : decode cX0_fits 67 = .ok (.iconst 0, 1) := by decide +kernel
theorem dX0_fits_68 : decode cX0_fits 68 = .ok (.ireturn, 1) := by decide +kernel
def rm_X0_fits : Room := { frames := 4, cells := 0, slots := 0, locals := 92 }
def fn_X0_fits_B61 (b : Nat) (σ : Sg) (z3 : Nat → Int32 → Int32 → Nat → Int32 → Int32 → Option (Int32)) (x0 : Nat) (x1 : Int32) (x2 : Int32) (x3 : Nat) (x4 : Int32) (x5 : Int32) : Option (Int32) :=
  (sg_lt (x5 + 1 : Int32) fun v1 =>
  z3 x0 x1 x2 x3 x4 v1)
set_option maxHeartbeats 4000000 in
set_option maxRecDepth 100000 in
theorem w_X0_fits_B61 {p : Program} {l : Launch} {e : Env} {s : State} {m : MethodId} {args : Array Value} {below : List Frame} {meth : Method} {c : Code} {Q : State → Prop} {D : va_G} {κ : Nat → ClassId} {b : Nat} {H0 : Heap} {rr : Int32} {σ : Sg} (hZ : sg_Z p c s m args D κ cX0_fits 7 RX0 wsX0_fits) (hret : ∀ (v : Int32) (H : Heap) (locs : List Loc) (pc : Nat) (ls : Array Slot), some v = some rr → narrow .boolean (.int v) = .int v → CW D κ b σ H → va_S (sg_A b 892) H0 H locs → decode cX0_fits pc = .ok (.ireturn, 1) → W p l e rm_X0_fits s m args below meth c H locs 0 0 Q (F0 m pc ls [.int v])) {z3 : Nat → Int32 → Int32 → Nat → Int32 → Int32 → Option (Int32)} (hr3 : ∀ {x0 : Nat} {x1 : Int32} {x2 : Int32} {x3 : Nat} {x4 : Int32} {x5 : Int32} {H : Heap} {locs : List Loc} {ls : Array Slot}, z3 x0 x1 x2 x3 x4 x5 = some rr → is_Card b x0 → is_Key b x3 → lv_has ls 7 [(0, .ref x0), (1, .int x1), (2, .int x2), (3, .ref x3), (4, .int x4), (5, .int x5)] → CW D κ b σ H → va_S (sg_A b 892) H0 H locs → W p l e rm_X0_fits s m args below meth c H locs 0 0 Q (F0 m 3 ls [])) : ∀ {x0 : Nat} {x1 : Int32} {x2 : Int32} {x3 : Nat} {x4 : Int32} {x5 : Int32} {H : Heap} {locs : List Loc} {ls : Array Slot}, fn_X0_fits_B61 b σ z3 x0 x1 x2 x3 x4 x5 = some rr → is_Card b x0 → is_Key b x3 → lv_has ls 7 [(0, .ref x0), (1, .int x1), (2, .int x2), (3, .ref x3), (4, .int x4), (5, .int x5)] → CW D κ b σ H → va_S (sg_A b 892) H0 H locs → W p l e rm_X0_fits s m args below meth c H locs 0 0 Q (F0 m 61 ls []) := by
  obtain ⟨hx, hb, hml, hown, hts, hK⟩ := hZ
  intro x0 x1 x2 x3 x4 x5 H locs ls h hx0 hx3 hl hC hS
  unfold fn_X0_fits_B61 at h
  obtain ⟨v1, ev1, h⟩ := sg_lte h
  refine lv_iinc (v := v1) (lv' := [(5, .int v1), (0, .ref x0), (1, .int x1), (2, .int x2), (3, .ref x3), (4, .int x4)]) (k := 5) hx hb dX0_fits_61 hl rfl (sg_inc (by decide) ev1) (by decide) rfl (fun ls hl => ?_)
  refine lv_goto (tgt := 3) hx hb dX0_fits_64 (by decide) ?_
  exact hr3 h hx0 hx3 (lv_sub hl [1, 2, 3, 4, 5, 0] rfl) hC hS
def fn_X0_fits_B35 (b : Nat) (σ : Sg) (z3 : Nat → Int32 → Int32 → Nat → Int32 → Int32 → Option (Int32)) (x0 : Nat) (x1 : Int32) (x2 : Int32) (x3 : Nat) (x4 : Int32) (x5 : Int32) (y0 : Int32) : Option (Int32) :=
  (if y0 = 0 then
  fn_X0_fits_B61 b σ z3 x0 x1 x2 x3 x4 x5
  else (if sg_ib x5 8 then
  ((fn_X1_fits b σ (σ.2 (x0 + 2) (sg_x x5)) x2 x3 x4).bind fun r2 =>
  (if r2 = 0 then
  fn_X0_fits_B61 b σ z3 x0 x1 x2 x3 x4 x5
  else some 1))
  else none))
set_option maxHeartbeats 4000000 in
set_option maxRecDepth 100000 in
theorem w_X0_fits_B35 {p : Program} {l : Launch} {e : Env} {s : State} {m : MethodId} {args : Array Value} {below : List Frame} {meth : Method} {c : Code} {Q : State → Prop} {D : va_G} {κ : Nat → ClassId} {b : Nat} {H0 : Heap} {rr : Int32} {σ : Sg} (hZ : sg_Z p c s m args D κ cX0_fits 7 RX0 wsX0_fits) (hret : ∀ (v : Int32) (H : Heap) (locs : List Loc) (pc : Nat) (ls : Array Slot), some v = some rr → narrow .boolean (.int v) = .int v → CW D κ b σ H → va_S (sg_A b 892) H0 H locs → decode cX0_fits pc = .ok (.ireturn, 1) → W p l e rm_X0_fits s m args below meth c H locs 0 0 Q (F0 m pc ls [.int v])) {z3 : Nat → Int32 → Int32 → Nat → Int32 → Int32 → Option (Int32)} (hr3 : ∀ {x0 : Nat} {x1 : Int32} {x2 : Int32} {x3 : Nat} {x4 : Int32} {x5 : Int32} {H : Heap} {locs : List Loc} {ls : Array Slot}, z3 x0 x1 x2 x3 x4 x5 = some rr → is_Card b x0 → is_Key b x3 → lv_has ls 7 [(0, .ref x0), (1, .int x1), (2, .int x2), (3, .ref x3), (4, .int x4), (5, .int x5)] → CW D κ b σ H → va_S (sg_A b 892) H0 H locs → W p l e rm_X0_fits s m args below meth c H locs 0 0 Q (F0 m 3 ls [])) : ∀ {x0 : Nat} {x1 : Int32} {x2 : Int32} {x3 : Nat} {x4 : Int32} {x5 : Int32} {y0 : Int32} {H : Heap} {locs : List Loc} {ls : Array Slot}, fn_X0_fits_B35 b σ z3 x0 x1 x2 x3 x4 x5 y0 = some rr → is_Card b x0 → is_Key b x3 → lv_has ls 7 [(0, .ref x0), (1, .int x1), (2, .int x2), (3, .ref x3), (4, .int x4), (5, .int x5)] → CW D κ b σ H → va_S (sg_A b 892) H0 H locs → W p l e rm_X0_fits s m args below meth c H locs 0 0 Q (F0 m 35 ls [.int y0]) := by
  obtain ⟨hx, hb, hml, hown, hts, hK⟩ := hZ
  intro x0 x1 x2 x3 x4 x5 y0 H locs ls h hx0 hx3 hl hC hS
  unfold fn_X0_fits_B35 at h
  refine lv_istore (lv' := [(6, .int y0), (0, .ref x0), (1, .int x1), (2, .int x2), (3, .ref x3), (4, .int x4), (5, .int x5)]) hx hb dX0_fits_35 hl (by decide) rfl (fun ls hl => ?_)
  refine lv_iload hx hb dX0_fits_37 (lv_at hl 0 rfl) ?_
  refine lv_if_eq (tgt := 61) hx hb dX0_fits_39 (by decide) (fun hc => ?_) (fun hc => ?_)
  · replace h := (if_pos hc).symm.trans h
    exact w_X0_fits_B61 ⟨hx, hb, hml, hown, hts, hK⟩ hret hr3 h hx0 hx3 (lv_sub hl [1, 2, 3, 4, 5, 6] rfl) hC hS
  · replace h := (if_neg hc).symm.trans h
    refine lv_aload_n hx hb dX0_fits_42 rfl (lv_at hl 1 rfl) ?_
    refine va_get (D := D) (ci := 0) (v := .ref (x0 + 2)) (C := RX0) (T := TX0) (N := 3) hx hb hts (wqs inW_X0) hown hK.1 hC.1 (x0 - b) (sg_gCard hx0) rfl 1 (by decide) (hts _ (wq wt_178)) (fun _ h9 => h9) rfl dX0_fits_43 ?_
    refine lv_iload hx hb dX0_fits_46 (lv_at hl 6 rfl) ?_
    obtain ⟨hg, h⟩ := sg_gd h
    refine va_aldq (C := "RecordShelf$Field") hx hb hK.1 hC.1 ((x0 + 2) - b) 3 (sg_gfields hx0) rfl (sg_in hg) dX0_fits_48 ?_
    have hv1 := hC.2 _ hx0 _ hg.2
    refine W.eq (g2 := F0 m 49 ls [.ref (σ.2 (x0 + 2) (sg_x x5))]) rfl ?_
    refine lv_iload_n hx hb dX0_fits_49 rfl (lv_at hl 3 rfl) ?_
    refine lv_aload_n hx hb dX0_fits_50 rfl (lv_at hl 4 rfl) ?_
    refine lv_iload hx hb dX0_fits_51 (lv_at hl 5 rfl) ?_
    obtain ⟨r2, er2, h⟩ := Option.bind_eq_some_iff.mp h
    refine va_calli (va_runV (As := [.int x2, .ref x3, .int x4]) (rest := []) ⟨hx, hb, hml, hown, hts⟩ (c_X1_fits l D κ b σ (σ.2 (x0 + 2) (sg_x x5)) x2 x3 x4 _ hv1 hx3 er2) (cwV 3 hts (gwV wt_620 wt_621 wt_622 wt_7 wt_623) rfl rfl rfl (by decide +kernel) ⟨Nat.le_of_ble_eq_true rfl, Nat.le_of_ble_eq_true rfl⟩) (CW_preV hK hC (sg_gField hv1) rfl) rfl rfl hl.1 rfl (lv_room (Nat.le_of_ble_eq_true rfl)) dX0_fits_53 ⟨Nat.zero_le _, Nat.zero_le _⟩) hS (fun _ _ h => h) (fun _ h => h) (fun r u t H locs ht _ hp hB _ _ hS => ?_)
    refine sg_topi hp.1 ?_
    have hC : CW D κ b σ H := CW_b hB ht hp.2
    refine lv_if_eq (tgt := 61) hx hb dX0_fits_56 (by decide) (fun hc => ?_) (fun hc => ?_)
    · replace h := (if_pos hc).symm.trans h
      exact w_X0_fits_B61 ⟨hx, hb, hml, hown, hts, hK⟩ hret hr3 h hx0 hx3 (lv_sub hl [1, 2, 3, 4, 5, 6] rfl) hC hS
    · replace h := (if_neg hc).symm.trans h
      refine lv_iconst (v := 1) hx hb dX0_fits_59 (by decide) ?_
      exact hret _ _ _ _ _ h (by decide) hC hS dX0_fits_60
def fn_X0_fits_B30 (b : Nat) (σ : Sg) (z3 : Nat → Int32 → Int32 → Nat → Int32 → Int32 → Option (Int32)) (x0 : Nat) (x1 : Int32) (x2 : Int32) (x3 : Nat) (x4 : Int32) (x5 : Int32) : Option (Int32) :=
  fn_X0_fits_B35 b σ z3 x0 x1 x2 x3 x4 x5 1
set_option maxHeartbeats 4000000 in
set_option maxRecDepth 100000 in
theorem w_X0_fits_B30 {p : Program} {l : Launch} {e : Env} {s : State} {m : MethodId} {args : Array Value} {below : List Frame} {meth : Method} {c : Code} {Q : State → Prop} {D : va_G} {κ : Nat → ClassId} {b : Nat} {H0 : Heap} {rr : Int32} {σ : Sg} (hZ : sg_Z p c s m args D κ cX0_fits 7 RX0 wsX0_fits) (hret : ∀ (v : Int32) (H : Heap) (locs : List Loc) (pc : Nat) (ls : Array Slot), some v = some rr → narrow .boolean (.int v) = .int v → CW D κ b σ H → va_S (sg_A b 892) H0 H locs → decode cX0_fits pc = .ok (.ireturn, 1) → W p l e rm_X0_fits s m args below meth c H locs 0 0 Q (F0 m pc ls [.int v])) {z3 : Nat → Int32 → Int32 → Nat → Int32 → Int32 → Option (Int32)} (hr3 : ∀ {x0 : Nat} {x1 : Int32} {x2 : Int32} {x3 : Nat} {x4 : Int32} {x5 : Int32} {H : Heap} {locs : List Loc} {ls : Array Slot}, z3 x0 x1 x2 x3 x4 x5 = some rr → is_Card b x0 → is_Key b x3 → lv_has ls 7 [(0, .ref x0), (1, .int x1), (2, .int x2), (3, .ref x3), (4, .int x4), (5, .int x5)] → CW D κ b σ H → va_S (sg_A b 892) H0 H locs → W p l e rm_X0_fits s m args below meth c H locs 0 0 Q (F0 m 3 ls [])) : ∀ {x0 : Nat} {x1 : Int32} {x2 : Int32} {x3 : Nat} {x4 : Int32} {x5 : Int32} {H : Heap} {locs : List Loc} {ls : Array Slot}, fn_X0_fits_B30 b σ z3 x0 x1 x2 x3 x4 x5 = some rr → is_Card b x0 → is_Key b x3 → lv_has ls 7 [(0, .ref x0), (1, .int x1), (2, .int x2), (3, .ref x3), (4, .int x4), (5, .int x5)] → CW D κ b σ H → va_S (sg_A b 892) H0 H locs → W p l e rm_X0_fits s m args below meth c H locs 0 0 Q (F0 m 30 ls []) := by
  obtain ⟨hx, hb, hml, hown, hts, hK⟩ := hZ
  intro x0 x1 x2 x3 x4 x5 H locs ls h hx0 hx3 hl hC hS
  unfold fn_X0_fits_B30 at h
  refine lv_iconst (v := 1) hx hb dX0_fits_30 (by decide) ?_
  refine lv_goto (tgt := 35) hx hb dX0_fits_31 (by decide) ?_
  exact w_X0_fits_B35 ⟨hx, hb, hml, hown, hts, hK⟩ hret hr3 h hx0 hx3 (lv_sub hl [0, 1, 2, 3, 4, 5] rfl) hC hS
def fn_X0_fits_B3b (b : Nat) (σ : Sg) (z3 : Nat → Int32 → Int32 → Nat → Int32 → Int32 → Option (Int32)) (x0 : Nat) (x1 : Int32) (x2 : Int32) (x3 : Nat) (x4 : Int32) (x5 : Int32) : Option (Int32) :=
  (if ((σ.1 x0 2) : Int32) ≤ x5 then
  some 0
  else (if x1 = 0 then
  fn_X0_fits_B30 b σ z3 x0 x1 x2 x3 x4 x5
  else (if sg_ib x5 8 then
  (if (σ.1 (σ.2 (x0 + 2) (sg_x x5)) 2) = x1 then
  fn_X0_fits_B30 b σ z3 x0 x1 x2 x3 x4 x5
  else fn_X0_fits_B35 b σ z3 x0 x1 x2 x3 x4 x5 0)
  else none)))
def fn_X0_fits_B3 (b : Nat) (σ : Sg) : Nat → Nat → Int32 → Int32 → Nat → Int32 → Int32 → Option (Int32)
  | 0 => fun _ _ _ _ _ _ => none
  | n + 1 => fun x0 x1 x2 x3 x4 x5 => fn_X0_fits_B3b b σ (fn_X0_fits_B3 b σ n) x0 x1 x2 x3 x4 x5
set_option maxHeartbeats 4000000 in
set_option maxRecDepth 100000 in
theorem w_X0_fits_B3b {p : Program} {l : Launch} {e : Env} {s : State} {m : MethodId} {args : Array Value} {below : List Frame} {meth : Method} {c : Code} {Q : State → Prop} {D : va_G} {κ : Nat → ClassId} {b : Nat} {H0 : Heap} {rr : Int32} {σ : Sg} (hZ : sg_Z p c s m args D κ cX0_fits 7 RX0 wsX0_fits) (hret : ∀ (v : Int32) (H : Heap) (locs : List Loc) (pc : Nat) (ls : Array Slot), some v = some rr → narrow .boolean (.int v) = .int v → CW D κ b σ H → va_S (sg_A b 892) H0 H locs → decode cX0_fits pc = .ok (.ireturn, 1) → W p l e rm_X0_fits s m args below meth c H locs 0 0 Q (F0 m pc ls [.int v])) {z3 : Nat → Int32 → Int32 → Nat → Int32 → Int32 → Option (Int32)} (hr3 : ∀ {x0 : Nat} {x1 : Int32} {x2 : Int32} {x3 : Nat} {x4 : Int32} {x5 : Int32} {H : Heap} {locs : List Loc} {ls : Array Slot}, z3 x0 x1 x2 x3 x4 x5 = some rr → is_Card b x0 → is_Key b x3 → lv_has ls 7 [(0, .ref x0), (1, .int x1), (2, .int x2), (3, .ref x3), (4, .int x4), (5, .int x5)] → CW D κ b σ H → va_S (sg_A b 892) H0 H locs → W p l e rm_X0_fits s m args below meth c H locs 0 0 Q (F0 m 3 ls [])) : ∀ {x0 : Nat} {x1 : Int32} {x2 : Int32} {x3 : Nat} {x4 : Int32} {x5 : Int32} {H : Heap} {locs : List Loc} {ls : Array Slot}, fn_X0_fits_B3b b σ z3 x0 x1 x2 x3 x4 x5 = some rr → is_Card b x0 → is_Key b x3 → lv_has ls 7 [(0, .ref x0), (1, .int x1), (2, .int x2), (3, .ref x3), (4, .int x4), (5, .int x5)] → CW D κ b σ H → va_S (sg_A b 892) H0 H locs → W p l e rm_X0_fits s m args below meth c H locs 0 0 Q (F0 m 3 ls []) := by
  obtain ⟨hx, hb, hml, hown, hts, hK⟩ := hZ
  intro x0 x1 x2 x3 x4 x5 H locs ls h hx0 hx3 hl hC hS
  unfold fn_X0_fits_B3b at h
  refine lv_iload hx hb dX0_fits_3 (lv_at hl 5 rfl) ?_
  refine lv_aload_n hx hb dX0_fits_5 rfl (lv_at hl 0 rfl) ?_
  refine va_get (D := D) (ci := 0) (v := .int (σ.1 x0 2)) (C := RX0) (T := TX0) (N := 3) hx hb hts (wqs inW_X0) hown hK.1 hC.1 (x0 - b) (sg_gCard hx0) rfl 2 (by decide) (hts _ (wq wt_182)) (fun _ h9 => h9) rfl dX0_fits_6 ?_
  refine lv_icmp_ge (tgt := 67) hx hb dX0_fits_9 (by decide) (fun hc => ?_) (fun hc => ?_)
  · replace h := (if_pos hc).symm.trans h
    refine lv_iconst (v := 0) hx hb dX0_fits_67 (by decide) ?_
    exact hret _ _ _ _ _ h (by decide) hC hS dX0_fits_68
  · replace h := (if_neg hc).symm.trans h
    refine lv_iload_n hx hb dX0_fits_12 rfl (lv_at hl 1 rfl) ?_
    refine lv_if_eq (tgt := 30) hx hb dX0_fits_13 (by decide) (fun hc => ?_) (fun hc => ?_)
    · replace h := (if_pos hc).symm.trans h
      exact w_X0_fits_B30 ⟨hx, hb, hml, hown, hts, hK⟩ hret hr3 h hx0 hx3 (lv_sub hl [0, 1, 2, 3, 4, 5] rfl) hC hS
    · replace h := (if_neg hc).symm.trans h
      refine lv_aload_n hx hb dX0_fits_16 rfl (lv_at hl 0 rfl) ?_
      refine va_get (D := D) (ci := 0) (v := .ref (x0 + 2)) (C := RX0) (T := TX0) (N := 3) hx hb hts (wqs inW_X0) hown hK.1 hC.1 (x0 - b) (sg_gCard hx0) rfl 1 (by decide) (hts _ (wq wt_178)) (fun _ h9 => h9) rfl dX0_fits_17 ?_
      refine lv_iload hx hb dX0_fits_20 (lv_at hl 5 rfl) ?_
      obtain ⟨hg, h⟩ := sg_gd h
      refine va_aldq (C := "RecordShelf$Field") hx hb hK.1 hC.1 ((x0 + 2) - b) 3 (sg_gfields hx0) rfl (sg_in hg) dX0_fits_22 ?_
      have hv1 := hC.2 _ hx0 _ hg.2
      refine W.eq (g2 := F0 m 23 ls [.ref (σ.2 (x0 + 2) (sg_x x5))]) rfl ?_
      refine va_getN (D := D) (ci := 1) (v := .int (σ.1 (σ.2 (x0 + 2) (sg_x x5)) 2)) (C := RX1) (T := TX1) (N := 5) hx hb hts (wqs inW_X1) hown hK.1 hC.1 ((σ.2 (x0 + 2) (sg_x x5)) - b) (sg_gField hv1) rfl 2 (by decide) (nf_19 hK) (fun _ h9 => h9) rfl dX0_fits_23 ?_
      refine lv_iload_n hx hb dX0_fits_26 rfl (lv_at hl 1 rfl) ?_
      refine lv_icmp_ne (tgt := 34) hx hb dX0_fits_27 (by decide) (fun hc => ?_) (fun hc => ?_)
      · replace h := (if_neg hc).symm.trans h
        refine lv_iconst (v := 0) hx hb dX0_fits_34 (by decide) ?_
        exact w_X0_fits_B35 ⟨hx, hb, hml, hown, hts, hK⟩ hret hr3 h hx0 hx3 (lv_sub hl [0, 1, 2, 3, 4, 5] rfl) hC hS
      · replace h := (if_pos hc).symm.trans h
        exact w_X0_fits_B30 ⟨hx, hb, hml, hown, hts, hK⟩ hret hr3 h hx0 hx3 (lv_sub hl [0, 1, 2, 3, 4, 5] rfl) hC hS
set_option maxHeartbeats 4000000 in
theorem w_X0_fits_B3 {p : Program} {l : Launch} {e : Env} {s : State} {m : MethodId} {args : Array Value} {below : List Frame} {meth : Method} {c : Code} {Q : State → Prop} {D : va_G} {κ : Nat → ClassId} {b : Nat} {H0 : Heap} {rr : Int32} {σ : Sg} (hZ : sg_Z p c s m args D κ cX0_fits 7 RX0 wsX0_fits) (hret : ∀ (v : Int32) (H : Heap) (locs : List Loc) (pc : Nat) (ls : Array Slot), some v = some rr → narrow .boolean (.int v) = .int v → CW D κ b σ H → va_S (sg_A b 892) H0 H locs → decode cX0_fits pc = .ok (.ireturn, 1) → W p l e rm_X0_fits s m args below meth c H locs 0 0 Q (F0 m pc ls [.int v])) : ∀ n : Nat, ∀ {x0 : Nat} {x1 : Int32} {x2 : Int32} {x3 : Nat} {x4 : Int32} {x5 : Int32} {H : Heap} {locs : List Loc} {ls : Array Slot}, fn_X0_fits_B3 b σ n x0 x1 x2 x3 x4 x5 = some rr → is_Card b x0 → is_Key b x3 → lv_has ls 7 [(0, .ref x0), (1, .int x1), (2, .int x2), (3, .ref x3), (4, .int x4), (5, .int x5)] → CW D κ b σ H → va_S (sg_A b 892) H0 H locs → W p l e rm_X0_fits s m args below meth c H locs 0 0 Q (F0 m 3 ls []) := by
  intro n
  induction n with
  | zero => intro x0 x1 x2 x3 x4 x5 H locs ls h hx0 hx3 hl hC hS; cases (show (none : Option (Int32)) = some rr from h)
  | succ n ih =>
    intro x0 x1 x2 x3 x4 x5 H locs ls h hx0 hx3 hl hC hS
    exact w_X0_fits_B3b hZ hret ih (show fn_X0_fits_B3b b σ (fn_X0_fits_B3 b σ n) x0 x1 x2 x3 x4 x5 = some rr from h) hx0 hx3 hl hC hS
def fn_X0_fits (b : Nat) (σ : Sg) (x0 : Nat) (x1 : Int32) (x2 : Int32) (x3 : Nat) (x4 : Int32) : Option (Int32) :=
  fn_X0_fits_B3 b σ sg_N x0 x1 x2 x3 x4 0
set_option maxHeartbeats 4000000 in
set_option maxRecDepth 100000 in
theorem w_X0_fits_B0 {p : Program} {l : Launch} {e : Env} {s : State} {m : MethodId} {args : Array Value} {below : List Frame} {meth : Method} {c : Code} {Q : State → Prop} {D : va_G} {κ : Nat → ClassId} {b : Nat} {H0 : Heap} {rr : Int32} {σ : Sg} (hZ : sg_Z p c s m args D κ cX0_fits 7 RX0 wsX0_fits) (hret : ∀ (v : Int32) (H : Heap) (locs : List Loc) (pc : Nat) (ls : Array Slot), some v = some rr → narrow .boolean (.int v) = .int v → CW D κ b σ H → va_S (sg_A b 892) H0 H locs → decode cX0_fits pc = .ok (.ireturn, 1) → W p l e rm_X0_fits s m args below meth c H locs 0 0 Q (F0 m pc ls [.int v])) : ∀ {x0 : Nat} {x1 : Int32} {x2 : Int32} {x3 : Nat} {x4 : Int32} {H : Heap} {locs : List Loc} {ls : Array Slot}, fn_X0_fits b σ x0 x1 x2 x3 x4 = some rr → is_Card b x0 → is_Key b x3 → lv_has ls 7 [(0, .ref x0), (1, .int x1), (2, .int x2), (3, .ref x3), (4, .int x4)] → CW D κ b σ H → va_S (sg_A b 892) H0 H locs → W p l e rm_X0_fits s m args below meth c H locs 0 0 Q (F0 m 0 ls []) := by
  obtain ⟨hx, hb, hml, hown, hts, hK⟩ := hZ
  intro x0 x1 x2 x3 x4 H locs ls h hx0 hx3 hl hC hS
  unfold fn_X0_fits at h
  refine lv_iconst (v := 0) hx hb dX0_fits_0 (by decide) ?_
  refine lv_istore (lv' := [(5, .int 0), (0, .ref x0), (1, .int x1), (2, .int x2), (3, .ref x3), (4, .int x4)]) hx hb dX0_fits_1 hl (by decide) rfl (fun ls hl => ?_)
  exact w_X0_fits_B3 ⟨hx, hb, hml, hown, hts, hK⟩ hret  sg_N h hx0 hx3 (lv_sub hl [1, 2, 3, 4, 5, 0] rfl) hC hS
set_option maxHeartbeats 4000000 in
set_option maxRecDepth 100000 in
theorem c_X0_fits (l : Launch) (D : va_G) (κ : Nat → ClassId) (b : Nat) (σ : Sg) (x0 : Nat) (x1 : Int32) (x2 : Int32) (x3 : Nat) (x4 : Int32) (rr : Int32) (hx0 : is_Card b x0) (hx3 : is_Key b x3) (h : fn_X0_fits b σ x0 x1 x2 x3 x4 = some rr) : Met l yX0_fits wsX0_fits rm_X0_fits (va_Pc [.ref x0, .int x1, .int x2, .ref x3, .int x4] (fun U => KK D κ U ∧ CW D κ b σ U.heap)) (va_Qi (fun (r : Int32) (u : Sg) => r = rr ∧ u = σ) (fun u t => CW D κ b u t.heap) (sg_A b 892)) 0 0 (sg_A b 892) := by
  refine Met.ofW (cc := cX0_fits) (maxL := 7) (ret := (some .boolean)) (by decide) rfl ?_
  intro p e s m args below meth c s₁ B hml hv
  obtain ⟨rfl, hK, hC⟩ := hv
  have hr := B.returns
  have hlocks := B.notSynchronized
  have hl := lv_entry ([.ref x0, .int x1, .int x2, .ref x3, .int x4]) (n := 7) (Nat.le_of_ble_eq_true rfl)
  rw [lg_entry_eq]
  generalize (lg_sl ([.ref x0, .int x1, .int x2, .ref x3, .int x4]) ++ List.replicate (7 - (lg_sl ([.ref x0, .int x1, .int x2, .ref x3, .int x4])).length) Slot.unset).toArray = ls at hl ⊢
  have hl : lv_has ls 7 [(0, .ref x0), (1, .int x1), (2, .int x2), (3, .ref x3), (4, .int x4)] := hl
  exact w_X0_fits_B0 ⟨B.exec, B.bytes, hml, findClass_of_methodNamed B.named, atoms_spec (ws := wsX0_fits) B.pre, hK⟩ (fun v H locs pc ls hq hbo hC hS hd => W.zret B.exec B.bytes hr hbo (fun t ht hW => ⟨⟨v, _, rfl, ⟨Option.some.inj hq, rfl⟩, CW_e ht hC⟩, hS.F ht⟩) hS.2.2 hd) h hx0 hx3 hl hC va_S.rf

-- RecordShelf$Card.base()I
theorem dX0_base_0 : decode cX0_base 0 = .ok (.bipush 25, 2) := by decide +kernel
theorem dX0_base_2 : decode cX0_base 2 = .ok (.bipush 12, 2) := by decide +kernel
theorem dX0_base_4 : decode cX0_base 4 = .ok (.aload_n 0, 1) := by decide +kernel
theorem dX0_base_5 : decode cX0_base 5 = .ok (.getfield 22, 3) := by decide +kernel
theorem dX0_base_8 : decode cX0_base 8 = .ok (.imul, 1) := by decide +kernel
theorem dX0_base_9 : decode cX0_base 9 = .ok (.iadd, 1) := by decide +kernel
theorem dX0_base_10 : decode cX0_base 10 = .ok (.ireturn, 1) := by decide +kernel
def rm_X0_base : Room := { frames := 0, cells := 0, slots := 0, locals := 0 }
def fn_X0_base (b : Nat) (σ : Sg) (x0 : Nat) : Option (Int32) :=
  some (25 + (12 * (σ.1 x0 2)))
set_option maxHeartbeats 4000000 in
set_option maxRecDepth 100000 in
theorem w_X0_base_B0 {p : Program} {l : Launch} {e : Env} {s : State} {m : MethodId} {args : Array Value} {below : List Frame} {meth : Method} {c : Code} {Q : State → Prop} {D : va_G} {κ : Nat → ClassId} {b : Nat} {H0 : Heap} {rr : Int32} {σ : Sg} (hZ : sg_Z p c s m args D κ cX0_base 1 RX0 wsX0_base) (hret : ∀ (v : Int32) (H : Heap) (locs : List Loc) (pc : Nat) (ls : Array Slot), some v = some rr → CW D κ b σ H → va_S (sg_A b 892) H0 H locs → decode cX0_base pc = .ok (.ireturn, 1) → W p l e rm_X0_base s m args below meth c H locs 0 0 Q (F0 m pc ls [.int v])) : ∀ {x0 : Nat} {H : Heap} {locs : List Loc} {ls : Array Slot}, fn_X0_base b σ x0 = some rr → is_Card b x0 → lv_has ls 1 [(0, .ref x0)] → CW D κ b σ H → va_S (sg_A b 892) H0 H locs → W p l e rm_X0_base s m args below meth c H locs 0 0 Q (F0 m 0 ls []) := by
  obtain ⟨hx, hb, hml, hown, hts, hK⟩ := hZ
  intro x0 H locs ls h hx0 hl hC hS
  unfold fn_X0_base at h
  refine lv_bipush (v := 25) hx hb dX0_base_0 (by decide) ?_
  refine lv_bipush (v := 12) hx hb dX0_base_2 (by decide) ?_
  refine lv_aload_n hx hb dX0_base_4 rfl (lv_at hl 0 rfl) ?_
  refine va_get (D := D) (ci := 0) (v := .int (σ.1 x0 2)) (C := RX0) (T := TX0) (N := 3) hx hb hts (wqs inW_X0) hown hK.1 hC.1 (x0 - b) (sg_gCard hx0) rfl 2 (by decide) (hts _ (wq wt_182)) (fun _ h9 => h9) rfl dX0_base_5 ?_
  refine lv_imul hx hb dX0_base_8 ?_
  refine lv_iadd hx hb dX0_base_9 ?_
  exact hret _ _ _ _ _ h hC hS dX0_base_10
set_option maxHeartbeats 4000000 in
set_option maxRecDepth 100000 in
theorem c_X0_base (l : Launch) (D : va_G) (κ : Nat → ClassId) (b : Nat) (σ : Sg) (x0 : Nat) (rr : Int32) (hx0 : is_Card b x0) (h : fn_X0_base b σ x0 = some rr) : Met l yX0_base wsX0_base rm_X0_base (va_Pc [.ref x0] (fun U => KK D κ U ∧ CW D κ b σ U.heap)) (va_Qi (fun (r : Int32) (u : Sg) => r = rr ∧ u = σ) (fun u t => CW D κ b u t.heap) (sg_A b 892)) 0 0 (sg_A b 892) := by
  refine Met.ofW (cc := cX0_base) (maxL := 1) (ret := (some .int)) (by decide) rfl ?_
  intro p e s m args below meth c s₁ B hml hv
  obtain ⟨rfl, hK, hC⟩ := hv
  have hr := B.returns
  have hlocks := B.notSynchronized
  have hl := lv_entry ([.ref x0]) (n := 1) (Nat.le_of_ble_eq_true rfl)
  rw [lg_entry_eq]
  generalize (lg_sl ([.ref x0]) ++ List.replicate (1 - (lg_sl ([.ref x0])).length) Slot.unset).toArray = ls at hl ⊢
  have hl : lv_has ls 1 [(0, .ref x0)] := hl
  exact w_X0_base_B0 ⟨B.exec, B.bytes, hml, findClass_of_methodNamed B.named, atoms_spec (ws := wsX0_base) B.pre, hK⟩ (fun v H locs pc ls hq hC hS hd => W.iret B.exec B.bytes hr (fun t ht hW => ⟨⟨v, _, rfl, ⟨Option.some.inj hq, rfl⟩, CW_e ht hC⟩, hS.F ht⟩) hS.2.2 hd) h hx0 hl hC va_S.rf

-- RecordShelf$Card.size()I
theorem dX0_size_0 : decode cX0_size 0 = .ok (.aload_n 0, 1) := by decide +kernel
theorem dX0_size_1 : decode cX0_size 1 = .ok (.invokevirtual 45, 3) := by decide +kernel
theorem dX0_size_4 : decode cX0_size 4 = .ok (.iconst 1, 1) := by decide +kernel
theorem dX0_size_5 : decode cX0_size 5 = .ok (.iadd, 1) := by decide +kernel
theorem dX0_size_6 : decode cX0_size 6 = .ok (.istore_n 1, 1) := by decide +kernel
theorem dX0_size_7 : decode cX0_size 7 = .ok (.iconst 0, 1) := by decide +kernel
theorem dX0_size_8 : decode cX0_size 8 = .ok (.istore_n 2, 1) := by decide +kernel
theorem dX0_size_9 : decode cX0_size 9 = .ok (.iload_n 2, 1) := by decide +kernel
theorem dX0_size_10 : decode cX0_size 10 = .ok (.aload_n 0, 1) := by decide +kernel
theorem dX0_size_11 : decode cX0_size 11 = .ok (.getfield 22, 3) := by decide +kernel
theorem dX0_size_14 : decode cX0_size 14 = .ok (.if_icmp .ge 21, 3) := by decide +kernel
theorem dX0_size_17 : decode cX0_size 17 = .ok (.iload_n 1, 1) := by decide +kernel
theorem dX0_size_18 : decode cX0_size 18 = .ok (.aload_n 0, 1) := by decide +kernel
theorem dX0_size_19 : decode cX0_size 19 = .ok (.getfield 17, 3) := by decide +kernel
theorem dX0_size_22 : decode cX0_size 22 = .ok (.iload_n 2, 1) := by decide +kernel
theorem dX0_size_23 : decode cX0_size 23 = .ok (.aaload, 1) := by decide +kernel
theorem dX0_size_24 : decode cX0_size 24 = .ok (.invokevirtual 49, 3) := by decide +kernel
theorem dX0_size_27 : decode cX0_size 27 = .ok (.iadd, 1) := by decide +kernel
theorem dX0_size_28 : decode cX0_size 28 = .ok (.istore_n 1, 1) := by decide +kernel
theorem dX0_size_29 : decode cX0_size 29 = .ok (.iinc 2 1, 3) := by decide +kernel
theorem dX0_size_32 : decode cX0_size 32 = .ok (.goto (-23), 3) := by decide +kernel
theorem dX0_size_35 : decode cX0_size 35 = .ok (.iload_n 1, 1) := by decide +kernel
theorem dX0_size_36 : decode cX0_size 36 = .ok (.ireturn, 1) := by decide +kernel
def rm_X0_size : Room := { frames := 2, cells := 0, slots := 0, locals := 42 }
def fn_X0_size_B9b (b : Nat) (σ : Sg) (z9 : Nat → Int32 → Int32 → Option (Int32)) (x0 : Nat) (x1 : Int32) (x2 : Int32) : Option (Int32) :=
  (if ((σ.1 x0 2) : Int32) ≤ x2 then
  some x1
  else (if sg_ib x2 8 then
  ((fn_X1_size b σ (σ.2 (x0 + 2) (sg_x x2))).bind fun r2 =>
  (sg_lt ((x1 + r2) : Int32) fun v3 =>
  (sg_lt (x2 + 1 : Int32) fun v4 =>
  z9 x0 v3 v4)))
  else none))
def fn_X0_size_B9 (b : Nat) (σ : Sg) : Nat → Nat → Int32 → Int32 → Option (Int32)
  | 0 => fun _ _ _ => none
  | n + 1 => fun x0 x1 x2 => fn_X0_size_B9b b σ (fn_X0_size_B9 b σ n) x0 x1 x2
set_option maxHeartbeats 4000000 in
set_option maxRecDepth 100000 in
theorem w_X0_size_B9b {p : Program} {l : Launch} {e : Env} {s : State} {m : MethodId} {args : Array Value} {below : List Frame} {meth : Method} {c : Code} {Q : State → Prop} {D : va_G} {κ : Nat → ClassId} {b : Nat} {H0 : Heap} {rr : Int32} {σ : Sg} (hZ : sg_Z p c s m args D κ cX0_size 3 RX0 wsX0_size) (hret : ∀ (v : Int32) (H : Heap) (locs : List Loc) (pc : Nat) (ls : Array Slot), some v = some rr → CW D κ b σ H → va_S (sg_A b 892) H0 H locs → decode cX0_size pc = .ok (.ireturn, 1) → W p l e rm_X0_size s m args below meth c H locs 0 0 Q (F0 m pc ls [.int v])) {z9 : Nat → Int32 → Int32 → Option (Int32)} (hr9 : ∀ {x0 : Nat} {x1 : Int32} {x2 : Int32} {H : Heap} {locs : List Loc} {ls : Array Slot}, z9 x0 x1 x2 = some rr → is_Card b x0 → lv_has ls 3 [(0, .ref x0), (1, .int x1), (2, .int x2)] → CW D κ b σ H → va_S (sg_A b 892) H0 H locs → W p l e rm_X0_size s m args below meth c H locs 0 0 Q (F0 m 9 ls [])) : ∀ {x0 : Nat} {x1 : Int32} {x2 : Int32} {H : Heap} {locs : List Loc} {ls : Array Slot}, fn_X0_size_B9b b σ z9 x0 x1 x2 = some rr → is_Card b x0 → lv_has ls 3 [(0, .ref x0), (1, .int x1), (2, .int x2)] → CW D κ b σ H → va_S (sg_A b 892) H0 H locs → W p l e rm_X0_size s m args below meth c H locs 0 0 Q (F0 m 9 ls []) := by
  obtain ⟨hx, hb, hml, hown, hts, hK⟩ := hZ
  intro x0 x1 x2 H locs ls h hx0 hl hC hS
  unfold fn_X0_size_B9b at h
  refine lv_iload_n hx hb dX0_size_9 rfl (lv_at hl 2 rfl) ?_
  refine lv_aload_n hx hb dX0_size_10 rfl (lv_at hl 0 rfl) ?_
  refine va_get (D := D) (ci := 0) (v := .int (σ.1 x0 2)) (C := RX0) (T := TX0) (N := 3) hx hb hts (wqs inW_X0) hown hK.1 hC.1 (x0 - b) (sg_gCard hx0) rfl 2 (by decide) (hts _ (wq wt_182)) (fun _ h9 => h9) rfl dX0_size_11 ?_
  refine lv_icmp_ge (tgt := 35) hx hb dX0_size_14 (by decide) (fun hc => ?_) (fun hc => ?_)
  · replace h := (if_pos hc).symm.trans h
    refine lv_iload_n hx hb dX0_size_35 rfl (lv_at hl 1 rfl) ?_
    exact hret _ _ _ _ _ h hC hS dX0_size_36
  · replace h := (if_neg hc).symm.trans h
    refine lv_iload_n hx hb dX0_size_17 rfl (lv_at hl 1 rfl) ?_
    refine lv_aload_n hx hb dX0_size_18 rfl (lv_at hl 0 rfl) ?_
    refine va_get (D := D) (ci := 0) (v := .ref (x0 + 2)) (C := RX0) (T := TX0) (N := 3) hx hb hts (wqs inW_X0) hown hK.1 hC.1 (x0 - b) (sg_gCard hx0) rfl 1 (by decide) (hts _ (wq wt_178)) (fun _ h9 => h9) rfl dX0_size_19 ?_
    refine lv_iload_n hx hb dX0_size_22 rfl (lv_at hl 2 rfl) ?_
    obtain ⟨hg, h⟩ := sg_gd h
    refine va_aldq (C := "RecordShelf$Field") hx hb hK.1 hC.1 ((x0 + 2) - b) 3 (sg_gfields hx0) rfl (sg_in hg) dX0_size_23 ?_
    have hv1 := hC.2 _ hx0 _ hg.2
    refine W.eq (g2 := F0 m 24 ls [.ref (σ.2 (x0 + 2) (sg_x x2)), .int x1]) rfl ?_
    obtain ⟨r2, er2, h⟩ := Option.bind_eq_some_iff.mp h
    refine va_calli (va_runV (As := []) (rest := [.int x1]) ⟨hx, hb, hml, hown, hts⟩ (c_X1_size l D κ b σ (σ.2 (x0 + 2) (sg_x x2)) _ hv1 er2) (cwV 0 hts (gwV wt_499 wt_500 wt_501 wt_7 wt_502) rfl rfl rfl (by decide +kernel) ⟨Nat.le_of_ble_eq_true rfl, Nat.le_of_ble_eq_true rfl⟩) (CW_preV hK hC (sg_gField hv1) rfl) rfl rfl hl.1 rfl (lv_room (Nat.le_of_ble_eq_true rfl)) dX0_size_24 ⟨Nat.zero_le _, Nat.zero_le _⟩) hS (fun _ _ h => h) (fun _ h => h) (fun r u t H locs ht _ hp hB _ _ hS => ?_)
    refine sg_topi hp.1 ?_
    have hC : CW D κ b σ H := CW_b hB ht hp.2
    refine lv_iadd hx hb dX0_size_27 ?_
    obtain ⟨v3, ev3, h⟩ := sg_lte h
    refine sg_topi ev3 ?_
    refine lv_istore_n (lv' := [(1, .int v3), (0, .ref x0), (2, .int x2)]) hx hb dX0_size_28 rfl hl (by decide) rfl (fun ls hl => ?_)
    obtain ⟨v4, ev4, h⟩ := sg_lte h
    refine lv_iinc (v := v4) (lv' := [(2, .int v4), (1, .int v3), (0, .ref x0)]) (k := 2) hx hb dX0_size_29 hl rfl (sg_inc (by decide) ev4) (by decide) rfl (fun ls hl => ?_)
    refine lv_goto (tgt := 9) hx hb dX0_size_32 (by decide) ?_
    exact hr9 h hx0 (lv_sub hl [2, 1, 0] rfl) hC hS
set_option maxHeartbeats 4000000 in
theorem w_X0_size_B9 {p : Program} {l : Launch} {e : Env} {s : State} {m : MethodId} {args : Array Value} {below : List Frame} {meth : Method} {c : Code} {Q : State → Prop} {D : va_G} {κ : Nat → ClassId} {b : Nat} {H0 : Heap} {rr : Int32} {σ : Sg} (hZ : sg_Z p c s m args D κ cX0_size 3 RX0 wsX0_size) (hret : ∀ (v : Int32) (H : Heap) (locs : List Loc) (pc : Nat) (ls : Array Slot), some v = some rr → CW D κ b σ H → va_S (sg_A b 892) H0 H locs → decode cX0_size pc = .ok (.ireturn, 1) → W p l e rm_X0_size s m args below meth c H locs 0 0 Q (F0 m pc ls [.int v])) : ∀ n : Nat, ∀ {x0 : Nat} {x1 : Int32} {x2 : Int32} {H : Heap} {locs : List Loc} {ls : Array Slot}, fn_X0_size_B9 b σ n x0 x1 x2 = some rr → is_Card b x0 → lv_has ls 3 [(0, .ref x0), (1, .int x1), (2, .int x2)] → CW D κ b σ H → va_S (sg_A b 892) H0 H locs → W p l e rm_X0_size s m args below meth c H locs 0 0 Q (F0 m 9 ls []) := by
  intro n
  induction n with
  | zero => intro x0 x1 x2 H locs ls h hx0 hl hC hS; cases (show (none : Option (Int32)) = some rr from h)
  | succ n ih =>
    intro x0 x1 x2 H locs ls h hx0 hl hC hS
    exact w_X0_size_B9b hZ hret ih (show fn_X0_size_B9b b σ (fn_X0_size_B9 b σ n) x0 x1 x2 = some rr from h) hx0 hl hC hS
def fn_X0_size (b : Nat) (σ : Sg) (x0 : Nat) : Option (Int32) :=
  ((fn_X0_base b σ x0).bind fun r1 =>
  (sg_lt ((r1 + 1) : Int32) fun v2 =>
  fn_X0_size_B9 b σ sg_N x0 v2 0))
set_option maxHeartbeats 4000000 in
set_option maxRecDepth 100000 in
theorem w_X0_size_B0 {p : Program} {l : Launch} {e : Env} {s : State} {m : MethodId} {args : Array Value} {below : List Frame} {meth : Method} {c : Code} {Q : State → Prop} {D : va_G} {κ : Nat → ClassId} {b : Nat} {H0 : Heap} {rr : Int32} {σ : Sg} (hZ : sg_Z p c s m args D κ cX0_size 3 RX0 wsX0_size) (hret : ∀ (v : Int32) (H : Heap) (locs : List Loc) (pc : Nat) (ls : Array Slot), some v = some rr → CW D κ b σ H → va_S (sg_A b 892) H0 H locs → decode cX0_size pc = .ok (.ireturn, 1) → W p l e rm_X0_size s m args below meth c H locs 0 0 Q (F0 m pc ls [.int v])) : ∀ {x0 : Nat} {H : Heap} {locs : List Loc} {ls : Array Slot}, fn_X0_size b σ x0 = some rr → is_Card b x0 → lv_has ls 3 [(0, .ref x0)] → CW D κ b σ H → va_S (sg_A b 892) H0 H locs → W p l e rm_X0_size s m args below meth c H locs 0 0 Q (F0 m 0 ls []) := by
  obtain ⟨hx, hb, hml, hown, hts, hK⟩ := hZ
  intro x0 H locs ls h hx0 hl hC hS
  unfold fn_X0_size at h
  refine lv_aload_n hx hb dX0_size_0 rfl (lv_at hl 0 rfl) ?_
  obtain ⟨r1, er1, h⟩ := Option.bind_eq_some_iff.mp h
  refine va_calli (va_runV (As := []) (rest := []) ⟨hx, hb, hml, hown, hts⟩ (c_X0_base l D κ b σ x0 _ hx0 er1) (cwV 0 hts (gwV wt_495 wt_497 wp_20 wt_6 wt_498) rfl rfl rfl (by decide +kernel) ⟨Nat.le_of_ble_eq_true rfl, Nat.le_of_ble_eq_true rfl⟩) (CW_preV hK hC (sg_gCard hx0) rfl) rfl rfl hl.1 rfl (lv_room (Nat.le_of_ble_eq_true rfl)) dX0_size_1 ⟨Nat.zero_le _, Nat.zero_le _⟩) hS (fun _ _ h => h) (fun _ h => h) (fun r u t H locs ht _ hp hB _ _ hS => ?_)
  refine sg_topi hp.1 ?_
  have hC : CW D κ b σ H := CW_b hB ht hp.2
  refine lv_iconst (v := 1) hx hb dX0_size_4 (by decide) ?_
  refine lv_iadd hx hb dX0_size_5 ?_
  obtain ⟨v2, ev2, h⟩ := sg_lte h
  refine sg_topi ev2 ?_
  refine lv_istore_n (lv' := [(1, .int v2), (0, .ref x0)]) hx hb dX0_size_6 rfl hl (by decide) rfl (fun ls hl => ?_)
  refine lv_iconst (v := 0) hx hb dX0_size_7 (by decide) ?_
  refine lv_istore_n (lv' := [(2, .int 0), (1, .int v2), (0, .ref x0)]) hx hb dX0_size_8 rfl hl (by decide) rfl (fun ls hl => ?_)
  exact w_X0_size_B9 ⟨hx, hb, hml, hown, hts, hK⟩ hret  sg_N h hx0 (lv_sub hl [2, 1, 0] rfl) hC hS
set_option maxHeartbeats 4000000 in
set_option maxRecDepth 100000 in
theorem c_X0_size (l : Launch) (D : va_G) (κ : Nat → ClassId) (b : Nat) (σ : Sg) (x0 : Nat) (rr : Int32) (hx0 : is_Card b x0) (h : fn_X0_size b σ x0 = some rr) : Met l yX0_size wsX0_size rm_X0_size (va_Pc [.ref x0] (fun U => KK D κ U ∧ CW D κ b σ U.heap)) (va_Qi (fun (r : Int32) (u : Sg) => r = rr ∧ u = σ) (fun u t => CW D κ b u t.heap) (sg_A b 892)) 0 0 (sg_A b 892) := by
  refine Met.ofW (cc := cX0_size) (maxL := 3) (ret := (some .int)) (by decide) rfl ?_
  intro p e s m args below meth c s₁ B hml hv
  obtain ⟨rfl, hK, hC⟩ := hv
  have hr := B.returns
  have hlocks := B.notSynchronized
  have hl := lv_entry ([.ref x0]) (n := 3) (Nat.le_of_ble_eq_true rfl)
  rw [lg_entry_eq]
  generalize (lg_sl ([.ref x0]) ++ List.replicate (3 - (lg_sl ([.ref x0])).length) Slot.unset).toArray = ls at hl ⊢
  have hl : lv_has ls 3 [(0, .ref x0)] := hl
  exact w_X0_size_B0 ⟨B.exec, B.bytes, hml, findClass_of_methodNamed B.named, atoms_spec (ws := wsX0_size) B.pre, hK⟩ (fun v H locs pc ls hq hC hS hd => W.iret B.exec B.bytes hr (fun t ht hW => ⟨⟨v, _, rfl, ⟨Option.some.inj hq, rfl⟩, CW_e ht hC⟩, hS.F ht⟩) hS.2.2 hd) h hx0 hl hC va_S.rf

-- RecordShelf$Card.putLetters(LRecordShelf$Text;II)V
theorem dX0_putLetters_0 : decode cX0_putLetters 0 = .ok (.iload_n 2, 1) := by decide +kernel
theorem dX0_putLetters_1 : decode cX0_putLetters 1 = .ok (.istore 4, 2) := by decide +kernel
theorem dX0_putLetters_3 : decode cX0_putLetters 3 = .ok (.iload 4, 2) := by decide +kernel
theorem dX0_putLetters_5 : decode cX0_putLetters 5 = .ok (.iload_n 3, 1) := by decide +kernel
theorem dX0_putLetters_6 : decode cX0_putLetters 6 = .ok (.if_icmp .ge 20, 3) := by decide +kernel
theorem dX0_putLetters_9 : decode cX0_putLetters 9 = .ok (.aload_n 1, 1) := by decide +kernel
theorem dX0_putLetters_10 : decode cX0_putLetters 10 = .ok (.aload_n 0, 1) := by decide +kernel
theorem dX0_putLetters_11 : decode cX0_putLetters 11 = .ok (.getfield 9, 3) := by decide +kernel
theorem dX0_putLetters_14 : decode cX0_putLetters 14 = .ok (.iload 4, 2) := by decide +kernel
theorem dX0_putLetters_16 : decode cX0_putLetters 16 = .ok (.caload, 1) := by decide +kernel
theorem dX0_putLetters_17 : decode cX0_putLetters 17 = .ok (.invokevirtual 62, 3) := by decide +kernel
theorem dX0_putLetters_20 : decode cX0_putLetters 20 = .ok (.iinc 4 1, 3) := by decide +kernel
theorem dX0_putLetters_23 : decode cX0_putLetters 23 = .ok (.goto (-20), 3) := by decide +kernel
theorem dX0_putLetters_26 : decode cX0_putLetters 26 = .ok (.return_, 1) := by decide +kernel
def rm_X0_putLetters : Room := { frames := 1, cells := 0, slots := 0, locals := 21 }
def fn_X0_putLetters_B3b (b : Nat) (z3 : Sg → Nat → Int32 → Int32 → Option (Sg)) (σ : Sg) (x0 : Nat) (x3 : Int32) (x4 : Int32) : Option (Sg) :=
  (if (x3 : Int32) ≤ x4 then
  some σ
  else (if sg_ib x4 8 then
  ((fn_X6_add b σ (σ.1 (x0 + 1) (sg_x x4))).bind fun r1 =>
  (sg_lt (x4 + 1 : Int32) fun v2 =>
  z3 r1 x0 x3 v2))
  else none))
def fn_X0_putLetters_B3 (b : Nat) : Nat → Sg → Nat → Int32 → Int32 → Option (Sg)
  | 0 => fun _ _ _ _ => none
  | n + 1 => fun σ x0 x3 x4 => fn_X0_putLetters_B3b b (fn_X0_putLetters_B3 b n) σ x0 x3 x4
set_option maxHeartbeats 4000000 in
set_option maxRecDepth 100000 in
theorem w_X0_putLetters_B3b {p : Program} {l : Launch} {e : Env} {s : State} {m : MethodId} {args : Array Value} {below : List Frame} {meth : Method} {c : Code} {Q : State → Prop} {D : va_G} {κ : Nat → ClassId} {b : Nat} {H0 : Heap} {rr : Sg} (hZ : sg_Z p c s m args D κ cX0_putLetters 5 RX0 wsX0_putLetters) (hret : ∀ (u : Sg) (H : Heap) (locs : List Loc) (pc : Nat) (ls : Array Slot), some u = some rr → CW D κ b u H → va_S (sg_A b 892) H0 H locs → decode cX0_putLetters pc = .ok (.return_, 1) → W p l e rm_X0_putLetters s m args below meth c H locs 0 0 Q (F0 m pc ls [])) {z3 : Sg → Nat → Int32 → Int32 → Option (Sg)} (hr3 : ∀ {σ : Sg} {x0 : Nat} {x3 : Int32} {x4 : Int32} {H : Heap} {locs : List Loc} {ls : Array Slot}, z3 σ x0 x3 x4 = some rr → is_Card b x0 → lv_has ls 5 [(0, .ref x0), (1, .ref (b + 2)), (3, .int x3), (4, .int x4)] → CW D κ b σ H → va_S (sg_A b 892) H0 H locs → W p l e rm_X0_putLetters s m args below meth c H locs 0 0 Q (F0 m 3 ls [])) : ∀ {σ : Sg} {x0 : Nat} {x3 : Int32} {x4 : Int32} {H : Heap} {locs : List Loc} {ls : Array Slot}, fn_X0_putLetters_B3b b z3 σ x0 x3 x4 = some rr → is_Card b x0 → lv_has ls 5 [(0, .ref x0), (1, .ref (b + 2)), (3, .int x3), (4, .int x4)] → CW D κ b σ H → va_S (sg_A b 892) H0 H locs → W p l e rm_X0_putLetters s m args below meth c H locs 0 0 Q (F0 m 3 ls []) := by
  obtain ⟨hx, hb, hml, hown, hts, hK⟩ := hZ
  intro σ x0 x3 x4 H locs ls h hx0 hl hC hS
  unfold fn_X0_putLetters_B3b at h
  refine lv_iload hx hb dX0_putLetters_3 (lv_at hl 3 rfl) ?_
  refine lv_iload_n hx hb dX0_putLetters_5 rfl (lv_at hl 2 rfl) ?_
  refine lv_icmp_ge (tgt := 26) hx hb dX0_putLetters_6 (by decide) (fun hc => ?_) (fun hc => ?_)
  · replace h := (if_pos hc).symm.trans h
    exact hret _ _ _ _ _ h hC hS dX0_putLetters_26
  · replace h := (if_neg hc).symm.trans h
    refine lv_aload_n hx hb dX0_putLetters_9 rfl (lv_at hl 1 rfl) ?_
    refine lv_aload_n hx hb dX0_putLetters_10 rfl (lv_at hl 0 rfl) ?_
    refine va_get (D := D) (ci := 0) (v := .ref (x0 + 1)) (C := RX0) (T := TX0) (N := 3) hx hb hts (wqs inW_X0) hown hK.1 hC.1 (x0 - b) (sg_gCard hx0) rfl 0 (by decide) (hts _ (wq wt_176)) (fun _ h9 => h9) rfl dX0_putLetters_11 ?_
    refine lv_iload hx hb dX0_putLetters_14 (lv_at hl 3 rfl) ?_
    obtain ⟨hg, h⟩ := sg_gd h
    refine va_cald hx hb hK.1 hC.1 ((x0 + 1) - b) 1 (sg_gcletters hx0) rfl (sg_in hg) dX0_putLetters_16 ?_
    obtain ⟨r1, er1, h⟩ := Option.bind_eq_some_iff.mp h
    refine va_callv (va_runV (As := [.int (σ.1 (x0 + 1) (sg_x x4))]) (rest := []) ⟨hx, hb, hml, hown, hts⟩ (c_X6_add l D κ b σ (σ.1 (x0 + 1) (sg_x x4)) _ er1) (cwV 1 hts (gwV wt_523 wt_222 wt_223 wt_3 wt_224) rfl rfl rfl (by decide +kernel) ⟨Nat.le_of_ble_eq_true rfl, Nat.le_of_ble_eq_true rfl⟩) (CW_preV hK hC sg_gText rfl) rfl rfl hl.1 rfl (lv_room (Nat.le_of_ble_eq_true rfl)) dX0_putLetters_17 ⟨Nat.zero_le _, Nat.zero_le _⟩) hS (fun _ _ h => h) (fun _ h => h) (fun u t H locs ht _ hp hB _ _ hS => ?_)
    have hC : CW D κ b r1 H := CW_b hB ht hp
    obtain ⟨v2, ev2, h⟩ := sg_lte h
    refine lv_iinc (v := v2) (lv' := [(4, .int v2), (0, .ref x0), (1, .ref (b + 2)), (3, .int x3)]) (k := 3) hx hb dX0_putLetters_20 hl rfl (sg_inc (by decide) ev2) (by decide) rfl (fun ls hl => ?_)
    refine lv_goto (tgt := 3) hx hb dX0_putLetters_23 (by decide) ?_
    exact hr3 h hx0 (lv_sub hl [1, 2, 3, 0] rfl) hC hS
set_option maxHeartbeats 4000000 in
theorem w_X0_putLetters_B3 {p : Program} {l : Launch} {e : Env} {s : State} {m : MethodId} {args : Array Value} {below : List Frame} {meth : Method} {c : Code} {Q : State → Prop} {D : va_G} {κ : Nat → ClassId} {b : Nat} {H0 : Heap} {rr : Sg} (hZ : sg_Z p c s m args D κ cX0_putLetters 5 RX0 wsX0_putLetters) (hret : ∀ (u : Sg) (H : Heap) (locs : List Loc) (pc : Nat) (ls : Array Slot), some u = some rr → CW D κ b u H → va_S (sg_A b 892) H0 H locs → decode cX0_putLetters pc = .ok (.return_, 1) → W p l e rm_X0_putLetters s m args below meth c H locs 0 0 Q (F0 m pc ls [])) : ∀ n : Nat, ∀ {σ : Sg} {x0 : Nat} {x3 : Int32} {x4 : Int32} {H : Heap} {locs : List Loc} {ls : Array Slot}, fn_X0_putLetters_B3 b n σ x0 x3 x4 = some rr → is_Card b x0 → lv_has ls 5 [(0, .ref x0), (1, .ref (b + 2)), (3, .int x3), (4, .int x4)] → CW D κ b σ H → va_S (sg_A b 892) H0 H locs → W p l e rm_X0_putLetters s m args below meth c H locs 0 0 Q (F0 m 3 ls []) := by
  intro n
  induction n with
  | zero => intro σ x0 x3 x4 H locs ls h hx0 hl hC hS; cases (show (none : Option (Sg)) = some rr from h)
  | succ n ih =>
    intro σ x0 x3 x4 H locs ls h hx0 hl hC hS
    exact w_X0_putLetters_B3b hZ hret ih (show fn_X0_putLetters_B3b b (fn_X0_putLetters_B3 b n) σ x0 x3 x4 = some rr from h) hx0 hl hC hS
def fn_X0_putLetters (b : Nat) (σ : Sg) (x0 : Nat) (x2 : Int32) (x3 : Int32) : Option (Sg) :=
  fn_X0_putLetters_B3 b sg_N σ x0 x3 x2
set_option maxHeartbeats 4000000 in
set_option maxRecDepth 100000 in
theorem w_X0_putLetters_B0 {p : Program} {l : Launch} {e : Env} {s : State} {m : MethodId} {args : Array Value} {below : List Frame} {meth : Method} {c : Code} {Q : State → Prop} {D : va_G} {κ : Nat → ClassId} {b : Nat} {H0 : Heap} {rr : Sg} (hZ : sg_Z p c s m args D κ cX0_putLetters 5 RX0 wsX0_putLetters) (hret : ∀ (u : Sg) (H : Heap) (locs : List Loc) (pc : Nat) (ls : Array Slot), some u = some rr → CW D κ b u H → va_S (sg_A b 892) H0 H locs → decode cX0_putLetters pc = .ok (.return_, 1) → W p l e rm_X0_putLetters s m args below meth c H locs 0 0 Q (F0 m pc ls [])) : ∀ {σ : Sg} {x0 : Nat} {x2 : Int32} {x3 : Int32} {H : Heap} {locs : List Loc} {ls : Array Slot}, fn_X0_putLetters b σ x0 x2 x3 = some rr → is_Card b x0 → lv_has ls 5 [(0, .ref x0), (1, .ref (b + 2)), (2, .int x2), (3, .int x3)] → CW D κ b σ H → va_S (sg_A b 892) H0 H locs → W p l e rm_X0_putLetters s m args below meth c H locs 0 0 Q (F0 m 0 ls []) := by
  obtain ⟨hx, hb, hml, hown, hts, hK⟩ := hZ
  intro σ x0 x2 x3 H locs ls h hx0 hl hC hS
  unfold fn_X0_putLetters at h
  refine lv_iload_n hx hb dX0_putLetters_0 rfl (lv_at hl 2 rfl) ?_
  refine lv_istore (lv' := [(4, .int x2), (0, .ref x0), (1, .ref (b + 2)), (2, .int x2), (3, .int x3)]) hx hb dX0_putLetters_1 hl (by decide) rfl (fun ls hl => ?_)
  exact w_X0_putLetters_B3 ⟨hx, hb, hml, hown, hts, hK⟩ hret  sg_N h hx0 (lv_sub hl [1, 2, 4, 0] rfl) hC hS
set_option maxHeartbeats 4000000 in
set_option maxRecDepth 100000 in
theorem c_X0_putLetters (l : Launch) (D : va_G) (κ : Nat → ClassId) (b : Nat) (σ : Sg) (x0 : Nat) (x2 : Int32) (x3 : Int32) (rr : Sg) (hx0 : is_Card b x0) (h : fn_X0_putLetters b σ x0 x2 x3 = some rr) : Met l yX0_putLetters wsX0_putLetters rm_X0_putLetters (va_Pc [.ref x0, .ref (b + 2), .int x2, .int x3] (fun U => KK D κ U ∧ CW D κ b σ U.heap)) (va_Qv (fun u : Sg => u = rr) (fun u t => CW D κ b u t.heap) (sg_A b 892)) 0 0 (sg_A b 892) := by
  refine Met.ofW (cc := cX0_putLetters) (maxL := 5) (ret := none) (by decide) rfl ?_
  intro p e s m args below meth c s₁ B hml hv
  obtain ⟨rfl, hK, hC⟩ := hv
  have hr := B.returns
  have hlocks := B.notSynchronized
  have hl := lv_entry ([.ref x0, .ref (b + 2), .int x2, .int x3]) (n := 5) (Nat.le_of_ble_eq_true rfl)
  rw [lg_entry_eq]
  generalize (lg_sl ([.ref x0, .ref (b + 2), .int x2, .int x3]) ++ List.replicate (5 - (lg_sl ([.ref x0, .ref (b + 2), .int x2, .int x3])).length) Slot.unset).toArray = ls at hl ⊢
  have hl : lv_has ls 5 [(0, .ref x0), (1, .ref (b + 2)), (2, .int x2), (3, .int x3)] := hl
  exact w_X0_putLetters_B0 ⟨B.exec, B.bytes, hml, findClass_of_methodNamed B.named, atoms_spec (ws := wsX0_putLetters) B.pre, hK⟩ (fun u H locs pc ls hq hC hS hd => W.vret B.exec B.bytes hr (fun t ht hW => ⟨⟨_, rfl, Option.some.inj hq, CW_e ht hC⟩, hS.F ht⟩) hS.2.2 hd) h hx0 hl hC va_S.rf

-- RecordShelf$Card.putLeader(LRecordShelf$Text;)V
theorem dX0_putLeader_0 : decode cX0_putLeader 0 = .ok (.aload_n 1, 1) := by decide +kernel
theorem dX0_putLeader_1 : decode cX0_putLeader 1 = .ok (.aload_n 0, 1) := by decide +kernel
theorem dX0_putLeader_2 : decode cX0_putLeader 2 = .ok (.invokevirtual 68, 3) := by decide +kernel
theorem dX0_putLeader_5 : decode cX0_putLeader 5 = .ok (.iconst 5, 1) := by decide +kernel
theorem dX0_putLeader_6 : decode cX0_putLeader 6 = .ok (.invokevirtual 69, 3) := by decide +kernel
theorem dX0_putLeader_9 : decode cX0_putLeader 9 = .ok (.aload_n 0, 1) := by decide +kernel
theorem dX0_putLeader_10 : decode cX0_putLeader 10 = .ok (.aload_n 1, 1) := by decide +kernel
theorem dX0_putLeader_11 : decode cX0_putLeader 11 = .ok (.iconst 0, 1) := by decide +kernel
theorem dX0_putLeader_12 : decode cX0_putLeader 12 = .ok (.iconst 5, 1) := by decide +kernel
theorem dX0_putLeader_13 : decode cX0_putLeader 13 = .ok (.invokevirtual 73, 3) := by decide +kernel
theorem dX0_putLeader_16 : decode cX0_putLeader 16 = .ok (.aload_n 1, 1) := by decide +kernel
theorem dX0_putLeader_17 : decode cX0_putLeader 17 = .ok (.bipush 22, 2) := by decide +kernel
theorem dX0_putLeader_19 : decode cX0_putLeader 19 = .ok (.iconst 2, 1) := by decide +kernel
theorem dX0_putLeader_20 : decode cX0_putLeader 20 = .ok (.invokevirtual 69, 3) := by decide +kernel
theorem dX0_putLeader_23 : decode cX0_putLeader 23 = .ok (.aload_n 1, 1) := by decide +kernel
theorem dX0_putLeader_24 : decode cX0_putLeader 24 = .ok (.aload_n 0, 1) := by decide +kernel
theorem dX0_putLeader_25 : decode cX0_putLeader 25 = .ok (.invokevirtual 45, 3) := by decide +kernel
theorem dX0_putLeader_28 : decode cX0_putLeader 28 = .ok (.iconst 5, 1) := by decide +kernel
theorem dX0_putLeader_29 : decode cX0_putLeader 29 = .ok (.invokevirtual 69, 3) := by decide +kernel
theorem dX0_putLeader_32 : decode cX0_putLeader 32 = .ok (.aload_n 0, 1) := by decide +kernel
theorem dX0_putLeader_33 : decode cX0_putLeader 33 = .ok (.aload_n 1, 1) := by decide +kernel
theorem dX0_putLeader_34 : decode cX0_putLeader 34 = .ok (.iconst 5, 1) := by decide +kernel
theorem dX0_putLeader_35 : decode cX0_putLeader 35 = .ok (.bipush 8, 2) := by decide +kernel
theorem dX0_putLeader_37 : decode cX0_putLeader 37 = .ok (.invokevirtual 73, 3) := by decide +kernel
theorem dX0_putLeader_40 : decode cX0_putLeader 40 = .ok (.aload_n 1, 1) := by decide +kernel
theorem dX0_putLeader_41 : decode cX0_putLeader 41 = .ok (.sipush 4500, 3) := by decide +kernel
theorem dX0_putLeader_44 : decode cX0_putLeader 44 = .ok (.iconst 4, 1) := by decide +kernel
theorem dX0_putLeader_45 : decode cX0_putLeader 45 = .ok (.invokevirtual 69, 3) := by decide +kernel
theorem dX0_putLeader_48 : decode cX0_putLeader 48 = .ok (.return_, 1) := by decide +kernel
def rm_X0_putLeader : Room := { frames := 3, cells := 0, slots := 0, locals := 64 }
def fn_X0_putLeader (b : Nat) (σ : Sg) (x0 : Nat) : Option (Sg) :=
  ((fn_X0_size b σ x0).bind fun r1 =>
  ((fn_X6_addNumber b σ r1 5).bind fun r2 =>
  ((fn_X0_putLetters b r2 x0 0 5).bind fun r3 =>
  ((fn_X6_addNumber b r3 22 2).bind fun r4 =>
  ((fn_X0_base b r4 x0).bind fun r5 =>
  ((fn_X6_addNumber b r4 r5 5).bind fun r6 =>
  ((fn_X0_putLetters b r6 x0 5 8).bind fun r7 =>
  ((fn_X6_addNumber b r7 4500 4).bind fun r8 =>
  some r8))))))))
set_option maxHeartbeats 4000000 in
set_option maxRecDepth 100000 in
theorem w_X0_putLeader_B0 {p : Program} {l : Launch} {e : Env} {s : State} {m : MethodId} {args : Array Value} {below : List Frame} {meth : Method} {c : Code} {Q : State → Prop} {D : va_G} {κ : Nat → ClassId} {b : Nat} {H0 : Heap} {rr : Sg} (hZ : sg_Z p c s m args D κ cX0_putLeader 2 RX0 wsX0_putLeader) (hret : ∀ (u : Sg) (H : Heap) (locs : List Loc) (pc : Nat) (ls : Array Slot), some u = some rr → CW D κ b u H → va_S (sg_A b 892) H0 H locs → decode cX0_putLeader pc = .ok (.return_, 1) → W p l e rm_X0_putLeader s m args below meth c H locs 0 0 Q (F0 m pc ls [])) : ∀ {σ : Sg} {x0 : Nat} {H : Heap} {locs : List Loc} {ls : Array Slot}, fn_X0_putLeader b σ x0 = some rr → is_Card b x0 → lv_has ls 2 [(0, .ref x0), (1, .ref (b + 2))] → CW D κ b σ H → va_S (sg_A b 892) H0 H locs → W p l e rm_X0_putLeader s m args below meth c H locs 0 0 Q (F0 m 0 ls []) := by
  obtain ⟨hx, hb, hml, hown, hts, hK⟩ := hZ
  intro σ x0 H locs ls h hx0 hl hC hS
  unfold fn_X0_putLeader at h
  refine lv_aload_n hx hb dX0_putLeader_0 rfl (lv_at hl 1 rfl) ?_
  refine lv_aload_n hx hb dX0_putLeader_1 rfl (lv_at hl 0 rfl) ?_
  obtain ⟨r1, er1, h⟩ := Option.bind_eq_some_iff.mp h
  refine va_calli (va_runV (As := []) (rest := [.ref (b + 2)]) ⟨hx, hb, hml, hown, hts⟩ (c_X0_size l D κ b σ x0 _ hx0 er1) (cwV 0 hts (gwV wt_512 wt_492 wt_493 wt_6 wt_494) rfl rfl rfl (by decide +kernel) ⟨Nat.le_of_ble_eq_true rfl, Nat.le_of_ble_eq_true rfl⟩) (CW_preV hK hC (sg_gCard hx0) rfl) rfl rfl hl.1 rfl (lv_room (Nat.le_of_ble_eq_true rfl)) dX0_putLeader_2 ⟨Nat.zero_le _, Nat.zero_le _⟩) hS (fun _ _ h => h) (fun _ h => h) (fun r u t H locs ht _ hp hB _ _ hS => ?_)
  refine sg_topi hp.1 ?_
  have hC : CW D κ b σ H := CW_b hB ht hp.2
  refine lv_iconst (v := 5) hx hb dX0_putLeader_5 (by decide) ?_
  obtain ⟨r2, er2, h⟩ := Option.bind_eq_some_iff.mp h
  refine va_callv (va_runV (As := [.int r1, .int 5]) (rest := []) ⟨hx, hb, hml, hown, hts⟩ (c_X6_addNumber l D κ b σ r1 5 _ er2) (cwV 2 hts (gwV wt_513 wt_514 wt_515 wt_3 wt_516) rfl rfl rfl (by decide +kernel) ⟨Nat.le_of_ble_eq_true rfl, Nat.le_of_ble_eq_true rfl⟩) (CW_preV hK hC sg_gText rfl) rfl rfl hl.1 rfl (lv_room (Nat.le_of_ble_eq_true rfl)) dX0_putLeader_6 ⟨Nat.zero_le _, Nat.zero_le _⟩) hS (fun _ _ h => h) (fun _ h => h) (fun u t H locs ht _ hp hB _ _ hS => ?_)
  have hC : CW D κ b r2 H := CW_b hB ht hp
  refine lv_aload_n hx hb dX0_putLeader_9 rfl (lv_at hl 0 rfl) ?_
  refine lv_aload_n hx hb dX0_putLeader_10 rfl (lv_at hl 1 rfl) ?_
  refine lv_iconst (v := 0) hx hb dX0_putLeader_11 (by decide) ?_
  refine lv_iconst (v := 5) hx hb dX0_putLeader_12 (by decide) ?_
  obtain ⟨r3, er3, h⟩ := Option.bind_eq_some_iff.mp h
  refine va_callv (va_runV (As := [.ref (b + 2), .int 0, .int 5]) (rest := []) ⟨hx, hb, hml, hown, hts⟩ (c_X0_putLetters l D κ b r2 x0 0 5 _ hx0 er3) (cwV 3 hts (gwV wt_519 wt_521 wp_22 wt_6 wt_522) rfl rfl rfl (by decide +kernel) ⟨Nat.le_of_ble_eq_true rfl, Nat.le_of_ble_eq_true rfl⟩) (CW_preV hK hC (sg_gCard hx0) rfl) rfl rfl hl.1 rfl (lv_room (Nat.le_of_ble_eq_true rfl)) dX0_putLeader_13 ⟨Nat.zero_le _, Nat.zero_le _⟩) hS (fun _ _ h => h) (fun _ h => h) (fun u t H locs ht _ hp hB _ _ hS => ?_)
  have hC : CW D κ b r3 H := CW_b hB ht hp
  refine lv_aload_n hx hb dX0_putLeader_16 rfl (lv_at hl 1 rfl) ?_
  refine lv_bipush (v := 22) hx hb dX0_putLeader_17 (by decide) ?_
  refine lv_iconst (v := 2) hx hb dX0_putLeader_19 (by decide) ?_
  obtain ⟨r4, er4, h⟩ := Option.bind_eq_some_iff.mp h
  refine va_callv (va_runV (As := [.int 22, .int 2]) (rest := []) ⟨hx, hb, hml, hown, hts⟩ (c_X6_addNumber l D κ b r3 22 2 _ er4) (cwV 2 hts (gwV wt_513 wt_514 wt_515 wt_3 wt_516) rfl rfl rfl (by decide +kernel) ⟨Nat.le_of_ble_eq_true rfl, Nat.le_of_ble_eq_true rfl⟩) (CW_preV hK hC sg_gText rfl) rfl rfl hl.1 rfl (lv_room (Nat.le_of_ble_eq_true rfl)) dX0_putLeader_20 ⟨Nat.zero_le _, Nat.zero_le _⟩) hS (fun _ _ h => h) (fun _ h => h) (fun u t H locs ht _ hp hB _ _ hS => ?_)
  have hC : CW D κ b r4 H := CW_b hB ht hp
  refine lv_aload_n hx hb dX0_putLeader_23 rfl (lv_at hl 1 rfl) ?_
  refine lv_aload_n hx hb dX0_putLeader_24 rfl (lv_at hl 0 rfl) ?_
  obtain ⟨r5, er5, h⟩ := Option.bind_eq_some_iff.mp h
  refine va_calli (va_runV (As := []) (rest := [.ref (b + 2)]) ⟨hx, hb, hml, hown, hts⟩ (c_X0_base l D κ b r4 x0 _ hx0 er5) (cwV 0 hts (gwV wt_495 wt_497 wp_20 wt_6 wt_498) rfl rfl rfl (by decide +kernel) ⟨Nat.le_of_ble_eq_true rfl, Nat.le_of_ble_eq_true rfl⟩) (CW_preV hK hC (sg_gCard hx0) rfl) rfl rfl hl.1 rfl (lv_room (Nat.le_of_ble_eq_true rfl)) dX0_putLeader_25 ⟨Nat.zero_le _, Nat.zero_le _⟩) hS (fun _ _ h => h) (fun _ h => h) (fun r u t H locs ht _ hp hB _ _ hS => ?_)
  refine sg_topi hp.1 ?_
  have hC : CW D κ b r4 H := CW_b hB ht hp.2
  refine lv_iconst (v := 5) hx hb dX0_putLeader_28 (by decide) ?_
  obtain ⟨r6, er6, h⟩ := Option.bind_eq_some_iff.mp h
  refine va_callv (va_runV (As := [.int r5, .int 5]) (rest := []) ⟨hx, hb, hml, hown, hts⟩ (c_X6_addNumber l D κ b r4 r5 5 _ er6) (cwV 2 hts (gwV wt_513 wt_514 wt_515 wt_3 wt_516) rfl rfl rfl (by decide +kernel) ⟨Nat.le_of_ble_eq_true rfl, Nat.le_of_ble_eq_true rfl⟩) (CW_preV hK hC sg_gText rfl) rfl rfl hl.1 rfl (lv_room (Nat.le_of_ble_eq_true rfl)) dX0_putLeader_29 ⟨Nat.zero_le _, Nat.zero_le _⟩) hS (fun _ _ h => h) (fun _ h => h) (fun u t H locs ht _ hp hB _ _ hS => ?_)
  have hC : CW D κ b r6 H := CW_b hB ht hp
  refine lv_aload_n hx hb dX0_putLeader_32 rfl (lv_at hl 0 rfl) ?_
  refine lv_aload_n hx hb dX0_putLeader_33 rfl (lv_at hl 1 rfl) ?_
  refine lv_iconst (v := 5) hx hb dX0_putLeader_34 (by decide) ?_
  refine lv_bipush (v := 8) hx hb dX0_putLeader_35 (by decide) ?_
  obtain ⟨r7, er7, h⟩ := Option.bind_eq_some_iff.mp h
  refine va_callv (va_runV (As := [.ref (b + 2), .int 5, .int 8]) (rest := []) ⟨hx, hb, hml, hown, hts⟩ (c_X0_putLetters l D κ b r6 x0 5 8 _ hx0 er7) (cwV 3 hts (gwV wt_519 wt_521 wp_22 wt_6 wt_522) rfl rfl rfl (by decide +kernel) ⟨Nat.le_of_ble_eq_true rfl, Nat.le_of_ble_eq_true rfl⟩) (CW_preV hK hC (sg_gCard hx0) rfl) rfl rfl hl.1 rfl (lv_room (Nat.le_of_ble_eq_true rfl)) dX0_putLeader_37 ⟨Nat.zero_le _, Nat.zero_le _⟩) hS (fun _ _ h => h) (fun _ h => h) (fun u t H locs ht _ hp hB _ _ hS => ?_)
  have hC : CW D κ b r7 H := CW_b hB ht hp
  refine lv_aload_n hx hb dX0_putLeader_40 rfl (lv_at hl 1 rfl) ?_
  refine lv_sipush (v := 4500) hx hb dX0_putLeader_41 (by decide) ?_
  refine lv_iconst (v := 4) hx hb dX0_putLeader_44 (by decide) ?_
  obtain ⟨r8, er8, h⟩ := Option.bind_eq_some_iff.mp h
  refine va_callv (va_runV (As := [.int 4500, .int 4]) (rest := []) ⟨hx, hb, hml, hown, hts⟩ (c_X6_addNumber l D κ b r7 4500 4 _ er8) (cwV 2 hts (gwV wt_513 wt_514 wt_515 wt_3 wt_516) rfl rfl rfl (by decide +kernel) ⟨Nat.le_of_ble_eq_true rfl, Nat.le_of_ble_eq_true rfl⟩) (CW_preV hK hC sg_gText rfl) rfl rfl hl.1 rfl (lv_room (Nat.le_of_ble_eq_true rfl)) dX0_putLeader_45 ⟨Nat.zero_le _, Nat.zero_le _⟩) hS (fun _ _ h => h) (fun _ h => h) (fun u t H locs ht _ hp hB _ _ hS => ?_)
  have hC : CW D κ b r8 H := CW_b hB ht hp
  exact hret _ _ _ _ _ h hC hS dX0_putLeader_48
set_option maxHeartbeats 4000000 in
set_option maxRecDepth 100000 in
theorem c_X0_putLeader (l : Launch) (D : va_G) (κ : Nat → ClassId) (b : Nat) (σ : Sg) (x0 : Nat) (rr : Sg) (hx0 : is_Card b x0) (h : fn_X0_putLeader b σ x0 = some rr) : Met l yX0_putLeader wsX0_putLeader rm_X0_putLeader (va_Pc [.ref x0, .ref (b + 2)] (fun U => KK D κ U ∧ CW D κ b σ U.heap)) (va_Qv (fun u : Sg => u = rr) (fun u t => CW D κ b u t.heap) (sg_A b 892)) 0 0 (sg_A b 892) := by
  refine Met.ofW (cc := cX0_putLeader) (maxL := 2) (ret := none) (by decide) rfl ?_
  intro p e s m args below meth c s₁ B hml hv
  obtain ⟨rfl, hK, hC⟩ := hv
  have hr := B.returns
  have hlocks := B.notSynchronized
  have hl := lv_entry ([.ref x0, .ref (b + 2)]) (n := 2) (Nat.le_of_ble_eq_true rfl)
  rw [lg_entry_eq]
  generalize (lg_sl ([.ref x0, .ref (b + 2)]) ++ List.replicate (2 - (lg_sl ([.ref x0, .ref (b + 2)])).length) Slot.unset).toArray = ls at hl ⊢
  have hl : lv_has ls 2 [(0, .ref x0), (1, .ref (b + 2))] := hl
  exact w_X0_putLeader_B0 ⟨B.exec, B.bytes, hml, findClass_of_methodNamed B.named, atoms_spec (ws := wsX0_putLeader) B.pre, hK⟩ (fun u H locs pc ls hq hC hS hd => W.vret B.exec B.bytes hr (fun t ht hW => ⟨⟨_, rfl, Option.some.inj hq, CW_e ht hC⟩, hS.F ht⟩) hS.2.2 hd) h hx0 hl hC va_S.rf

-- RecordShelf$Card.putDirectory(LRecordShelf$Text;)V
theorem dX0_putDirectory_0 : decode cX0_putDirectory 0 = .ok (.iconst 0, 1) := by decide +kernel
theorem dX0_putDirectory_1 : decode cX0_putDirectory 1 = .ok (.istore_n 2, 1) := by decide +kernel
theorem dX0_putDirectory_2 : decode cX0_putDirectory 2 = .ok (.iconst 0, 1) := by decide +kernel
theorem dX0_putDirectory_3 : decode cX0_putDirectory 3 = .ok (.istore_n 3, 1) := by decide +kernel
theorem dX0_putDirectory_4 : decode cX0_putDirectory 4 = .ok (.iload_n 3, 1) := by decide +kernel
theorem dX0_putDirectory_5 : decode cX0_putDirectory 5 = .ok (.aload_n 0, 1) := by decide +kernel
theorem dX0_putDirectory_6 : decode cX0_putDirectory 6 = .ok (.getfield 22, 3) := by decide +kernel
theorem dX0_putDirectory_9 : decode cX0_putDirectory 9 = .ok (.if_icmp .ge 55, 3) := by decide +kernel
theorem dX0_putDirectory_12 : decode cX0_putDirectory 12 = .ok (.aload_n 1, 1) := by decide +kernel
theorem dX0_putDirectory_13 : decode cX0_putDirectory 13 = .ok (.aload_n 0, 1) := by decide +kernel
theorem dX0_putDirectory_14 : decode cX0_putDirectory 14 = .ok (.getfield 17, 3) := by decide +kernel
theorem dX0_putDirectory_17 : decode cX0_putDirectory 17 = .ok (.iload_n 3, 1) := by decide +kernel
theorem dX0_putDirectory_18 : decode cX0_putDirectory 18 = .ok (.aaload, 1) := by decide +kernel
theorem dX0_putDirectory_19 : decode cX0_putDirectory 19 = .ok (.getfield 38, 3) := by decide +kernel
theorem dX0_putDirectory_22 : decode cX0_putDirectory 22 = .ok (.iconst 3, 1) := by decide +kernel
theorem dX0_putDirectory_23 : decode cX0_putDirectory 23 = .ok (.invokevirtual 69, 3) := by decide +kernel
theorem dX0_putDirectory_26 : decode cX0_putDirectory 26 = .ok (.aload_n 1, 1) := by decide +kernel
theorem dX0_putDirectory_27 : decode cX0_putDirectory 27 = .ok (.aload_n 0, 1) := by decide +kernel
theorem dX0_putDirectory_28 : decode cX0_putDirectory 28 = .ok (.getfield 17, 3) := by decide +kernel
theorem dX0_putDirectory_31 : decode cX0_putDirectory 31 = .ok (.iload_n 3, 1) := by decide +kernel
theorem dX0_putDirectory_32 : decode cX0_putDirectory 32 = .ok (.aaload, 1) := by decide +kernel
theorem dX0_putDirectory_33 : decode cX0_putDirectory 33 = .ok (.invokevirtual 49, 3) := by decide +kernel
theorem dX0_putDirectory_36 : decode cX0_putDirectory 36 = .ok (.iconst 4, 1) := by decide +kernel
theorem dX0_putDirectory_37 : decode cX0_putDirectory 37 = .ok (.invokevirtual 69, 3) := by decide +kernel
theorem dX0_putDirectory_40 : decode cX0_putDirectory 40 = .ok (.aload_n 1, 1) := by decide +kernel
theorem dX0_putDirectory_41 : decode cX0_putDirectory 41 = .ok (.iload_n 2, 1) := by decide +kernel
theorem dX0_putDirectory_42 : decode cX0_putDirectory 42 = .ok (.iconst 5, 1) := by decide +kernel
theorem dX0_putDirectory_43 : decode cX0_putDirectory 43 = .ok (.invokevirtual 69, 3) := by decide +kernel
theorem dX0_putDirectory_46 : decode cX0_putDirectory 46 = .ok (.iload_n 2, 1) := by decide +kernel
theorem dX0_putDirectory_47 : decode cX0_putDirectory 47 = .ok (.aload_n 0, 1) := by decide +kernel
theorem dX0_putDirectory_48 : decode cX0_putDirectory 48 = .ok (.getfield 17, 3) := by decide +kernel
theorem dX0_putDirectory_51 : decode cX0_putDirectory 51 = .ok (.iload_n 3, 1) := by decide +kernel
theorem dX0_putDirectory_52 : decode cX0_putDirectory 52 = .ok (.aaload, 1) := by decide +kernel
theorem dX0_putDirectory_53 : decode cX0_putDirectory 53 = .ok (.invokevirtual 49, 3) := by decide +kernel
theorem dX0_putDirectory_56 : decode cX0_putDirectory 56 = .ok (.iadd, 1) := by decide +kernel
theorem dX0_putDirectory_57 : decode cX0_putDirectory 57 = .ok (.istore_n 2, 1) := by decide +kernel
theorem dX0_putDirectory_58 : decode cX0_putDirectory 58 = .ok (.iinc 3 1, 3) := by decide +kernel
theorem dX0_putDirectory_61 : decode cX0_putDirectory 61 = .ok (.goto (-57), 3) := by decide +kernel
theorem dX0_putDirectory_64 : decode cX0_putDirectory 64 = .ok (.aload_n 1, 1) := by decide +kernel
theorem dX0_putDirectory_65 : decode cX0_putDirectory 65 = .ok (.bipush 30, 2) := by decide +kernel
theorem dX0_putDirectory_67 : decode cX0_putDirectory 67 = .ok (.invokevirtual 62, 3) := by decide +kernel
theorem dX0_putDirectory_70 : decode cX0_putDirectory 70 = .ok (.return_, 1) := by decide +kernel
def rm_X0_putDirectory : Room := { frames := 2, cells := 0, slots := 0, locals := 46 }
def fn_X0_putDirectory_B4b (b : Nat) (z4 : Sg → Nat → Int32 → Int32 → Option (Sg)) (σ : Sg) (x0 : Nat) (x2 : Int32) (x3 : Int32) : Option (Sg) :=
  (if ((σ.1 x0 2) : Int32) ≤ x3 then
  ((fn_X6_add b σ 30).bind fun r1 =>
  some r1)
  else (if sg_ib x3 8 then
  ((fn_X6_addNumber b σ (σ.1 (σ.2 (x0 + 2) (sg_x x3)) 2) 3).bind fun r3 =>
  (if sg_ib x3 8 then
  ((fn_X1_size b r3 (r3.2 (x0 + 2) (sg_x x3))).bind fun r5 =>
  ((fn_X6_addNumber b r3 r5 4).bind fun r6 =>
  ((fn_X6_addNumber b r6 x2 5).bind fun r7 =>
  (if sg_ib x3 8 then
  ((fn_X1_size b r7 (r7.2 (x0 + 2) (sg_x x3))).bind fun r9 =>
  (sg_lt ((x2 + r9) : Int32) fun v10 =>
  (sg_lt (x3 + 1 : Int32) fun v11 =>
  z4 r7 x0 v10 v11)))
  else none))))
  else none))
  else none))
def fn_X0_putDirectory_B4 (b : Nat) : Nat → Sg → Nat → Int32 → Int32 → Option (Sg)
  | 0 => fun _ _ _ _ => none
  | n + 1 => fun σ x0 x2 x3 => fn_X0_putDirectory_B4b b (fn_X0_putDirectory_B4 b n) σ x0 x2 x3
set_option maxHeartbeats 4000000 in
set_option maxRecDepth 100000 in
theorem w_X0_putDirectory_B4b {p : Program} {l : Launch} {e : Env} {s : State} {m : MethodId} {args : Array Value} {below : List Frame} {meth : Method} {c : Code} {Q : State → Prop} {D : va_G} {κ : Nat → ClassId} {b : Nat} {H0 : Heap} {rr : Sg} (hZ : sg_Z p c s m args D κ cX0_putDirectory 4 RX0 wsX0_putDirectory) (hret : ∀ (u : Sg) (H : Heap) (locs : List Loc) (pc : Nat) (ls : Array Slot), some u = some rr → CW D κ b u H → va_S (sg_A b 892) H0 H locs → decode cX0_putDirectory pc = .ok (.return_, 1) → W p l e rm_X0_putDirectory s m args below meth c H locs 0 0 Q (F0 m pc ls [])) {z4 : Sg → Nat → Int32 → Int32 → Option (Sg)} (hr4 : ∀ {σ : Sg} {x0 : Nat} {x2 : Int32} {x3 : Int32} {H : Heap} {locs : List Loc} {ls : Array Slot}, z4 σ x0 x2 x3 = some rr → is_Card b x0 → lv_has ls 4 [(0, .ref x0), (1, .ref (b + 2)), (2, .int x2), (3, .int x3)] → CW D κ b σ H → va_S (sg_A b 892) H0 H locs → W p l e rm_X0_putDirectory s m args below meth c H locs 0 0 Q (F0 m 4 ls [])) : ∀ {σ : Sg} {x0 : Nat} {x2 : Int32} {x3 : Int32} {H : Heap} {locs : List Loc} {ls : Array Slot}, fn_X0_putDirectory_B4b b z4 σ x0 x2 x3 = some rr → is_Card b x0 → lv_has ls 4 [(0, .ref x0), (1, .ref (b + 2)), (2, .int x2), (3, .int x3)] → CW D κ b σ H → va_S (sg_A b 892) H0 H locs → W p l e rm_X0_putDirectory s m args below meth c H locs 0 0 Q (F0 m 4 ls []) := by
  obtain ⟨hx, hb, hml, hown, hts, hK⟩ := hZ
  intro σ x0 x2 x3 H locs ls h hx0 hl hC hS
  unfold fn_X0_putDirectory_B4b at h
  refine lv_iload_n hx hb dX0_putDirectory_4 rfl (lv_at hl 3 rfl) ?_
  refine lv_aload_n hx hb dX0_putDirectory_5 rfl (lv_at hl 0 rfl) ?_
  refine va_get (D := D) (ci := 0) (v := .int (σ.1 x0 2)) (C := RX0) (T := TX0) (N := 3) hx hb hts (wqs inW_X0) hown hK.1 hC.1 (x0 - b) (sg_gCard hx0) rfl 2 (by decide) (hts _ (wq wt_182)) (fun _ h9 => h9) rfl dX0_putDirectory_6 ?_
  refine lv_icmp_ge (tgt := 64) hx hb dX0_putDirectory_9 (by decide) (fun hc => ?_) (fun hc => ?_)
  · replace h := (if_pos hc).symm.trans h
    refine lv_aload_n hx hb dX0_putDirectory_64 rfl (lv_at hl 1 rfl) ?_
    refine lv_bipush (v := 30) hx hb dX0_putDirectory_65 (by decide) ?_
    obtain ⟨r1, er1, h⟩ := Option.bind_eq_some_iff.mp h
    refine va_callv (va_runV (As := [.int 30]) (rest := []) ⟨hx, hb, hml, hown, hts⟩ (c_X6_add l D κ b σ 30 _ er1) (cwV 1 hts (gwV wt_523 wt_222 wt_223 wt_3 wt_224) rfl rfl rfl (by decide +kernel) ⟨Nat.le_of_ble_eq_true rfl, Nat.le_of_ble_eq_true rfl⟩) (CW_preV hK hC sg_gText rfl) rfl rfl hl.1 rfl (lv_room (Nat.le_of_ble_eq_true rfl)) dX0_putDirectory_67 ⟨Nat.zero_le _, Nat.zero_le _⟩) hS (fun _ _ h => h) (fun _ h => h) (fun u t H locs ht _ hp hB _ _ hS => ?_)
    have hC : CW D κ b r1 H := CW_b hB ht hp
    exact hret _ _ _ _ _ h hC hS dX0_putDirectory_70
  · replace h := (if_neg hc).symm.trans h
    refine lv_aload_n hx hb dX0_putDirectory_12 rfl (lv_at hl 1 rfl) ?_
    refine lv_aload_n hx hb dX0_putDirectory_13 rfl (lv_at hl 0 rfl) ?_
    refine va_get (D := D) (ci := 0) (v := .ref (x0 + 2)) (C := RX0) (T := TX0) (N := 3) hx hb hts (wqs inW_X0) hown hK.1 hC.1 (x0 - b) (sg_gCard hx0) rfl 1 (by decide) (hts _ (wq wt_178)) (fun _ h9 => h9) rfl dX0_putDirectory_14 ?_
    refine lv_iload_n hx hb dX0_putDirectory_17 rfl (lv_at hl 3 rfl) ?_
    obtain ⟨hg, h⟩ := sg_gd h
    refine va_aldq (C := "RecordShelf$Field") hx hb hK.1 hC.1 ((x0 + 2) - b) 3 (sg_gfields hx0) rfl (sg_in hg) dX0_putDirectory_18 ?_
    have hv2 := hC.2 _ hx0 _ hg.2
    refine W.eq (g2 := F0 m 19 ls [.ref (σ.2 (x0 + 2) (sg_x x3)), .ref (b + 2)]) rfl ?_
    refine va_getN (D := D) (ci := 1) (v := .int (σ.1 (σ.2 (x0 + 2) (sg_x x3)) 2)) (C := RX1) (T := TX1) (N := 5) hx hb hts (wqs inW_X1) hown hK.1 hC.1 ((σ.2 (x0 + 2) (sg_x x3)) - b) (sg_gField hv2) rfl 2 (by decide) (nf_19 hK) (fun _ h9 => h9) rfl dX0_putDirectory_19 ?_
    refine lv_iconst (v := 3) hx hb dX0_putDirectory_22 (by decide) ?_
    obtain ⟨r3, er3, h⟩ := Option.bind_eq_some_iff.mp h
    refine va_callv (va_runV (As := [.int (σ.1 (σ.2 (x0 + 2) (sg_x x3)) 2), .int 3]) (rest := []) ⟨hx, hb, hml, hown, hts⟩ (c_X6_addNumber l D κ b σ (σ.1 (σ.2 (x0 + 2) (sg_x x3)) 2) 3 _ er3) (cwV 2 hts (gwV wt_513 wt_514 wt_515 wt_3 wt_516) rfl rfl rfl (by decide +kernel) ⟨Nat.le_of_ble_eq_true rfl, Nat.le_of_ble_eq_true rfl⟩) (CW_preV hK hC sg_gText rfl) rfl rfl hl.1 rfl (lv_room (Nat.le_of_ble_eq_true rfl)) dX0_putDirectory_23 ⟨Nat.zero_le _, Nat.zero_le _⟩) hS (fun _ _ h => h) (fun _ h => h) (fun u t H locs ht _ hp hB _ _ hS => ?_)
    have hC : CW D κ b r3 H := CW_b hB ht hp
    refine lv_aload_n hx hb dX0_putDirectory_26 rfl (lv_at hl 1 rfl) ?_
    refine lv_aload_n hx hb dX0_putDirectory_27 rfl (lv_at hl 0 rfl) ?_
    refine va_get (D := D) (ci := 0) (v := .ref (x0 + 2)) (C := RX0) (T := TX0) (N := 3) hx hb hts (wqs inW_X0) hown hK.1 hC.1 (x0 - b) (sg_gCard hx0) rfl 1 (by decide) (hts _ (wq wt_178)) (fun _ h9 => h9) rfl dX0_putDirectory_28 ?_
    refine lv_iload_n hx hb dX0_putDirectory_31 rfl (lv_at hl 3 rfl) ?_
    obtain ⟨hg, h⟩ := sg_gd h
    refine va_aldq (C := "RecordShelf$Field") hx hb hK.1 hC.1 ((x0 + 2) - b) 3 (sg_gfields hx0) rfl (sg_in hg) dX0_putDirectory_32 ?_
    have hv4 := hC.2 _ hx0 _ hg.2
    refine W.eq (g2 := F0 m 33 ls [.ref (r3.2 (x0 + 2) (sg_x x3)), .ref (b + 2)]) rfl ?_
    obtain ⟨r5, er5, h⟩ := Option.bind_eq_some_iff.mp h
    refine va_calli (va_runV (As := []) (rest := [.ref (b + 2)]) ⟨hx, hb, hml, hown, hts⟩ (c_X1_size l D κ b r3 (r3.2 (x0 + 2) (sg_x x3)) _ hv4 er5) (cwV 0 hts (gwV wt_499 wt_500 wt_501 wt_7 wt_502) rfl rfl rfl (by decide +kernel) ⟨Nat.le_of_ble_eq_true rfl, Nat.le_of_ble_eq_true rfl⟩) (CW_preV hK hC (sg_gField hv4) rfl) rfl rfl hl.1 rfl (lv_room (Nat.le_of_ble_eq_true rfl)) dX0_putDirectory_33 ⟨Nat.zero_le _, Nat.zero_le _⟩) hS (fun _ _ h => h) (fun _ h => h) (fun r u t H locs ht _ hp hB _ _ hS => ?_)
    refine sg_topi hp.1 ?_
    have hC : CW D κ b r3 H := CW_b hB ht hp.2
    refine lv_iconst (v := 4) hx hb dX0_putDirectory_36 (by decide) ?_
    obtain ⟨r6, er6, h⟩ := Option.bind_eq_some_iff.mp h
    refine va_callv (va_runV (As := [.int r5, .int 4]) (rest := []) ⟨hx, hb, hml, hown, hts⟩ (c_X6_addNumber l D κ b r3 r5 4 _ er6) (cwV 2 hts (gwV wt_513 wt_514 wt_515 wt_3 wt_516) rfl rfl rfl (by decide +kernel) ⟨Nat.le_of_ble_eq_true rfl, Nat.le_of_ble_eq_true rfl⟩) (CW_preV hK hC sg_gText rfl) rfl rfl hl.1 rfl (lv_room (Nat.le_of_ble_eq_true rfl)) dX0_putDirectory_37 ⟨Nat.zero_le _, Nat.zero_le _⟩) hS (fun _ _ h => h) (fun _ h => h) (fun u t H locs ht _ hp hB _ _ hS => ?_)
    have hC : CW D κ b r6 H := CW_b hB ht hp
    refine lv_aload_n hx hb dX0_putDirectory_40 rfl (lv_at hl 1 rfl) ?_
    refine lv_iload_n hx hb dX0_putDirectory_41 rfl (lv_at hl 2 rfl) ?_
    refine lv_iconst (v := 5) hx hb dX0_putDirectory_42 (by decide) ?_
    obtain ⟨r7, er7, h⟩ := Option.bind_eq_some_iff.mp h
    refine va_callv (va_runV (As := [.int x2, .int 5]) (rest := []) ⟨hx, hb, hml, hown, hts⟩ (c_X6_addNumber l D κ b r6 x2 5 _ er7) (cwV 2 hts (gwV wt_513 wt_514 wt_515 wt_3 wt_516) rfl rfl rfl (by decide +kernel) ⟨Nat.le_of_ble_eq_true rfl, Nat.le_of_ble_eq_true rfl⟩) (CW_preV hK hC sg_gText rfl) rfl rfl hl.1 rfl (lv_room (Nat.le_of_ble_eq_true rfl)) dX0_putDirectory_43 ⟨Nat.zero_le _, Nat.zero_le _⟩) hS (fun _ _ h => h) (fun _ h => h) (fun u t H locs ht _ hp hB _ _ hS => ?_)
    have hC : CW D κ b r7 H := CW_b hB ht hp
    refine lv_iload_n hx hb dX0_putDirectory_46 rfl (lv_at hl 2 rfl) ?_
    refine lv_aload_n hx hb dX0_putDirectory_47 rfl (lv_at hl 0 rfl) ?_
    refine va_get (D := D) (ci := 0) (v := .ref (x0 + 2)) (C := RX0) (T := TX0) (N := 3) hx hb hts (wqs inW_X0) hown hK.1 hC.1 (x0 - b) (sg_gCard hx0) rfl 1 (by decide) (hts _ (wq wt_178)) (fun _ h9 => h9) rfl dX0_putDirectory_48 ?_
    refine lv_iload_n hx hb dX0_putDirectory_51 rfl (lv_at hl 3 rfl) ?_
    obtain ⟨hg, h⟩ := sg_gd h
    refine va_aldq (C := "RecordShelf$Field") hx hb hK.1 hC.1 ((x0 + 2) - b) 3 (sg_gfields hx0) rfl (sg_in hg) dX0_putDirectory_52 ?_
    have hv8 := hC.2 _ hx0 _ hg.2
    refine W.eq (g2 := F0 m 53 ls [.ref (r7.2 (x0 + 2) (sg_x x3)), .int x2]) rfl ?_
    obtain ⟨r9, er9, h⟩ := Option.bind_eq_some_iff.mp h
    refine va_calli (va_runV (As := []) (rest := [.int x2]) ⟨hx, hb, hml, hown, hts⟩ (c_X1_size l D κ b r7 (r7.2 (x0 + 2) (sg_x x3)) _ hv8 er9) (cwV 0 hts (gwV wt_499 wt_500 wt_501 wt_7 wt_502) rfl rfl rfl (by decide +kernel) ⟨Nat.le_of_ble_eq_true rfl, Nat.le_of_ble_eq_true rfl⟩) (CW_preV hK hC (sg_gField hv8) rfl) rfl rfl hl.1 rfl (lv_room (Nat.le_of_ble_eq_true rfl)) dX0_putDirectory_53 ⟨Nat.zero_le _, Nat.zero_le _⟩) hS (fun _ _ h => h) (fun _ h => h) (fun r u t H locs ht _ hp hB _ _ hS => ?_)
    refine sg_topi hp.1 ?_
    have hC : CW D κ b r7 H := CW_b hB ht hp.2
    refine lv_iadd hx hb dX0_putDirectory_56 ?_
    obtain ⟨v10, ev10, h⟩ := sg_lte h
    refine sg_topi ev10 ?_
    refine lv_istore_n (lv' := [(2, .int v10), (0, .ref x0), (1, .ref (b + 2)), (3, .int x3)]) hx hb dX0_putDirectory_57 rfl hl (by decide) rfl (fun ls hl => ?_)
    obtain ⟨v11, ev11, h⟩ := sg_lte h
    refine lv_iinc (v := v11) (lv' := [(3, .int v11), (2, .int v10), (0, .ref x0), (1, .ref (b + 2))]) (k := 3) hx hb dX0_putDirectory_58 hl rfl (sg_inc (by decide) ev11) (by decide) rfl (fun ls hl => ?_)
    refine lv_goto (tgt := 4) hx hb dX0_putDirectory_61 (by decide) ?_
    exact hr4 h hx0 (lv_sub hl [2, 3, 1, 0] rfl) hC hS
set_option maxHeartbeats 4000000 in
theorem w_X0_putDirectory_B4 {p : Program} {l : Launch} {e : Env} {s : State} {m : MethodId} {args : Array Value} {below : List Frame} {meth : Method} {c : Code} {Q : State → Prop} {D : va_G} {κ : Nat → ClassId} {b : Nat} {H0 : Heap} {rr : Sg} (hZ : sg_Z p c s m args D κ cX0_putDirectory 4 RX0 wsX0_putDirectory) (hret : ∀ (u : Sg) (H : Heap) (locs : List Loc) (pc : Nat) (ls : Array Slot), some u = some rr → CW D κ b u H → va_S (sg_A b 892) H0 H locs → decode cX0_putDirectory pc = .ok (.return_, 1) → W p l e rm_X0_putDirectory s m args below meth c H locs 0 0 Q (F0 m pc ls [])) : ∀ n : Nat, ∀ {σ : Sg} {x0 : Nat} {x2 : Int32} {x3 : Int32} {H : Heap} {locs : List Loc} {ls : Array Slot}, fn_X0_putDirectory_B4 b n σ x0 x2 x3 = some rr → is_Card b x0 → lv_has ls 4 [(0, .ref x0), (1, .ref (b + 2)), (2, .int x2), (3, .int x3)] → CW D κ b σ H → va_S (sg_A b 892) H0 H locs → W p l e rm_X0_putDirectory s m args below meth c H locs 0 0 Q (F0 m 4 ls []) := by
  intro n
  induction n with
  | zero => intro σ x0 x2 x3 H locs ls h hx0 hl hC hS; cases (show (none : Option (Sg)) = some rr from h)
  | succ n ih =>
    intro σ x0 x2 x3 H locs ls h hx0 hl hC hS
    exact w_X0_putDirectory_B4b hZ hret ih (show fn_X0_putDirectory_B4b b (fn_X0_putDirectory_B4 b n) σ x0 x2 x3 = some rr from h) hx0 hl hC hS
def fn_X0_putDirectory (b : Nat) (σ : Sg) (x0 : Nat) : Option (Sg) :=
  fn_X0_putDirectory_B4 b sg_N σ x0 0 0
set_option maxHeartbeats 4000000 in
set_option maxRecDepth 100000 in
theorem w_X0_putDirectory_B0 {p : Program} {l : Launch} {e : Env} {s : State} {m : MethodId} {args : Array Value} {below : List Frame} {meth : Method} {c : Code} {Q : State → Prop} {D : va_G} {κ : Nat → ClassId} {b : Nat} {H0 : Heap} {rr : Sg} (hZ : sg_Z p c s m args D κ cX0_putDirectory 4 RX0 wsX0_putDirectory) (hret : ∀ (u : Sg) (H : Heap) (locs : List Loc) (pc : Nat) (ls : Array Slot), some u = some rr → CW D κ b u H → va_S (sg_A b 892) H0 H locs → decode cX0_putDirectory pc = .ok (.return_, 1) → W p l e rm_X0_putDirectory s m args below meth c H locs 0 0 Q (F0 m pc ls [])) : ∀ {σ : Sg} {x0 : Nat} {H : Heap} {locs : List Loc} {ls : Array Slot}, fn_X0_putDirectory b σ x0 = some rr → is_Card b x0 → lv_has ls 4 [(0, .ref x0), (1, .ref (b + 2))] → CW D κ b σ H → va_S (sg_A b 892) H0 H locs → W p l e rm_X0_putDirectory s m args below meth c H locs 0 0 Q (F0 m 0 ls []) := by
  obtain ⟨hx, hb, hml, hown, hts, hK⟩ := hZ
  intro σ x0 H locs ls h hx0 hl hC hS
  unfold fn_X0_putDirectory at h
  refine lv_iconst (v := 0) hx hb dX0_putDirectory_0 (by decide) ?_
  refine lv_istore_n (lv' := [(2, .int 0), (0, .ref x0), (1, .ref (b + 2))]) hx hb dX0_putDirectory_1 rfl hl (by decide) rfl (fun ls hl => ?_)
  refine lv_iconst (v := 0) hx hb dX0_putDirectory_2 (by decide) ?_
  refine lv_istore_n (lv' := [(3, .int 0), (2, .int 0), (0, .ref x0), (1, .ref (b + 2))]) hx hb dX0_putDirectory_3 rfl hl (by decide) rfl (fun ls hl => ?_)
  exact w_X0_putDirectory_B4 ⟨hx, hb, hml, hown, hts, hK⟩ hret  sg_N h hx0 (lv_sub hl [2, 3, 1, 0] rfl) hC hS
set_option maxHeartbeats 4000000 in
set_option maxRecDepth 100000 in
theorem c_X0_putDirectory (l : Launch) (D : va_G) (κ : Nat → ClassId) (b : Nat) (σ : Sg) (x0 : Nat) (rr : Sg) (hx0 : is_Card b x0) (h : fn_X0_putDirectory b σ x0 = some rr) : Met l yX0_putDirectory wsX0_putDirectory rm_X0_putDirectory (va_Pc [.ref x0, .ref (b + 2)] (fun U => KK D κ U ∧ CW D κ b σ U.heap)) (va_Qv (fun u : Sg => u = rr) (fun u t => CW D κ b u t.heap) (sg_A b 892)) 0 0 (sg_A b 892) := by
  refine Met.ofW (cc := cX0_putDirectory) (maxL := 4) (ret := none) (by decide) rfl ?_
  intro p e s m args below meth c s₁ B hml hv
  obtain ⟨rfl, hK, hC⟩ := hv
  have hr := B.returns
  have hlocks := B.notSynchronized
  have hl := lv_entry ([.ref x0, .ref (b + 2)]) (n := 4) (Nat.le_of_ble_eq_true rfl)
  rw [lg_entry_eq]
  generalize (lg_sl ([.ref x0, .ref (b + 2)]) ++ List.replicate (4 - (lg_sl ([.ref x0, .ref (b + 2)])).length) Slot.unset).toArray = ls at hl ⊢
  have hl : lv_has ls 4 [(0, .ref x0), (1, .ref (b + 2))] := hl
  exact w_X0_putDirectory_B0 ⟨B.exec, B.bytes, hml, findClass_of_methodNamed B.named, atoms_spec (ws := wsX0_putDirectory) B.pre, hK⟩ (fun u H locs pc ls hq hC hS hd => W.vret B.exec B.bytes hr (fun t ht hW => ⟨⟨_, rfl, Option.some.inj hq, CW_e ht hC⟩, hS.F ht⟩) hS.2.2 hd) h hx0 hl hC va_S.rf

-- RecordShelf$Card.putInto(LRecordShelf$Text;)V
theorem dX0_putInto_0 : decode cX0_putInto 0 = .ok (.aload_n 0, 1) := by decide +kernel
theorem dX0_putInto_1 : decode cX0_putInto 1 = .ok (.aload_n 1, 1) := by decide +kernel
theorem dX0_putInto_2 : decode cX0_putInto 2 = .ok (.invokevirtual 52, 3) := by decide +kernel
theorem dX0_putInto_5 : decode cX0_putInto 5 = .ok (.aload_n 0, 1) := by decide +kernel
theorem dX0_putInto_6 : decode cX0_putInto 6 = .ok (.aload_n 1, 1) := by decide +kernel
theorem dX0_putInto_7 : decode cX0_putInto 7 = .ok (.invokevirtual 56, 3) := by decide +kernel
theorem dX0_putInto_10 : decode cX0_putInto 10 = .ok (.iconst 0, 1) := by decide +kernel
theorem dX0_putInto_11 : decode cX0_putInto 11 = .ok (.istore_n 2, 1) := by decide +kernel
theorem dX0_putInto_12 : decode cX0_putInto 12 = .ok (.iload_n 2, 1) := by decide +kernel
theorem dX0_putInto_13 : decode cX0_putInto 13 = .ok (.aload_n 0, 1) := by decide +kernel
theorem dX0_putInto_14 : decode cX0_putInto 14 = .ok (.getfield 22, 3) := by decide +kernel
theorem dX0_putInto_17 : decode cX0_putInto 17 = .ok (.if_icmp .ge 19, 3) := by decide +kernel
theorem dX0_putInto_20 : decode cX0_putInto 20 = .ok (.aload_n 0, 1) := by decide +kernel
theorem dX0_putInto_21 : decode cX0_putInto 21 = .ok (.getfield 17, 3) := by decide +kernel
theorem dX0_putInto_24 : decode cX0_putInto 24 = .ok (.iload_n 2, 1) := by decide +kernel
theorem dX0_putInto_25 : decode cX0_putInto 25 = .ok (.aaload, 1) := by decide +kernel
theorem dX0_putInto_26 : decode cX0_putInto 26 = .ok (.aload_n 1, 1) := by decide +kernel
theorem dX0_putInto_27 : decode cX0_putInto 27 = .ok (.invokevirtual 59, 3) := by decide +kernel
theorem dX0_putInto_30 : decode cX0_putInto 30 = .ok (.iinc 2 1, 3) := by decide +kernel
theorem dX0_putInto_33 : decode cX0_putInto 33 = .ok (.goto (-21), 3) := by decide +kernel
theorem dX0_putInto_36 : decode cX0_putInto 36 = .ok (.aload_n 1, 1) := by decide +kernel
theorem dX0_putInto_37 : decode cX0_putInto 37 = .ok (.bipush 29, 2) := by decide +kernel
theorem dX0_putInto_39 : decode cX0_putInto 39 = .ok (.invokevirtual 62, 3) := by decide +kernel
theorem dX0_putInto_42 : decode cX0_putInto 42 = .ok (.return_, 1) := by decide +kernel
def rm_X0_putInto : Room := { frames := 4, cells := 0, slots := 0, locals := 86 }
def fn_X0_putInto_B12b (b : Nat) (z12 : Sg → Nat → Int32 → Option (Sg)) (σ : Sg) (x0 : Nat) (x2 : Int32) : Option (Sg) :=
  (if ((σ.1 x0 2) : Int32) ≤ x2 then
  ((fn_X6_add b σ 29).bind fun r1 =>
  some r1)
  else (if sg_ib x2 8 then
  ((fn_X1_putInto b σ (σ.2 (x0 + 2) (sg_x x2))).bind fun r3 =>
  (sg_lt (x2 + 1 : Int32) fun v4 =>
  z12 r3 x0 v4))
  else none))
def fn_X0_putInto_B12 (b : Nat) : Nat → Sg → Nat → Int32 → Option (Sg)
  | 0 => fun _ _ _ => none
  | n + 1 => fun σ x0 x2 => fn_X0_putInto_B12b b (fn_X0_putInto_B12 b n) σ x0 x2
set_option maxHeartbeats 4000000 in
set_option maxRecDepth 100000 in
theorem w_X0_putInto_B12b {p : Program} {l : Launch} {e : Env} {s : State} {m : MethodId} {args : Array Value} {below : List Frame} {meth : Method} {c : Code} {Q : State → Prop} {D : va_G} {κ : Nat → ClassId} {b : Nat} {H0 : Heap} {rr : Sg} (hZ : sg_Z p c s m args D κ cX0_putInto 3 RX0 wsX0_putInto) (hret : ∀ (u : Sg) (H : Heap) (locs : List Loc) (pc : Nat) (ls : Array Slot), some u = some rr → CW D κ b u H → va_S (sg_A b 892) H0 H locs → decode cX0_putInto pc = .ok (.return_, 1) → W p l e rm_X0_putInto s m args below meth c H locs 0 0 Q (F0 m pc ls [])) {z12 : Sg → Nat → Int32 → Option (Sg)} (hr12 : ∀ {σ : Sg} {x0 : Nat} {x2 : Int32} {H : Heap} {locs : List Loc} {ls : Array Slot}, z12 σ x0 x2 = some rr → is_Card b x0 → lv_has ls 3 [(0, .ref x0), (1, .ref (b + 2)), (2, .int x2)] → CW D κ b σ H → va_S (sg_A b 892) H0 H locs → W p l e rm_X0_putInto s m args below meth c H locs 0 0 Q (F0 m 12 ls [])) : ∀ {σ : Sg} {x0 : Nat} {x2 : Int32} {H : Heap} {locs : List Loc} {ls : Array Slot}, fn_X0_putInto_B12b b z12 σ x0 x2 = some rr → is_Card b x0 → lv_has ls 3 [(0, .ref x0), (1, .ref (b + 2)), (2, .int x2)] → CW D κ b σ H → va_S (sg_A b 892) H0 H locs → W p l e rm_X0_putInto s m args below meth c H locs 0 0 Q (F0 m 12 ls []) := by
  obtain ⟨hx, hb, hml, hown, hts, hK⟩ := hZ
  intro σ x0 x2 H locs ls h hx0 hl hC hS
  unfold fn_X0_putInto_B12b at h
  refine lv_iload_n hx hb dX0_putInto_12 rfl (lv_at hl 2 rfl) ?_
  refine lv_aload_n hx hb dX0_putInto_13 rfl (lv_at hl 0 rfl) ?_
  refine va_get (D := D) (ci := 0) (v := .int (σ.1 x0 2)) (C := RX0) (T := TX0) (N := 3) hx hb hts (wqs inW_X0) hown hK.1 hC.1 (x0 - b) (sg_gCard hx0) rfl 2 (by decide) (hts _ (wq wt_182)) (fun _ h9 => h9) rfl dX0_putInto_14 ?_
  refine lv_icmp_ge (tgt := 36) hx hb dX0_putInto_17 (by decide) (fun hc => ?_) (fun hc => ?_)
  · replace h := (if_pos hc).symm.trans h
    refine lv_aload_n hx hb dX0_putInto_36 rfl (lv_at hl 1 rfl) ?_
    refine lv_bipush (v := 29) hx hb dX0_putInto_37 (by decide) ?_
    obtain ⟨r1, er1, h⟩ := Option.bind_eq_some_iff.mp h
    refine va_callv (va_runV (As := [.int 29]) (rest := []) ⟨hx, hb, hml, hown, hts⟩ (c_X6_add l D κ b σ 29 _ er1) (cwV 1 hts (gwV wt_523 wt_222 wt_223 wt_3 wt_224) rfl rfl rfl (by decide +kernel) ⟨Nat.le_of_ble_eq_true rfl, Nat.le_of_ble_eq_true rfl⟩) (CW_preV hK hC sg_gText rfl) rfl rfl hl.1 rfl (lv_room (Nat.le_of_ble_eq_true rfl)) dX0_putInto_39 ⟨Nat.zero_le _, Nat.zero_le _⟩) hS (fun _ _ h => h) (fun _ h => h) (fun u t H locs ht _ hp hB _ _ hS => ?_)
    have hC : CW D κ b r1 H := CW_b hB ht hp
    exact hret _ _ _ _ _ h hC hS dX0_putInto_42
  · replace h := (if_neg hc).symm.trans h
    refine lv_aload_n hx hb dX0_putInto_20 rfl (lv_at hl 0 rfl) ?_
    refine va_get (D := D) (ci := 0) (v := .ref (x0 + 2)) (C := RX0) (T := TX0) (N := 3) hx hb hts (wqs inW_X0) hown hK.1 hC.1 (x0 - b) (sg_gCard hx0) rfl 1 (by decide) (hts _ (wq wt_178)) (fun _ h9 => h9) rfl dX0_putInto_21 ?_
    refine lv_iload_n hx hb dX0_putInto_24 rfl (lv_at hl 2 rfl) ?_
    obtain ⟨hg, h⟩ := sg_gd h
    refine va_aldq (C := "RecordShelf$Field") hx hb hK.1 hC.1 ((x0 + 2) - b) 3 (sg_gfields hx0) rfl (sg_in hg) dX0_putInto_25 ?_
    have hv2 := hC.2 _ hx0 _ hg.2
    refine W.eq (g2 := F0 m 26 ls [.ref (σ.2 (x0 + 2) (sg_x x2))]) rfl ?_
    refine lv_aload_n hx hb dX0_putInto_26 rfl (lv_at hl 1 rfl) ?_
    obtain ⟨r3, er3, h⟩ := Option.bind_eq_some_iff.mp h
    refine va_callv (va_runV (As := [.ref (b + 2)]) (rest := []) ⟨hx, hb, hml, hown, hts⟩ (c_X1_putInto l D κ b σ (σ.2 (x0 + 2) (sg_x x2)) _ hv2 er3) (cwV 1 hts (gwV wt_528 wt_529 wt_530 wt_7 wt_531) rfl rfl rfl (by decide +kernel) ⟨Nat.le_of_ble_eq_true rfl, Nat.le_of_ble_eq_true rfl⟩) (CW_preV hK hC (sg_gField hv2) rfl) rfl rfl hl.1 rfl (lv_room (Nat.le_of_ble_eq_true rfl)) dX0_putInto_27 ⟨Nat.zero_le _, Nat.zero_le _⟩) hS (fun _ _ h => h) (fun _ h => h) (fun u t H locs ht _ hp hB _ _ hS => ?_)
    have hC : CW D κ b r3 H := CW_b hB ht hp
    obtain ⟨v4, ev4, h⟩ := sg_lte h
    refine lv_iinc (v := v4) (lv' := [(2, .int v4), (0, .ref x0), (1, .ref (b + 2))]) (k := 2) hx hb dX0_putInto_30 hl rfl (sg_inc (by decide) ev4) (by decide) rfl (fun ls hl => ?_)
    refine lv_goto (tgt := 12) hx hb dX0_putInto_33 (by decide) ?_
    exact hr12 h hx0 (lv_sub hl [1, 2, 0] rfl) hC hS
set_option maxHeartbeats 4000000 in
theorem w_X0_putInto_B12 {p : Program} {l : Launch} {e : Env} {s : State} {m : MethodId} {args : Array Value} {below : List Frame} {meth : Method} {c : Code} {Q : State → Prop} {D : va_G} {κ : Nat → ClassId} {b : Nat} {H0 : Heap} {rr : Sg} (hZ : sg_Z p c s m args D κ cX0_putInto 3 RX0 wsX0_putInto) (hret : ∀ (u : Sg) (H : Heap) (locs : List Loc) (pc : Nat) (ls : Array Slot), some u = some rr → CW D κ b u H → va_S (sg_A b 892) H0 H locs → decode cX0_putInto pc = .ok (.return_, 1) → W p l e rm_X0_putInto s m args below meth c H locs 0 0 Q (F0 m pc ls [])) : ∀ n : Nat, ∀ {σ : Sg} {x0 : Nat} {x2 : Int32} {H : Heap} {locs : List Loc} {ls : Array Slot}, fn_X0_putInto_B12 b n σ x0 x2 = some rr → is_Card b x0 → lv_has ls 3 [(0, .ref x0), (1, .ref (b + 2)), (2, .int x2)] → CW D κ b σ H → va_S (sg_A b 892) H0 H locs → W p l e rm_X0_putInto s m args below meth c H locs 0 0 Q (F0 m 12 ls []) := by
  intro n
  induction n with
  | zero => intro σ x0 x2 H locs ls h hx0 hl hC hS; cases (show (none : Option (Sg)) = some rr from h)
  | succ n ih =>
    intro σ x0 x2 H locs ls h hx0 hl hC hS
    exact w_X0_putInto_B12b hZ hret ih (show fn_X0_putInto_B12b b (fn_X0_putInto_B12 b n) σ x0 x2 = some rr from h) hx0 hl hC hS
def fn_X0_putInto (b : Nat) (σ : Sg) (x0 : Nat) : Option (Sg) :=
  ((fn_X0_putLeader b σ x0).bind fun r1 =>
  ((fn_X0_putDirectory b r1 x0).bind fun r2 =>
  fn_X0_putInto_B12 b sg_N r2 x0 0))
set_option maxHeartbeats 4000000 in
set_option maxRecDepth 100000 in
theorem w_X0_putInto_B0 {p : Program} {l : Launch} {e : Env} {s : State} {m : MethodId} {args : Array Value} {below : List Frame} {meth : Method} {c : Code} {Q : State → Prop} {D : va_G} {κ : Nat → ClassId} {b : Nat} {H0 : Heap} {rr : Sg} (hZ : sg_Z p c s m args D κ cX0_putInto 3 RX0 wsX0_putInto) (hret : ∀ (u : Sg) (H : Heap) (locs : List Loc) (pc : Nat) (ls : Array Slot), some u = some rr → CW D κ b u H → va_S (sg_A b 892) H0 H locs → decode cX0_putInto pc = .ok (.return_, 1) → W p l e rm_X0_putInto s m args below meth c H locs 0 0 Q (F0 m pc ls [])) : ∀ {σ : Sg} {x0 : Nat} {H : Heap} {locs : List Loc} {ls : Array Slot}, fn_X0_putInto b σ x0 = some rr → is_Card b x0 → lv_has ls 3 [(0, .ref x0), (1, .ref (b + 2))] → CW D κ b σ H → va_S (sg_A b 892) H0 H locs → W p l e rm_X0_putInto s m args below meth c H locs 0 0 Q (F0 m 0 ls []) := by
  obtain ⟨hx, hb, hml, hown, hts, hK⟩ := hZ
  intro σ x0 H locs ls h hx0 hl hC hS
  unfold fn_X0_putInto at h
  refine lv_aload_n hx hb dX0_putInto_0 rfl (lv_at hl 0 rfl) ?_
  refine lv_aload_n hx hb dX0_putInto_1 rfl (lv_at hl 1 rfl) ?_
  obtain ⟨r1, er1, h⟩ := Option.bind_eq_some_iff.mp h
  refine va_callv (va_runV (As := [.ref (b + 2)]) (rest := []) ⟨hx, hb, hml, hown, hts⟩ (c_X0_putLeader l D κ b σ x0 _ hx0 er1) (cwV 1 hts (gwV wt_508 wt_510 wp_21 wt_6 wt_511) rfl rfl rfl (by decide +kernel) ⟨Nat.le_of_ble_eq_true rfl, Nat.le_of_ble_eq_true rfl⟩) (CW_preV hK hC (sg_gCard hx0) rfl) rfl rfl hl.1 rfl (lv_room (Nat.le_of_ble_eq_true rfl)) dX0_putInto_2 ⟨Nat.zero_le _, Nat.zero_le _⟩) hS (fun _ _ h => h) (fun _ h => h) (fun u t H locs ht _ hp hB _ _ hS => ?_)
  have hC : CW D κ b r1 H := CW_b hB ht hp
  refine lv_aload_n hx hb dX0_putInto_5 rfl (lv_at hl 0 rfl) ?_
  refine lv_aload_n hx hb dX0_putInto_6 rfl (lv_at hl 1 rfl) ?_
  obtain ⟨r2, er2, h⟩ := Option.bind_eq_some_iff.mp h
  refine va_callv (va_runV (As := [.ref (b + 2)]) (rest := []) ⟨hx, hb, hml, hown, hts⟩ (c_X0_putDirectory l D κ b r1 x0 _ hx0 er2) (cwV 1 hts (gwV wt_524 wt_526 wp_23 wt_6 wt_527) rfl rfl rfl (by decide +kernel) ⟨Nat.le_of_ble_eq_true rfl, Nat.le_of_ble_eq_true rfl⟩) (CW_preV hK hC (sg_gCard hx0) rfl) rfl rfl hl.1 rfl (lv_room (Nat.le_of_ble_eq_true rfl)) dX0_putInto_7 ⟨Nat.zero_le _, Nat.zero_le _⟩) hS (fun _ _ h => h) (fun _ h => h) (fun u t H locs ht _ hp hB _ _ hS => ?_)
  have hC : CW D κ b r2 H := CW_b hB ht hp
  refine lv_iconst (v := 0) hx hb dX0_putInto_10 (by decide) ?_
  refine lv_istore_n (lv' := [(2, .int 0), (0, .ref x0), (1, .ref (b + 2))]) hx hb dX0_putInto_11 rfl hl (by decide) rfl (fun ls hl => ?_)
  exact w_X0_putInto_B12 ⟨hx, hb, hml, hown, hts, hK⟩ hret  sg_N h hx0 (lv_sub hl [1, 2, 0] rfl) hC hS
set_option maxHeartbeats 4000000 in
set_option maxRecDepth 100000 in
theorem c_X0_putInto (l : Launch) (D : va_G) (κ : Nat → ClassId) (b : Nat) (σ : Sg) (x0 : Nat) (rr : Sg) (hx0 : is_Card b x0) (h : fn_X0_putInto b σ x0 = some rr) : Met l yX0_putInto wsX0_putInto rm_X0_putInto (va_Pc [.ref x0, .ref (b + 2)] (fun U => KK D κ U ∧ CW D κ b σ U.heap)) (va_Qv (fun u : Sg => u = rr) (fun u t => CW D κ b u t.heap) (sg_A b 892)) 0 0 (sg_A b 892) := by
  refine Met.ofW (cc := cX0_putInto) (maxL := 3) (ret := none) (by decide) rfl ?_
  intro p e s m args below meth c s₁ B hml hv
  obtain ⟨rfl, hK, hC⟩ := hv
  have hr := B.returns
  have hlocks := B.notSynchronized
  have hl := lv_entry ([.ref x0, .ref (b + 2)]) (n := 3) (Nat.le_of_ble_eq_true rfl)
  rw [lg_entry_eq]
  generalize (lg_sl ([.ref x0, .ref (b + 2)]) ++ List.replicate (3 - (lg_sl ([.ref x0, .ref (b + 2)])).length) Slot.unset).toArray = ls at hl ⊢
  have hl : lv_has ls 3 [(0, .ref x0), (1, .ref (b + 2))] := hl
  exact w_X0_putInto_B0 ⟨B.exec, B.bytes, hml, findClass_of_methodNamed B.named, atoms_spec (ws := wsX0_putInto) B.pre, hK⟩ (fun u H locs pc ls hq hC hS hd => W.vret B.exec B.bytes hr (fun t ht hW => ⟨⟨_, rfl, Option.some.inj hq, CW_e ht hC⟩, hS.F ht⟩) hS.2.2 hd) h hx0 hl hC va_S.rf
