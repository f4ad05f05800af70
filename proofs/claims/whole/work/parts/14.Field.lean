-- RecordShelf$Field.begin(I)V
theorem dX1_begin_0 : decode cX1_begin 0 = .ok (.aload_n 0, 1) := by decide +kernel
theorem dX1_begin_1 : decode cX1_begin 1 = .ok (.iload_n 1, 1) := by decide +kernel
theorem dX1_begin_2 : decode cX1_begin 2 = .ok (.putfield 18, 3) := by decide +kernel
theorem dX1_begin_5 : decode cX1_begin 5 = .ok (.aload_n 0, 1) := by decide +kernel
theorem dX1_begin_6 : decode cX1_begin 6 = .ok (.iconst 0, 1) := by decide +kernel
theorem dX1_begin_7 : decode cX1_begin 7 = .ok (.putfield 22, 3) := by decide +kernel
theorem dX1_begin_10 : decode cX1_begin 10 = .ok (.aload_n 0, 1) := by decide +kernel
theorem dX1_begin_11 : decode cX1_begin 11 = .ok (.iconst 0, 1) := by decide +kernel
theorem dX1_begin_12 : decode cX1_begin 12 = .ok (.putfield 26, 3) := by decide +kernel
theorem dX1_begin_15 : decode cX1_begin 15 = .ok (.aload_n 0, 1) := by decide +kernel
theorem dX1_begin_16 : decode cX1_begin 16 = .ok (.iconst 0, 1) := by decide +kernel
theorem dX1_begin_17 : decode cX1_begin 17 = .ok (.putfield 29, 3) := by decide +kernel
theorem dX1_begin_20 : decode cX1_begin 20 = .ok (.return_, 1) := by decide +kernel
def rm_X1_begin : Room := { frames := 0, cells := 0, slots := 0, locals := 0 }
def fn_X1_begin (b : Nat) (σ : Sg) (x0 : Nat) (x1 : Int32) : Option (Sg) :=
  (sg_lt (sg_w σ x0 2 x1) fun σ1 =>
  (sg_lt (sg_w σ1 x0 3 0) fun σ2 =>
  (sg_lt (sg_w σ2 x0 4 0) fun σ3 =>
  (sg_lt (sg_w σ3 x0 1 0) fun σ4 =>
  some σ4))))
set_option maxHeartbeats 4000000 in
set_option maxRecDepth 100000 in
theorem w_X1_begin_B0 {p : Program} {l : Launch} {e : Env} {s : State} {m : MethodId} {args : Array Value} {below : List Frame} {meth : Method} {c : Code} {Q : State → Prop} {D : va_G} {κ : Nat → ClassId} {b : Nat} {H0 : Heap} {rr : Sg} (hZ : sg_Z p c s m args D κ cX1_begin 2 RX1 wsX1_begin) (hret : ∀ (u : Sg) (H : Heap) (locs : List Loc) (pc : Nat) (ls : Array Slot), some u = some rr → CW D κ b u H → va_S (sg_A b 892) H0 H locs → decode cX1_begin pc = .ok (.return_, 1) → W p l e rm_X1_begin s m args below meth c H locs 0 0 Q (F0 m pc ls [])) : ∀ {σ : Sg} {x0 : Nat} {x1 : Int32} {H : Heap} {locs : List Loc} {ls : Array Slot}, fn_X1_begin b σ x0 x1 = some rr → is_Fld b x0 → lv_has ls 2 [(0, .ref x0), (1, .int x1)] → CW D κ b σ H → va_S (sg_A b 892) H0 H locs → W p l e rm_X1_begin s m args below meth c H locs 0 0 Q (F0 m 0 ls []) := by
  obtain ⟨hx, hb, hml, hown, hts, hK⟩ := hZ
  intro σ x0 x1 H locs ls h hx0 hl hC hS
  unfold fn_X1_begin at h
  refine lv_aload_n hx hb dX1_begin_0 rfl (lv_at hl 0 rfl) ?_
  refine lv_iload_n hx hb dX1_begin_1 rfl (lv_at hl 1 rfl) ?_
  refine va_put (D := D) (ci := 1) (v := .int x1) (ty := .int) (C := RX1) (T := TX1) (N := 5) hx hb hts (wqs inW_X1) tyX1 tyX1_ok nmX1 hown hK.1 hC.1 sg_D hS (x0 - b) (sg_gField hx0) rfl 2 (by decide) (hts _ (wq wt_156)) (fun _ h9 => h9) rfl (by decide +kernel) rfl rfl (Nat.le_of_ble_eq_true rfl) dX1_begin_2 (fun H locs hP _ hS => ?_)
  obtain ⟨σ1, eσ1, h⟩ := sg_lte h
  have hC : CW D κ b σ1 H := eσ1 ▸ CW_put (k := 2) (v := x1) hC (sg_aField hx0) (sg_yField hx0 _ _) hP
  refine lv_aload_n hx hb dX1_begin_5 rfl (lv_at hl 0 rfl) ?_
  refine lv_iconst (v := 0) hx hb dX1_begin_6 (by decide) ?_
  refine va_put (D := D) (ci := 1) (v := .int 0) (ty := .char) (C := RX1) (T := TX1) (N := 5) hx hb hts (wqs inW_X1) tyX1 tyX1_ok nmX1 hown hK.1 hC.1 sg_D hS (x0 - b) (sg_gField hx0) rfl 3 (by decide) (hts _ (wq wt_159)) (fun _ h9 => h9) rfl (by decide +kernel) (by decide) (by decide) (Nat.le_of_ble_eq_true rfl) dX1_begin_7 (fun H locs hP _ hS => ?_)
  obtain ⟨σ2, eσ2, h⟩ := sg_lte h
  have hC : CW D κ b σ2 H := eσ2 ▸ CW_put (k := 3) (v := 0) hC (sg_aField hx0) (sg_yField hx0 _ _) hP
  refine lv_aload_n hx hb dX1_begin_10 rfl (lv_at hl 0 rfl) ?_
  refine lv_iconst (v := 0) hx hb dX1_begin_11 (by decide) ?_
  refine va_put (D := D) (ci := 1) (v := .int 0) (ty := .char) (C := RX1) (T := TX1) (N := 5) hx hb hts (wqs inW_X1) tyX1 tyX1_ok nmX1 hown hK.1 hC.1 sg_D hS (x0 - b) (sg_gField hx0) rfl 4 (by decide) (hts _ (wq wt_162)) (fun _ h9 => h9) rfl (by decide +kernel) (by decide) (by decide) (Nat.le_of_ble_eq_true rfl) dX1_begin_12 (fun H locs hP _ hS => ?_)
  obtain ⟨σ3, eσ3, h⟩ := sg_lte h
  have hC : CW D κ b σ3 H := eσ3 ▸ CW_put (k := 4) (v := 0) hC (sg_aField hx0) (sg_yField hx0 _ _) hP
  refine lv_aload_n hx hb dX1_begin_15 rfl (lv_at hl 0 rfl) ?_
  refine lv_iconst (v := 0) hx hb dX1_begin_16 (by decide) ?_
  refine va_put (D := D) (ci := 1) (v := .int 0) (ty := .int) (C := RX1) (T := TX1) (N := 5) hx hb hts (wqs inW_X1) tyX1 tyX1_ok nmX1 hown hK.1 hC.1 sg_D hS (x0 - b) (sg_gField hx0) rfl 1 (by decide) (hts _ (wq wt_152)) (fun _ h9 => h9) rfl (by decide +kernel) rfl rfl (Nat.le_of_ble_eq_true rfl) dX1_begin_17 (fun H locs hP _ hS => ?_)
  obtain ⟨σ4, eσ4, h⟩ := sg_lte h
  have hC : CW D κ b σ4 H := eσ4 ▸ CW_put (k := 1) (v := 0) hC (sg_aField hx0) (sg_yField hx0 _ _) hP
  exact hret _ _ _ _ _ h hC hS dX1_begin_20
set_option maxHeartbeats 4000000 in
set_option maxRecDepth 100000 in
theorem c_X1_begin (l : Launch) (D : va_G) (κ : Nat → ClassId) (b : Nat) (σ : Sg) (x0 : Nat) (x1 : Int32) (rr : Sg) (hx0 : is_Fld b x0) (h : fn_X1_begin b σ x0 x1 = some rr) : Met l yX1_begin wsX1_begin rm_X1_begin (va_Pc [.ref x0, .int x1] (fun U => KK D κ U ∧ CW D κ b σ U.heap)) (va_Qv (fun u : Sg => u = rr) (fun u t => CW D κ b u t.heap) (sg_A b 892)) 0 0 (sg_A b 892) := by
  refine Met.ofW (cc := cX1_begin) (maxL := 2) (ret := none) (by decide) rfl ?_
  intro p e s m args below meth c s₁ B hml hv
  obtain ⟨rfl, hK, hC⟩ := hv
  have hr := B.returns
  have hlocks := B.notSynchronized
  have hl := lv_entry ([.ref x0, .int x1]) (n := 2) (Nat.le_of_ble_eq_true rfl)
  rw [lg_entry_eq]
  generalize (lg_sl ([.ref x0, .int x1]) ++ List.replicate (2 - (lg_sl ([.ref x0, .int x1])).length) Slot.unset).toArray = ls at hl ⊢
  have hl : lv_has ls 2 [(0, .ref x0), (1, .int x1)] := hl
  exact w_X1_begin_B0 ⟨B.exec, B.bytes, hml, findClass_of_methodNamed B.named, atoms_spec (ws := wsX1_begin) B.pre, hK⟩ (fun u H locs pc ls hq hC hS hd => W.vret B.exec B.bytes hr (fun t ht hW => ⟨⟨_, rfl, Option.some.inj hq, CW_e ht hC⟩, hS.F ht⟩) hS.2.2 hd) h hx0 hl hC va_S.rf

-- RecordShelf$Field.fits(CLRecordShelf$Key;I)Z
theorem dX1_fits_0 : decode cX1_fits 0 = .ok (.iconst 0, 1) := by decide +kernel
theorem dX1_fits_1 : decode cX1_fits 1 = .ok (.istore 4, 2) := by decide +kernel
theorem dX1_fits_3 : decode cX1_fits 3 = .ok (.iload 4, 2) := by decide +kernel
theorem dX1_fits_5 : decode cX1_fits 5 = .ok (.aload_n 0, 1) := by decide +kernel
theorem dX1_fits_6 : decode cX1_fits 6 = .ok (.getfield 29, 3) := by decide +kernel
theorem dX1_fits_9 : decode cX1_fits 9 = .ok (.if_icmp .ge 43, 3) := by decide +kernel
theorem dX1_fits_12 : decode cX1_fits 12 = .ok (.aload_n 0, 1) := by decide +kernel
theorem dX1_fits_13 : decode cX1_fits 13 = .ok (.getfield 11, 3) := by decide +kernel
theorem dX1_fits_16 : decode cX1_fits 16 = .ok (.iload 4, 2) := by decide +kernel
theorem dX1_fits_18 : decode cX1_fits 18 = .ok (.aaload, 1) := by decide +kernel
theorem dX1_fits_19 : decode cX1_fits 19 = .ok (.iload_n 1, 1) := by decide +kernel
theorem dX1_fits_20 : decode cX1_fits 20 = .ok (.invokevirtual 40, 3) := by decide +kernel
theorem dX1_fits_23 : decode cX1_fits 23 = .ok (.ifCond .eq 23, 3) := by decide +kernel
theorem dX1_fits_26 : decode cX1_fits 26 = .ok (.aload_n 0, 1) := by decide +kernel
theorem dX1_fits_27 : decode cX1_fits 27 = .ok (.getfield 11, 3) := by decide +kernel
theorem dX1_fits_30 : decode cX1_fits 30 = .ok (.iload 4, 2) := by decide +kernel
theorem dX1_fits_32 : decode cX1_fits 32 = .ok (.aaload, 1) := by decide +kernel
theorem dX1_fits_33 : decode cX1_fits 33 = .ok (.getfield 44, 3) := by decide +kernel
theorem dX1_fits_36 : decode cX1_fits 36 = .ok (.aload_n 2, 1) := by decide +kernel
theorem dX1_fits_37 : decode cX1_fits 37 = .ok (.iload_n 3, 1) := by decide +kernel
theorem dX1_fits_38 : decode cX1_fits 38 = .ok (.invokevirtual 48, 3) := by decide +kernel
theorem dX1_fits_41 : decode cX1_fits 41 = .ok (.ifCond .eq 5, 3) := by decide +kernel
theorem dX1_fits_44 : decode cX1_fits 44 = .ok (.iconst 1, 1) := by decide +kernel
theorem dX1_fits_45 : decode cX1_fits 45 = .ok (.ireturn, 1) := by decide +kernel
theorem dX1_fits_46 : decode cX1_fits 46 = .ok (.iinc 4 1, 3) := by decide +kernel
theorem dX1_fits_49 : decode cX1_fits 49 = .ok (.goto (-46), 3) := by decide +kernel
theorem dX1_fits_52 : decode cX1_fits 52 = .ok (.iconst 0, 1) := by decide +kernel
theorem dX1_fits_53 : decode cX1_fits 53 = .ok (.ireturn, 1) := by decide +kernel
def rm_X1_fits : Room := { frames := 3, cells := 0, slots := 0, locals := 68 }
def fn_X1_fits_B46 (b : Nat) (σ : Sg) (z3 : Nat → Int32 → Nat → Int32 → Int32 → Option (Int32)) (x0 : Nat) (x1 : Int32) (x2 : Nat) (x3 : Int32) (x4 : Int32) : Option (Int32) :=
  (sg_lt (x4 + 1 : Int32) fun v1 =>
  z3 x0 x1 x2 x3 v1)
set_option maxHeartbeats 4000000 in
set_option maxRecDepth 100000 in
theorem w_X1_fits_B46 {p : Program} {l : Launch} {e : Env} {s : State} {m : MethodId} {args : Array Value} {below : List Frame} {meth : Method} {c : Code} {Q : State → Prop} {D : va_G} {κ : Nat → ClassId} {b : Nat} {H0 : Heap} {rr : Int32} {σ : Sg} (hZ : sg_Z p c s m args D κ cX1_fits 5 RX1 wsX1_fits) (hret : ∀ (v : Int32) (H : Heap) (locs : List Loc) (pc : Nat) (ls : Array Slot), some v = some rr → narrow .boolean (.int v) = .int v → CW D κ b σ H → va_S (sg_A b 892) H0 H locs → decode cX1_fits pc = .ok (.ireturn, 1) → W p l e rm_X1_fits s m args below meth c H locs 0 0 Q (F0 m pc ls [.int v])) {z3 : Nat → Int32 → Nat → Int32 → Int32 → Option (Int32)} (hr3 : ∀ {x0 : Nat} {x1 : Int32} {x2 : Nat} {x3 : Int32} {x4 : Int32} {H : Heap} {locs : List Loc} {ls : Array Slot}, z3 x0 x1 x2 x3 x4 = some rr → is_Fld b x0 → is_Key b x2 → lv_has ls 5 [(0, .ref x0), (1, .int x1), (2, .ref x2), (3, .int x3), (4, .int x4)] → CW D κ b σ H → va_S (sg_A b 892) H0 H locs → W p l e rm_X1_fits s m args below meth c H locs 0 0 Q (F0 m 3 ls [])) : ∀ {x0 : Nat} {x1 : Int32} {x2 : Nat} {x3 : Int32} {x4 : Int32} {H : Heap} {locs : List Loc} {ls : Array Slot}, fn_X1_fits_B46 b σ z3 x0 x1 x2 x3 x4 = some rr → is_Fld b x0 → is_Key b x2 → lv_has ls 5 [(0, .ref x0), (1, .int x1), (2, .ref x2), (3, .int x3), (4, .int x4)] → CW D κ b σ H → va_S (sg_A b 892) H0 H locs → W p l e rm_X1_fits s m args below meth c H locs 0 0 Q (F0 m 46 ls []) := by
  obtain ⟨hx, hb, hml, hown, hts, hK⟩ := hZ
  intro x0 x1 x2 x3 x4 H locs ls h hx0 hx2 hl hC hS
  unfold fn_X1_fits_B46 at h
  obtain ⟨v1, ev1, h⟩ := sg_lte h
  refine lv_iinc (v := v1) (lv' := [(4, .int v1), (0, .ref x0), (1, .int x1), (2, .ref x2), (3, .int x3)]) (k := 4) hx hb dX1_fits_46 hl rfl (sg_inc (by decide) ev1) (by decide) rfl (fun ls hl => ?_)
  refine lv_goto (tgt := 3) hx hb dX1_fits_49 (by decide) ?_
  exact hr3 h hx0 hx2 (lv_sub hl [1, 2, 3, 4, 0] rfl) hC hS
def fn_X1_fits_B3b (b : Nat) (σ : Sg) (z3 : Nat → Int32 → Nat → Int32 → Int32 → Option (Int32)) (x0 : Nat) (x1 : Int32) (x2 : Nat) (x3 : Int32) (x4 : Int32) : Option (Int32) :=
  (if ((σ.1 x0 1) : Int32) ≤ x4 then
  some 0
  else (if sg_ib x4 4 then
  ((fn_X5_hasCode b σ (x0 + 2 + 4 * sg_x x4) x1).bind fun r2 =>
  (if r2 = 0 then
  fn_X1_fits_B46 b σ z3 x0 x1 x2 x3 x4
  else (if sg_ib x4 4 then
  ((fn_X3_fits b σ ((x0 + 2 + 4 * sg_x x4) + 2) x2 x3).bind fun r4 =>
  (if r4 = 0 then
  fn_X1_fits_B46 b σ z3 x0 x1 x2 x3 x4
  else some 1))
  else none)))
  else none))
def fn_X1_fits_B3 (b : Nat) (σ : Sg) : Nat → Nat → Int32 → Nat → Int32 → Int32 → Option (Int32)
  | 0 => fun _ _ _ _ _ => none
  | n + 1 => fun x0 x1 x2 x3 x4 => fn_X1_fits_B3b b σ (fn_X1_fits_B3 b σ n) x0 x1 x2 x3 x4
set_option maxHeartbeats 4000000 in
set_option maxRecDepth 100000 in
theorem w_X1_fits_B3b {p : Program} {l : Launch} {e : Env} {s : State} {m : MethodId} {args : Array Value} {below : List Frame} {meth : Method} {c : Code} {Q : State → Prop} {D : va_G} {κ : Nat → ClassId} {b : Nat} {H0 : Heap} {rr : Int32} {σ : Sg} (hZ : sg_Z p c s m args D κ cX1_fits 5 RX1 wsX1_fits) (hret : ∀ (v : Int32) (H : Heap) (locs : List Loc) (pc : Nat) (ls : Array Slot), some v = some rr → narrow .boolean (.int v) = .int v → CW D κ b σ H → va_S (sg_A b 892) H0 H locs → decode cX1_fits pc = .ok (.ireturn, 1) → W p l e rm_X1_fits s m args below meth c H locs 0 0 Q (F0 m pc ls [.int v])) {z3 : Nat → Int32 → Nat → Int32 → Int32 → Option (Int32)} (hr3 : ∀ {x0 : Nat} {x1 : Int32} {x2 : Nat} {x3 : Int32} {x4 : Int32} {H : Heap} {locs : List Loc} {ls : Array Slot}, z3 x0 x1 x2 x3 x4 = some rr → is_Fld b x0 → is_Key b x2 → lv_has ls 5 [(0, .ref x0), (1, .int x1), (2, .ref x2), (3, .int x3), (4, .int x4)] → CW D κ b σ H → va_S (sg_A b 892) H0 H locs → W p l e rm_X1_fits s m args below meth c H locs 0 0 Q (F0 m 3 ls [])) : ∀ {x0 : Nat} {x1 : Int32} {x2 : Nat} {x3 : Int32} {x4 : Int32} {H : Heap} {locs : List Loc} {ls : Array Slot}, fn_X1_fits_B3b b σ z3 x0 x1 x2 x3 x4 = some rr → is_Fld b x0 → is_Key b x2 → lv_has ls 5 [(0, .ref x0), (1, .int x1), (2, .ref x2), (3, .int x3), (4, .int x4)] → CW D κ b σ H → va_S (sg_A b 892) H0 H locs → W p l e rm_X1_fits s m args below meth c H locs 0 0 Q (F0 m 3 ls []) := by
  obtain ⟨hx, hb, hml, hown, hts, hK⟩ := hZ
  intro x0 x1 x2 x3 x4 H locs ls h hx0 hx2 hl hC hS
  unfold fn_X1_fits_B3b at h
  refine lv_iload hx hb dX1_fits_3 (lv_at hl 4 rfl) ?_
  refine lv_aload_n hx hb dX1_fits_5 rfl (lv_at hl 0 rfl) ?_
  refine va_get (D := D) (ci := 1) (v := .int (σ.1 x0 1)) (C := RX1) (T := TX1) (N := 5) hx hb hts (wqs inW_X1) hown hK.1 hC.1 (x0 - b) (sg_gField hx0) rfl 1 (by decide) (hts _ (wq wt_152)) (fun _ h9 => h9) rfl dX1_fits_6 ?_
  refine lv_icmp_ge (tgt := 52) hx hb dX1_fits_9 (by decide) (fun hc => ?_) (fun hc => ?_)
  · replace h := (if_pos hc).symm.trans h
    refine lv_iconst (v := 0) hx hb dX1_fits_52 (by decide) ?_
    exact hret _ _ _ _ _ h (by decide) hC hS dX1_fits_53
  · replace h := (if_neg hc).symm.trans h
    refine lv_aload_n hx hb dX1_fits_12 rfl (lv_at hl 0 rfl) ?_
    refine va_get (D := D) (ci := 1) (v := .ref (x0 + 1)) (C := RX1) (T := TX1) (N := 5) hx hb hts (wqs inW_X1) hown hK.1 hC.1 (x0 - b) (sg_gField hx0) rfl 0 (by decide) (hts _ (wq wt_148)) (fun _ h9 => h9) rfl dX1_fits_13 ?_
    refine lv_iload hx hb dX1_fits_16 (lv_at hl 4 rfl) ?_
    obtain ⟨hg, h⟩ := sg_gd h
    refine va_aldq (C := "RecordShelf$Subfield") hx hb hK.1 hC.1 ((x0 + 1) - b) 4 (sg_gsubs hx0) rfl (sg_in hg) dX1_fits_18 ?_
    have hv1 := sg_vSub hx0 hg
    refine W.eq (g2 := F0 m 19 ls [.ref (x0 + 2 + 4 * sg_x x4)]) rfl ?_
    refine lv_iload_n hx hb dX1_fits_19 rfl (lv_at hl 1 rfl) ?_
    obtain ⟨r2, er2, h⟩ := Option.bind_eq_some_iff.mp h
    refine va_calli (va_runV (As := [.int x1]) (rest := []) ⟨hx, hb, hml, hown, hts⟩ (c_X5_hasCode l D κ b σ (x0 + 2 + 4 * sg_x x4) x1 _ hv1 er2) (cwV 1 hts (gwV wt_624 wt_571 wt_572 wt_8 wt_573) rfl rfl rfl (by decide +kernel) ⟨Nat.le_of_ble_eq_true rfl, Nat.le_of_ble_eq_true rfl⟩) (CW_preV hK hC (sg_gSub hv1) rfl) rfl rfl hl.1 rfl (lv_room (Nat.le_of_ble_eq_true rfl)) dX1_fits_20 ⟨Nat.zero_le _, Nat.zero_le _⟩) hS (fun _ _ h => h) (fun _ h => h) (fun r u t H locs ht _ hp hB _ _ hS => ?_)
    refine sg_topi hp.1 ?_
    have hC : CW D κ b σ H := CW_b hB ht hp.2
    refine lv_if_eq (tgt := 46) hx hb dX1_fits_23 (by decide) (fun hc => ?_) (fun hc => ?_)
    · replace h := (if_pos hc).symm.trans h
      exact w_X1_fits_B46 ⟨hx, hb, hml, hown, hts, hK⟩ hret hr3 h hx0 hx2 (lv_sub hl [0, 1, 2, 3, 4] rfl) hC hS
    · replace h := (if_neg hc).symm.trans h
      refine lv_aload_n hx hb dX1_fits_26 rfl (lv_at hl 0 rfl) ?_
      refine va_get (D := D) (ci := 1) (v := .ref (x0 + 1)) (C := RX1) (T := TX1) (N := 5) hx hb hts (wqs inW_X1) hown hK.1 hC.1 (x0 - b) (sg_gField hx0) rfl 0 (by decide) (hts _ (wq wt_148)) (fun _ h9 => h9) rfl dX1_fits_27 ?_
      refine lv_iload hx hb dX1_fits_30 (lv_at hl 4 rfl) ?_
      obtain ⟨hg, h⟩ := sg_gd h
      refine va_aldq (C := "RecordShelf$Subfield") hx hb hK.1 hC.1 ((x0 + 1) - b) 4 (sg_gsubs hx0) rfl (sg_in hg) dX1_fits_32 ?_
      have hv3 := sg_vSub hx0 hg
      refine W.eq (g2 := F0 m 33 ls [.ref (x0 + 2 + 4 * sg_x x4)]) rfl ?_
      refine va_getN (D := D) (ci := 5) (v := .ref ((x0 + 2 + 4 * sg_x x4) + 2)) (C := RX5) (T := TX5) (N := 4) hx hb hts (wqs inW_X5) hown hK.1 hC.1 ((x0 + 2 + 4 * sg_x x4) - b) (sg_gSub hv3) rfl 1 (by decide) (nf_8 hK) (fun _ h9 => h9) rfl dX1_fits_33 ?_
      refine lv_aload_n hx hb dX1_fits_36 rfl (lv_at hl 2 rfl) ?_
      refine lv_iload_n hx hb dX1_fits_37 rfl (lv_at hl 3 rfl) ?_
      obtain ⟨r4, er4, h⟩ := Option.bind_eq_some_iff.mp h
      refine va_calli (va_runV (As := [.ref x2, .int x3]) (rest := []) ⟨hx, hb, hml, hown, hts⟩ (c_X3_fits l D κ b σ ((x0 + 2 + 4 * sg_x x4) + 2) x2 x3 _ (sg_kO hv3) hx2 er4) (cwV 2 hts (gwV wt_625 wt_626 wt_627 wt_5 wt_628) rfl rfl rfl (by decide +kernel) ⟨Nat.le_of_ble_eq_true rfl, Nat.le_of_ble_eq_true rfl⟩) (CW_preV hK hC (sg_gKey (sg_kO hv3)) rfl) rfl rfl hl.1 rfl (lv_room (Nat.le_of_ble_eq_true rfl)) dX1_fits_38 ⟨Nat.zero_le _, Nat.zero_le _⟩) hS (fun _ _ h => h) (fun _ h => h) (fun r u t H locs ht _ hp hB _ _ hS => ?_)
      refine sg_topi hp.1 ?_
      have hC : CW D κ b σ H := CW_b hB ht hp.2
      refine lv_if_eq (tgt := 46) hx hb dX1_fits_41 (by decide) (fun hc => ?_) (fun hc => ?_)
      · replace h := (if_pos hc).symm.trans h
        exact w_X1_fits_B46 ⟨hx, hb, hml, hown, hts, hK⟩ hret hr3 h hx0 hx2 (lv_sub hl [0, 1, 2, 3, 4] rfl) hC hS
      · replace h := (if_neg hc).symm.trans h
        refine lv_iconst (v := 1) hx hb dX1_fits_44 (by decide) ?_
        exact hret _ _ _ _ _ h (by decide) hC hS dX1_fits_45
set_option maxHeartbeats 4000000 in
theorem w_X1_fits_B3 {p : Program} {l : Launch} {e : Env} {s : State} {m : MethodId} {args : Array Value} {below : List Frame} {meth : Method} {c : Code} {Q : State → Prop} {D : va_G} {κ : Nat → ClassId} {b : Nat} {H0 : Heap} {rr : Int32} {σ : Sg} (hZ : sg_Z p c s m args D κ cX1_fits 5 RX1 wsX1_fits) (hret : ∀ (v : Int32) (H : Heap) (locs : List Loc) (pc : Nat) (ls : Array Slot), some v = some rr → narrow .boolean (.int v) = .int v → CW D κ b σ H → va_S (sg_A b 892) H0 H locs → decode cX1_fits pc = .ok (.ireturn, 1) → W p l e rm_X1_fits s m args below meth c H locs 0 0 Q (F0 m pc ls [.int v])) : ∀ n : Nat, ∀ {x0 : Nat} {x1 : Int32} {x2 : Nat} {x3 : Int32} {x4 : Int32} {H : Heap} {locs : List Loc} {ls : Array Slot}, fn_X1_fits_B3 b σ n x0 x1 x2 x3 x4 = some rr → is_Fld b x0 → is_Key b x2 → lv_has ls 5 [(0, .ref x0), (1, .int x1), (2, .ref x2), (3, .int x3), (4, .int x4)] → CW D κ b σ H → va_S (sg_A b 892) H0 H locs → W p l e rm_X1_fits s m args below meth c H locs 0 0 Q (F0 m 3 ls []) := by
  intro n
  induction n with
  | zero => intro x0 x1 x2 x3 x4 H locs ls h hx0 hx2 hl hC hS; cases (show (none : Option (Int32)) = some rr from h)
  | succ n ih =>
    intro x0 x1 x2 x3 x4 H locs ls h hx0 hx2 hl hC hS
    exact w_X1_fits_B3b hZ hret ih (show fn_X1_fits_B3b b σ (fn_X1_fits_B3 b σ n) x0 x1 x2 x3 x4 = some rr from h) hx0 hx2 hl hC hS
def fn_X1_fits (b : Nat) (σ : Sg) (x0 : Nat) (x1 : Int32) (x2 : Nat) (x3 : Int32) : Option (Int32) :=
  fn_X1_fits_B3 b σ sg_N x0 x1 x2 x3 0
set_option maxHeartbeats 4000000 in
set_option maxRecDepth 100000 in
theorem w_X1_fits_B0 {p : Program} {l : Launch} {e : Env} {s : State} {m : MethodId} {args : Array Value} {below : List Frame} {meth : Method} {c : Code} {Q : State → Prop} {D : va_G} {κ : Nat → ClassId} {b : Nat} {H0 : Heap} {rr : Int32} {σ : Sg} (hZ : sg_Z p c s m args D κ cX1_fits 5 RX1 wsX1_fits) (hret : ∀ (v : Int32) (H : Heap) (locs : List Loc) (pc : Nat) (ls : Array Slot), some v = some rr → narrow .boolean (.int v) = .int v → CW D κ b σ H → va_S (sg_A b 892) H0 H locs → decode cX1_fits pc = .ok (.ireturn, 1) → W p l e rm_X1_fits s m args below meth c H locs 0 0 Q (F0 m pc ls [.int v])) : ∀ {x0 : Nat} {x1 : Int32} {x2 : Nat} {x3 : Int32} {H : Heap} {locs : List Loc} {ls : Array Slot}, fn_X1_fits b σ x0 x1 x2 x3 = some rr → is_Fld b x0 → is_Key b x2 → lv_has ls 5 [(0, .ref x0), (1, .int x1), (2, .ref x2), (3, .int x3)] → CW D κ b σ H → va_S (sg_A b 892) H0 H locs → W p l e rm_X1_fits s m args below meth c H locs 0 0 Q (F0 m 0 ls []) := by
  obtain ⟨hx, hb, hml, hown, hts, hK⟩ := hZ
  intro x0 x1 x2 x3 H locs ls h hx0 hx2 hl hC hS
  unfold fn_X1_fits at h
  refine lv_iconst (v := 0) hx hb dX1_fits_0 (by decide) ?_
  refine lv_istore (lv' := [(4, .int 0), (0, .ref x0), (1, .int x1), (2, .ref x2), (3, .int x3)]) hx hb dX1_fits_1 hl (by decide) rfl (fun ls hl => ?_)
  exact w_X1_fits_B3 ⟨hx, hb, hml, hown, hts, hK⟩ hret  sg_N h hx0 hx2 (lv_sub hl [1, 2, 3, 4, 0] rfl) hC hS
set_option maxHeartbeats 4000000 in
set_option maxRecDepth 100000 in
theorem c_X1_fits (l : Launch) (D : va_G) (κ : Nat → ClassId) (b : Nat) (σ : Sg) (x0 : Nat) (x1 : Int32) (x2 : Nat) (x3 : Int32) (rr : Int32) (hx0 : is_Fld b x0) (hx2 : is_Key b x2) (h : fn_X1_fits b σ x0 x1 x2 x3 = some rr) : Met l yX1_fits wsX1_fits rm_X1_fits (va_Pc [.ref x0, .int x1, .ref x2, .int x3] (fun U => KK D κ U ∧ CW D κ b σ U.heap)) (va_Qi (fun (r : Int32) (u : Sg) => r = rr ∧ u = σ) (fun u t => CW D κ b u t.heap) (sg_A b 892)) 0 0 (sg_A b 892) := by
  refine Met.ofW (cc := cX1_fits) (maxL := 5) (ret := (some .boolean)) (by decide) rfl ?_
  intro p e s m args below meth c s₁ B hml hv
  obtain ⟨rfl, hK, hC⟩ := hv
  have hr := B.returns
  have hlocks := B.notSynchronized
  have hl := lv_entry ([.ref x0, .int x1, .ref x2, .int x3]) (n := 5) (Nat.le_of_ble_eq_true rfl)
  rw [lg_entry_eq]
  generalize (lg_sl ([.ref x0, .int x1, .ref x2, .int x3]) ++ List.replicate (5 - (lg_sl ([.ref x0, .int x1, .ref x2, .int x3])).length) Slot.unset).toArray = ls at hl ⊢
  have hl : lv_has ls 5 [(0, .ref x0), (1, .int x1), (2, .ref x2), (3, .int x3)] := hl
  exact w_X1_fits_B0 ⟨B.exec, B.bytes, hml, findClass_of_methodNamed B.named, atoms_spec (ws := wsX1_fits) B.pre, hK⟩ (fun v H locs pc ls hq hbo hC hS hd => W.zret B.exec B.bytes hr hbo (fun t ht hW => ⟨⟨v, _, rfl, ⟨Option.some.inj hq, rfl⟩, CW_e ht hC⟩, hS.F ht⟩) hS.2.2 hd) h hx0 hx2 hl hC va_S.rf

-- RecordShelf$Field.isSimple()Z
theorem dX1_isSimple_0 : decode cX1_isSimple 0 = .ok (.aload_n 0, 1) := by decide +kernel
theorem dX1_isSimple_1 : decode cX1_isSimple 1 = .ok (.getfield 18, 3) := by decide +kernel
theorem dX1_isSimple_4 : decode cX1_isSimple 4 = .ok (.bipush 10, 2) := by decide +kernel
theorem dX1_isSimple_6 : decode cX1_isSimple 6 = .ok (.if_icmp .ge 7, 3) := by decide +kernel
theorem dX1_isSimple_9 : decode cX1_isSimple 9 = .ok (.iconst 1, 1) := by decide +kernel
theorem dX1_isSimple_10 : decode cX1_isSimple 10 = .ok (.goto 4, 3) := by decide +kernel
theorem dX1_isSimple_13 : decode cX1_isSimple 13 = .ok (.iconst 0, 1) := by decide +kernel
theorem dX1_isSimple_14 : decode cX1_isSimple 14 = .ok (.ireturn, 1) := by decide +kernel
def rm_X1_isSimple : Room := { frames := 0, cells := 0, slots := 0, locals := 0 }
def fn_X1_isSimple (b : Nat) (σ : Sg) (x0 : Nat) : Option (Int32) :=
  (if (10 : Int32) ≤ (σ.1 x0 2) then
  some 0
  else some 1)
set_option maxHeartbeats 4000000 in
set_option maxRecDepth 100000 in
theorem w_X1_isSimple_B0 {p : Program} {l : Launch} {e : Env} {s : State} {m : MethodId} {args : Array Value} {below : List Frame} {meth : Method} {c : Code} {Q : State → Prop} {D : va_G} {κ : Nat → ClassId} {b : Nat} {H0 : Heap} {rr : Int32} {σ : Sg} (hZ : sg_Z p c s m args D κ cX1_isSimple 1 RX1 wsX1_isSimple) (hret : ∀ (v : Int32) (H : Heap) (locs : List Loc) (pc : Nat) (ls : Array Slot), some v = some rr → narrow .boolean (.int v) = .int v → CW D κ b σ H → va_S (sg_A b 892) H0 H locs → decode cX1_isSimple pc = .ok (.ireturn, 1) → W p l e rm_X1_isSimple s m args below meth c H locs 0 0 Q (F0 m pc ls [.int v])) : ∀ {x0 : Nat} {H : Heap} {locs : List Loc} {ls : Array Slot}, fn_X1_isSimple b σ x0 = some rr → is_Fld b x0 → lv_has ls 1 [(0, .ref x0)] → CW D κ b σ H → va_S (sg_A b 892) H0 H locs → W p l e rm_X1_isSimple s m args below meth c H locs 0 0 Q (F0 m 0 ls []) := by
  obtain ⟨hx, hb, hml, hown, hts, hK⟩ := hZ
  intro x0 H locs ls h hx0 hl hC hS
  unfold fn_X1_isSimple at h
  refine lv_aload_n hx hb dX1_isSimple_0 rfl (lv_at hl 0 rfl) ?_
  refine va_get (D := D) (ci := 1) (v := .int (σ.1 x0 2)) (C := RX1) (T := TX1) (N := 5) hx hb hts (wqs inW_X1) hown hK.1 hC.1 (x0 - b) (sg_gField hx0) rfl 2 (by decide) (hts _ (wq wt_156)) (fun _ h9 => h9) rfl dX1_isSimple_1 ?_
  refine lv_bipush (v := 10) hx hb dX1_isSimple_4 (by decide) ?_
  refine lv_icmp_ge (tgt := 13) hx hb dX1_isSimple_6 (by decide) (fun hc => ?_) (fun hc => ?_)
  · replace h := (if_pos hc).symm.trans h
    refine lv_iconst (v := 0) hx hb dX1_isSimple_13 (by decide) ?_
    exact hret _ _ _ _ _ h (by decide) hC hS dX1_isSimple_14
  · replace h := (if_neg hc).symm.trans h
    refine lv_iconst (v := 1) hx hb dX1_isSimple_9 (by decide) ?_
    refine lv_goto (tgt := 14) hx hb dX1_isSimple_10 (by decide) ?_
    exact hret _ _ _ _ _ h (by decide) hC hS dX1_isSimple_14
set_option maxHeartbeats 4000000 in
set_option maxRecDepth 100000 in
theorem c_X1_isSimple (l : Launch) (D : va_G) (κ : Nat → ClassId) (b : Nat) (σ : Sg) (x0 : Nat) (rr : Int32) (hx0 : is_Fld b x0) (h : fn_X1_isSimple b σ x0 = some rr) : Met l yX1_isSimple wsX1_isSimple rm_X1_isSimple (va_Pc [.ref x0] (fun U => KK D κ U ∧ CW D κ b σ U.heap)) (va_Qi (fun (r : Int32) (u : Sg) => r = rr ∧ u = σ) (fun u t => CW D κ b u t.heap) (sg_A b 892)) 0 0 (sg_A b 892) := by
  refine Met.ofW (cc := cX1_isSimple) (maxL := 1) (ret := (some .boolean)) (by decide) rfl ?_
  intro p e s m args below meth c s₁ B hml hv
  obtain ⟨rfl, hK, hC⟩ := hv
  have hr := B.returns
  have hlocks := B.notSynchronized
  have hl := lv_entry ([.ref x0]) (n := 1) (Nat.le_of_ble_eq_true rfl)
  rw [lg_entry_eq]
  generalize (lg_sl ([.ref x0]) ++ List.replicate (1 - (lg_sl ([.ref x0])).length) Slot.unset).toArray = ls at hl ⊢
  have hl : lv_has ls 1 [(0, .ref x0)] := hl
  exact w_X1_isSimple_B0 ⟨B.exec, B.bytes, hml, findClass_of_methodNamed B.named, atoms_spec (ws := wsX1_isSimple) B.pre, hK⟩ (fun v H locs pc ls hq hbo hC hS hd => W.zret B.exec B.bytes hr hbo (fun t ht hW => ⟨⟨v, _, rfl, ⟨Option.some.inj hq, rfl⟩, CW_e ht hC⟩, hS.F ht⟩) hS.2.2 hd) h hx0 hl hC va_S.rf

-- RecordShelf$Field.size()I
theorem dX1_size_0 : decode cX1_size 0 = .ok (.aload_n 0, 1) := by decide +kernel
theorem dX1_size_1 : decode cX1_size 1 = .ok (.invokevirtual 54, 3) := by decide +kernel
theorem dX1_size_4 : decode cX1_size 4 = .ok (.ifCond .eq 15, 3) := by decide +kernel
theorem dX1_size_7 : decode cX1_size 7 = .ok (.aload_n 0, 1) := by decide +kernel
theorem dX1_size_8 : decode cX1_size 8 = .ok (.getfield 11, 3) := by decide +kernel
theorem dX1_size_11 : decode cX1_size 11 = .ok (.iconst 0, 1) := by decide +kernel
theorem dX1_size_12 : decode cX1_size 12 = .ok (.aaload, 1) := by decide +kernel
theorem dX1_size_13 : decode cX1_size 13 = .ok (.getfield 57, 3) := by decide +kernel
theorem dX1_size_16 : decode cX1_size 16 = .ok (.iconst 1, 1) := by decide +kernel
theorem dX1_size_17 : decode cX1_size 17 = .ok (.iadd, 1) := by decide +kernel
theorem dX1_size_18 : decode cX1_size 18 = .ok (.ireturn, 1) := by decide +kernel
theorem dX1_size_19 : decode cX1_size 19 = .ok (.iconst 3, 1) := by decide +kernel
theorem dX1_size_20 : decode cX1_size 20 = .ok (.istore_n 1, 1) := by decide +kernel
theorem dX1_size_21 : decode cX1_size 21 = .ok (.iconst 0, 1) := by decide +kernel
theorem dX1_size_22 : decode cX1_size 22 = .ok (.istore_n 2, 1) := by decide +kernel
theorem dX1_size_23 : decode cX1_size 23 = .ok (.iload_n 2, 1) := by decide +kernel
theorem dX1_size_24 : decode cX1_size 24 = .ok (.aload_n 0, 1) := by decide +kernel
theorem dX1_size_25 : decode cX1_size 25 = .ok (.getfield 29, 3) := by decide +kernel
theorem dX1_size_28 : decode cX1_size 28 = .ok (.if_icmp .ge 23, 3) := by decide +kernel
theorem dX1_size_31 : decode cX1_size 31 = .ok (.iload_n 1, 1) := by decide +kernel
theorem dX1_size_32 : decode cX1_size 32 = .ok (.iconst 2, 1) := by decide +kernel
theorem dX1_size_33 : decode cX1_size 33 = .ok (.aload_n 0, 1) := by decide +kernel
theorem dX1_size_34 : decode cX1_size 34 = .ok (.getfield 11, 3) := by decide +kernel
theorem dX1_size_37 : decode cX1_size 37 = .ok (.iload_n 2, 1) := by decide +kernel
theorem dX1_size_38 : decode cX1_size 38 = .ok (.aaload, 1) := by decide +kernel
theorem dX1_size_39 : decode cX1_size 39 = .ok (.getfield 57, 3) := by decide +kernel
theorem dX1_size_42 : decode cX1_size 42 = .ok (.iadd, 1) := by decide +kernel
theorem dX1_size_43 : decode cX1_size 43 = .ok (.iadd, 1) := by decide +kernel
theorem dX1_size_44 : decode cX1_size 44 = .ok (.istore_n 1, 1) := by decide +kernel
theorem dX1_size_45 : decode cX1_size 45 = .ok (.iinc 2 1, 3) := by decide +kernel
theorem dX1_size_48 : decode cX1_size 48 = .ok (.goto (-25), 3) := by decide +kernel
theorem dX1_size_51 : decode cX1_size 51 = .ok (.iload_n 1, 1) := by decide +kernel
theorem dX1_size_52 : decode cX1_size 52 = .ok (.ireturn, 1) := by decide +kernel
def rm_X1_size : Room := { frames := 1, cells := 0, slots := 0, locals := 20 }
def fn_X1_size_B23b (b : Nat) (σ : Sg) (z23 : Nat → Int32 → Int32 → Option (Int32)) (x0 : Nat) (x1 : Int32) (x2 : Int32) : Option (Int32) :=
  (if ((σ.1 x0 1) : Int32) ≤ x2 then
  some x1
  else (if sg_ib x2 4 then
  (sg_lt ((x1 + (2 + (σ.1 (x0 + 2 + 4 * sg_x x2) 2))) : Int32) fun v2 =>
  (sg_lt (x2 + 1 : Int32) fun v3 =>
  z23 x0 v2 v3))
  else none))
def fn_X1_size_B23 (b : Nat) (σ : Sg) : Nat → Nat → Int32 → Int32 → Option (Int32)
  | 0 => fun _ _ _ => none
  | n + 1 => fun x0 x1 x2 => fn_X1_size_B23b b σ (fn_X1_size_B23 b σ n) x0 x1 x2
set_option maxHeartbeats 4000000 in
set_option maxRecDepth 100000 in
theorem w_X1_size_B23b {p : Program} {l : Launch} {e : Env} {s : State} {m : MethodId} {args : Array Value} {below : List Frame} {meth : Method} {c : Code} {Q : State → Prop} {D : va_G} {κ : Nat → ClassId} {b : Nat} {H0 : Heap} {rr : Int32} {σ : Sg} (hZ : sg_Z p c s m args D κ cX1_size 3 RX1 wsX1_size) (hret : ∀ (v : Int32) (H : Heap) (locs : List Loc) (pc : Nat) (ls : Array Slot), some v = some rr → CW D κ b σ H → va_S (sg_A b 892) H0 H locs → decode cX1_size pc = .ok (.ireturn, 1) → W p l e rm_X1_size s m args below meth c H locs 0 0 Q (F0 m pc ls [.int v])) {z23 : Nat → Int32 → Int32 → Option (Int32)} (hr23 : ∀ {x0 : Nat} {x1 : Int32} {x2 : Int32} {H : Heap} {locs : List Loc} {ls : Array Slot}, z23 x0 x1 x2 = some rr → is_Fld b x0 → lv_has ls 3 [(0, .ref x0), (1, .int x1), (2, .int x2)] → CW D κ b σ H → va_S (sg_A b 892) H0 H locs → W p l e rm_X1_size s m args below meth c H locs 0 0 Q (F0 m 23 ls [])) : ∀ {x0 : Nat} {x1 : Int32} {x2 : Int32} {H : Heap} {locs : List Loc} {ls : Array Slot}, fn_X1_size_B23b b σ z23 x0 x1 x2 = some rr → is_Fld b x0 → lv_has ls 3 [(0, .ref x0), (1, .int x1), (2, .int x2)] → CW D κ b σ H → va_S (sg_A b 892) H0 H locs → W p l e rm_X1_size s m args below meth c H locs 0 0 Q (F0 m 23 ls []) := by
  obtain ⟨hx, hb, hml, hown, hts, hK⟩ := hZ
  intro x0 x1 x2 H locs ls h hx0 hl hC hS
  unfold fn_X1_size_B23b at h
  refine lv_iload_n hx hb dX1_size_23 rfl (lv_at hl 2 rfl) ?_
  refine lv_aload_n hx hb dX1_size_24 rfl (lv_at hl 0 rfl) ?_
  refine va_get (D := D) (ci := 1) (v := .int (σ.1 x0 1)) (C := RX1) (T := TX1) (N := 5) hx hb hts (wqs inW_X1) hown hK.1 hC.1 (x0 - b) (sg_gField hx0) rfl 1 (by decide) (hts _ (wq wt_152)) (fun _ h9 => h9) rfl dX1_size_25 ?_
  refine lv_icmp_ge (tgt := 51) hx hb dX1_size_28 (by decide) (fun hc => ?_) (fun hc => ?_)
  · replace h := (if_pos hc).symm.trans h
    refine lv_iload_n hx hb dX1_size_51 rfl (lv_at hl 1 rfl) ?_
    exact hret _ _ _ _ _ h hC hS dX1_size_52
  · replace h := (if_neg hc).symm.trans h
    refine lv_iload_n hx hb dX1_size_31 rfl (lv_at hl 1 rfl) ?_
    refine lv_iconst (v := 2) hx hb dX1_size_32 (by decide) ?_
    refine lv_aload_n hx hb dX1_size_33 rfl (lv_at hl 0 rfl) ?_
    refine va_get (D := D) (ci := 1) (v := .ref (x0 + 1)) (C := RX1) (T := TX1) (N := 5) hx hb hts (wqs inW_X1) hown hK.1 hC.1 (x0 - b) (sg_gField hx0) rfl 0 (by decide) (hts _ (wq wt_148)) (fun _ h9 => h9) rfl dX1_size_34 ?_
    refine lv_iload_n hx hb dX1_size_37 rfl (lv_at hl 2 rfl) ?_
    obtain ⟨hg, h⟩ := sg_gd h
    refine va_aldq (C := "RecordShelf$Subfield") hx hb hK.1 hC.1 ((x0 + 1) - b) 4 (sg_gsubs hx0) rfl (sg_in hg) dX1_size_38 ?_
    have hv1 := sg_vSub hx0 hg
    refine W.eq (g2 := F0 m 39 ls [.ref (x0 + 2 + 4 * sg_x x2), .int 2, .int x1]) rfl ?_
    refine va_getN (D := D) (ci := 5) (v := .int (σ.1 (x0 + 2 + 4 * sg_x x2) 2)) (C := RX5) (T := TX5) (N := 4) hx hb hts (wqs inW_X5) hown hK.1 hC.1 ((x0 + 2 + 4 * sg_x x2) - b) (sg_gSub hv1) rfl 2 (by decide) (nf_9 hK) (fun _ h9 => h9) rfl dX1_size_39 ?_
    refine lv_iadd hx hb dX1_size_42 ?_
    refine lv_iadd hx hb dX1_size_43 ?_
    obtain ⟨v2, ev2, h⟩ := sg_lte h
    refine sg_topi ev2 ?_
    refine lv_istore_n (lv' := [(1, .int v2), (0, .ref x0), (2, .int x2)]) hx hb dX1_size_44 rfl hl (by decide) rfl (fun ls hl => ?_)
    obtain ⟨v3, ev3, h⟩ := sg_lte h
    refine lv_iinc (v := v3) (lv' := [(2, .int v3), (1, .int v2), (0, .ref x0)]) (k := 2) hx hb dX1_size_45 hl rfl (sg_inc (by decide) ev3) (by decide) rfl (fun ls hl => ?_)
    refine lv_goto (tgt := 23) hx hb dX1_size_48 (by decide) ?_
    exact hr23 h hx0 (lv_sub hl [2, 1, 0] rfl) hC hS
set_option maxHeartbeats 4000000 in
theorem w_X1_size_B23 {p : Program} {l : Launch} {e : Env} {s : State} {m : MethodId} {args : Array Value} {below : List Frame} {meth : Method} {c : Code} {Q : State → Prop} {D : va_G} {κ : Nat → ClassId} {b : Nat} {H0 : Heap} {rr : Int32} {σ : Sg} (hZ : sg_Z p c s m args D κ cX1_size 3 RX1 wsX1_size) (hret : ∀ (v : Int32) (H : Heap) (locs : List Loc) (pc : Nat) (ls : Array Slot), some v = some rr → CW D κ b σ H → va_S (sg_A b 892) H0 H locs → decode cX1_size pc = .ok (.ireturn, 1) → W p l e rm_X1_size s m args below meth c H locs 0 0 Q (F0 m pc ls [.int v])) : ∀ n : Nat, ∀ {x0 : Nat} {x1 : Int32} {x2 : Int32} {H : Heap} {locs : List Loc} {ls : Array Slot}, fn_X1_size_B23 b σ n x0 x1 x2 = some rr → is_Fld b x0 → lv_has ls 3 [(0, .ref x0), (1, .int x1), (2, .int x2)] → CW D κ b σ H → va_S (sg_A b 892) H0 H locs → W p l e rm_X1_size s m args below meth c H locs 0 0 Q (F0 m 23 ls []) := by
  intro n
  induction n with
  | zero => intro x0 x1 x2 H locs ls h hx0 hl hC hS; cases (show (none : Option (Int32)) = some rr from h)
  | succ n ih =>
    intro x0 x1 x2 H locs ls h hx0 hl hC hS
    exact w_X1_size_B23b hZ hret ih (show fn_X1_size_B23b b σ (fn_X1_size_B23 b σ n) x0 x1 x2 = some rr from h) hx0 hl hC hS
def fn_X1_size (b : Nat) (σ : Sg) (x0 : Nat) : Option (Int32) :=
  ((fn_X1_isSimple b σ x0).bind fun r1 =>
  (if r1 = 0 then
  fn_X1_size_B23 b σ sg_N x0 3 0
  else (if sg_ib 0 4 then
  some ((σ.1 (x0 + 2 + 4 * sg_x 0) 2) + 1)
  else none)))
set_option maxHeartbeats 4000000 in
set_option maxRecDepth 100000 in
theorem w_X1_size_B0 {p : Program} {l : Launch} {e : Env} {s : State} {m : MethodId} {args : Array Value} {below : List Frame} {meth : Method} {c : Code} {Q : State → Prop} {D : va_G} {κ : Nat → ClassId} {b : Nat} {H0 : Heap} {rr : Int32} {σ : Sg} (hZ : sg_Z p c s m args D κ cX1_size 3 RX1 wsX1_size) (hret : ∀ (v : Int32) (H : Heap) (locs : List Loc) (pc : Nat) (ls : Array Slot), some v = some rr → CW D κ b σ H → va_S (sg_A b 892) H0 H locs → decode cX1_size pc = .ok (.ireturn, 1) → W p l e rm_X1_size s m args below meth c H locs 0 0 Q (F0 m pc ls [.int v])) : ∀ {x0 : Nat} {H : Heap} {locs : List Loc} {ls : Array Slot}, fn_X1_size b σ x0 = some rr → is_Fld b x0 → lv_has ls 3 [(0, .ref x0)] → CW D κ b σ H → va_S (sg_A b 892) H0 H locs → W p l e rm_X1_size s m args below meth c H locs 0 0 Q (F0 m 0 ls []) := by
  obtain ⟨hx, hb, hml, hown, hts, hK⟩ := hZ
  intro x0 H locs ls h hx0 hl hC hS
  unfold fn_X1_size at h
  refine lv_aload_n hx hb dX1_size_0 rfl (lv_at hl 0 rfl) ?_
  obtain ⟨r1, er1, h⟩ := Option.bind_eq_some_iff.mp h
  refine va_calli (va_runV (As := []) (rest := []) ⟨hx, hb, hml, hown, hts⟩ (c_X1_isSimple l D κ b σ x0 _ hx0 er1) (cwV 0 hts (gwV wt_503 wt_355 wt_356 wt_7 wt_357) rfl rfl rfl (by decide +kernel) ⟨Nat.le_of_ble_eq_true rfl, Nat.le_of_ble_eq_true rfl⟩) (CW_preV hK hC (sg_gField hx0) rfl) rfl rfl hl.1 rfl (lv_room (Nat.le_of_ble_eq_true rfl)) dX1_size_1 ⟨Nat.zero_le _, Nat.zero_le _⟩) hS (fun _ _ h => h) (fun _ h => h) (fun r u t H locs ht _ hp hB _ _ hS => ?_)
  refine sg_topi hp.1 ?_
  have hC : CW D κ b σ H := CW_b hB ht hp.2
  refine lv_if_eq (tgt := 19) hx hb dX1_size_4 (by decide) (fun hc => ?_) (fun hc => ?_)
  · replace h := (if_pos hc).symm.trans h
    refine lv_iconst (v := 3) hx hb dX1_size_19 (by decide) ?_
    refine lv_istore_n (lv' := [(1, .int 3), (0, .ref x0)]) hx hb dX1_size_20 rfl hl (by decide) rfl (fun ls hl => ?_)
    refine lv_iconst (v := 0) hx hb dX1_size_21 (by decide) ?_
    refine lv_istore_n (lv' := [(2, .int 0), (1, .int 3), (0, .ref x0)]) hx hb dX1_size_22 rfl hl (by decide) rfl (fun ls hl => ?_)
    exact w_X1_size_B23 ⟨hx, hb, hml, hown, hts, hK⟩ hret  sg_N h hx0 (lv_sub hl [2, 1, 0] rfl) hC hS
  · replace h := (if_neg hc).symm.trans h
    refine lv_aload_n hx hb dX1_size_7 rfl (lv_at hl 0 rfl) ?_
    refine va_get (D := D) (ci := 1) (v := .ref (x0 + 1)) (C := RX1) (T := TX1) (N := 5) hx hb hts (wqs inW_X1) hown hK.1 hC.1 (x0 - b) (sg_gField hx0) rfl 0 (by decide) (hts _ (wq wt_148)) (fun _ h9 => h9) rfl dX1_size_8 ?_
    refine lv_iconst (v := 0) hx hb dX1_size_11 (by decide) ?_
    obtain ⟨hg, h⟩ := sg_gd h
    refine va_aldq (C := "RecordShelf$Subfield") hx hb hK.1 hC.1 ((x0 + 1) - b) 4 (sg_gsubs hx0) rfl (sg_in hg) dX1_size_12 ?_
    have hv2 := sg_vSub hx0 hg
    refine W.eq (g2 := F0 m 13 ls [.ref (x0 + 2 + 4 * sg_x 0)]) rfl ?_
    refine va_getN (D := D) (ci := 5) (v := .int (σ.1 (x0 + 2 + 4 * sg_x 0) 2)) (C := RX5) (T := TX5) (N := 4) hx hb hts (wqs inW_X5) hown hK.1 hC.1 ((x0 + 2 + 4 * sg_x 0) - b) (sg_gSub hv2) rfl 2 (by decide) (nf_9 hK) (fun _ h9 => h9) rfl dX1_size_13 ?_
    refine lv_iconst (v := 1) hx hb dX1_size_16 (by decide) ?_
    refine lv_iadd hx hb dX1_size_17 ?_
    exact hret _ _ _ _ _ h hC hS dX1_size_18
set_option maxHeartbeats 4000000 in
set_option maxRecDepth 100000 in
theorem c_X1_size (l : Launch) (D : va_G) (κ : Nat → ClassId) (b : Nat) (σ : Sg) (x0 : Nat) (rr : Int32) (hx0 : is_Fld b x0) (h : fn_X1_size b σ x0 = some rr) : Met l yX1_size wsX1_size rm_X1_size (va_Pc [.ref x0] (fun U => KK D κ U ∧ CW D κ b σ U.heap)) (va_Qi (fun (r : Int32) (u : Sg) => r = rr ∧ u = σ) (fun u t => CW D κ b u t.heap) (sg_A b 892)) 0 0 (sg_A b 892) := by
  refine Met.ofW (cc := cX1_size) (maxL := 3) (ret := (some .int)) (by decide) rfl ?_
  intro p e s m args below meth c s₁ B hml hv
  obtain ⟨rfl, hK, hC⟩ := hv
  have hr := B.returns
  have hlocks := B.notSynchronized
  have hl := lv_entry ([.ref x0]) (n := 3) (Nat.le_of_ble_eq_true rfl)
  rw [lg_entry_eq]
  generalize (lg_sl ([.ref x0]) ++ List.replicate (3 - (lg_sl ([.ref x0])).length) Slot.unset).toArray = ls at hl ⊢
  have hl : lv_has ls 3 [(0, .ref x0)] := hl
  exact w_X1_size_B0 ⟨B.exec, B.bytes, hml, findClass_of_methodNamed B.named, atoms_spec (ws := wsX1_size) B.pre, hK⟩ (fun v H locs pc ls hq hC hS hd => W.iret B.exec B.bytes hr (fun t ht hW => ⟨⟨v, _, rfl, ⟨Option.some.inj hq, rfl⟩, CW_e ht hC⟩, hS.F ht⟩) hS.2.2 hd) h hx0 hl hC va_S.rf

-- RecordShelf$Field.putDivided(LRecordShelf$Text;)V
theorem dX1_putDivided_0 : decode cX1_putDivided 0 = .ok (.aload_n 1, 1) := by decide +kernel
theorem dX1_putDivided_1 : decode cX1_putDivided 1 = .ok (.aload_n 0, 1) := by decide +kernel
theorem dX1_putDivided_2 : decode cX1_putDivided 2 = .ok (.getfield 22, 3) := by decide +kernel
theorem dX1_putDivided_5 : decode cX1_putDivided 5 = .ok (.invokevirtual 67, 3) := by decide +kernel
theorem dX1_putDivided_8 : decode cX1_putDivided 8 = .ok (.aload_n 1, 1) := by decide +kernel
theorem dX1_putDivided_9 : decode cX1_putDivided 9 = .ok (.aload_n 0, 1) := by decide +kernel
theorem dX1_putDivided_10 : decode cX1_putDivided 10 = .ok (.getfield 26, 3) := by decide +kernel
theorem dX1_putDivided_13 : decode cX1_putDivided 13 = .ok (.invokevirtual 67, 3) := by decide +kernel
theorem dX1_putDivided_16 : decode cX1_putDivided 16 = .ok (.iconst 0, 1) := by decide +kernel
theorem dX1_putDivided_17 : decode cX1_putDivided 17 = .ok (.istore_n 2, 1) := by decide +kernel
theorem dX1_putDivided_18 : decode cX1_putDivided 18 = .ok (.iload_n 2, 1) := by decide +kernel
theorem dX1_putDivided_19 : decode cX1_putDivided 19 = .ok (.aload_n 0, 1) := by decide +kernel
theorem dX1_putDivided_20 : decode cX1_putDivided 20 = .ok (.getfield 29, 3) := by decide +kernel
theorem dX1_putDivided_23 : decode cX1_putDivided 23 = .ok (.if_icmp .ge 38, 3) := by decide +kernel
theorem dX1_putDivided_26 : decode cX1_putDivided 26 = .ok (.aload_n 1, 1) := by decide +kernel
theorem dX1_putDivided_27 : decode cX1_putDivided 27 = .ok (.bipush 31, 2) := by decide +kernel
theorem dX1_putDivided_29 : decode cX1_putDivided 29 = .ok (.invokevirtual 67, 3) := by decide +kernel
theorem dX1_putDivided_32 : decode cX1_putDivided 32 = .ok (.aload_n 1, 1) := by decide +kernel
theorem dX1_putDivided_33 : decode cX1_putDivided 33 = .ok (.aload_n 0, 1) := by decide +kernel
theorem dX1_putDivided_34 : decode cX1_putDivided 34 = .ok (.getfield 11, 3) := by decide +kernel
theorem dX1_putDivided_37 : decode cX1_putDivided 37 = .ok (.iload_n 2, 1) := by decide +kernel
theorem dX1_putDivided_38 : decode cX1_putDivided 38 = .ok (.aaload, 1) := by decide +kernel
theorem dX1_putDivided_39 : decode cX1_putDivided 39 = .ok (.getfield 72, 3) := by decide +kernel
theorem dX1_putDivided_42 : decode cX1_putDivided 42 = .ok (.invokevirtual 67, 3) := by decide +kernel
theorem dX1_putDivided_45 : decode cX1_putDivided 45 = .ok (.aload_n 0, 1) := by decide +kernel
theorem dX1_putDivided_46 : decode cX1_putDivided 46 = .ok (.getfield 11, 3) := by decide +kernel
theorem dX1_putDivided_49 : decode cX1_putDivided 49 = .ok (.iload_n 2, 1) := by decide +kernel
theorem dX1_putDivided_50 : decode cX1_putDivided 50 = .ok (.aaload, 1) := by decide +kernel
theorem dX1_putDivided_51 : decode cX1_putDivided 51 = .ok (.aload_n 1, 1) := by decide +kernel
theorem dX1_putDivided_52 : decode cX1_putDivided 52 = .ok (.invokevirtual 60, 3) := by decide +kernel
theorem dX1_putDivided_55 : decode cX1_putDivided 55 = .ok (.iinc 2 1, 3) := by decide +kernel
theorem dX1_putDivided_58 : decode cX1_putDivided 58 = .ok (.goto (-40), 3) := by decide +kernel
theorem dX1_putDivided_61 : decode cX1_putDivided 61 = .ok (.return_, 1) := by decide +kernel
def rm_X1_putDivided : Room := { frames := 2, cells := 0, slots := 0, locals := 43 }
def fn_X1_putDivided_B18b (b : Nat) (z18 : Sg → Nat → Int32 → Option (Sg)) (σ : Sg) (x0 : Nat) (x2 : Int32) : Option (Sg) :=
  (if ((σ.1 x0 1) : Int32) ≤ x2 then
  some σ
  else ((fn_X6_add b σ 31).bind fun r1 =>
  (if sg_ib x2 4 then
  ((fn_X6_add b r1 (r1.1 (x0 + 2 + 4 * sg_x x2) 3)).bind fun r3 =>
  (if sg_ib x2 4 then
  ((fn_X5_putLetters b r3 (x0 + 2 + 4 * sg_x x2)).bind fun r5 =>
  (sg_lt (x2 + 1 : Int32) fun v6 =>
  z18 r5 x0 v6))
  else none))
  else none)))
def fn_X1_putDivided_B18 (b : Nat) : Nat → Sg → Nat → Int32 → Option (Sg)
  | 0 => fun _ _ _ => none
  | n + 1 => fun σ x0 x2 => fn_X1_putDivided_B18b b (fn_X1_putDivided_B18 b n) σ x0 x2
set_option maxHeartbeats 4000000 in
set_option maxRecDepth 100000 in
theorem w_X1_putDivided_B18b {p : Program} {l : Launch} {e : Env} {s : State} {m : MethodId} {args : Array Value} {below : List Frame} {meth : Method} {c : Code} {Q : State → Prop} {D : va_G} {κ : Nat → ClassId} {b : Nat} {H0 : Heap} {rr : Sg} (hZ : sg_Z p c s m args D κ cX1_putDivided 3 RX1 wsX1_putDivided) (hret : ∀ (u : Sg) (H : Heap) (locs : List Loc) (pc : Nat) (ls : Array Slot), some u = some rr → CW D κ b u H → va_S (sg_A b 892) H0 H locs → decode cX1_putDivided pc = .ok (.return_, 1) → W p l e rm_X1_putDivided s m args below meth c H locs 0 0 Q (F0 m pc ls [])) {z18 : Sg → Nat → Int32 → Option (Sg)} (hr18 : ∀ {σ : Sg} {x0 : Nat} {x2 : Int32} {H : Heap} {locs : List Loc} {ls : Array Slot}, z18 σ x0 x2 = some rr → is_Fld b x0 → lv_has ls 3 [(0, .ref x0), (1, .ref (b + 2)), (2, .int x2)] → CW D κ b σ H → va_S (sg_A b 892) H0 H locs → W p l e rm_X1_putDivided s m args below meth c H locs 0 0 Q (F0 m 18 ls [])) : ∀ {σ : Sg} {x0 : Nat} {x2 : Int32} {H : Heap} {locs : List Loc} {ls : Array Slot}, fn_X1_putDivided_B18b b z18 σ x0 x2 = some rr → is_Fld b x0 → lv_has ls 3 [(0, .ref x0), (1, .ref (b + 2)), (2, .int x2)] → CW D κ b σ H → va_S (sg_A b 892) H0 H locs → W p l e rm_X1_putDivided s m args below meth c H locs 0 0 Q (F0 m 18 ls []) := by
  obtain ⟨hx, hb, hml, hown, hts, hK⟩ := hZ
  intro σ x0 x2 H locs ls h hx0 hl hC hS
  unfold fn_X1_putDivided_B18b at h
  refine lv_iload_n hx hb dX1_putDivided_18 rfl (lv_at hl 2 rfl) ?_
  refine lv_aload_n hx hb dX1_putDivided_19 rfl (lv_at hl 0 rfl) ?_
  refine va_get (D := D) (ci := 1) (v := .int (σ.1 x0 1)) (C := RX1) (T := TX1) (N := 5) hx hb hts (wqs inW_X1) hown hK.1 hC.1 (x0 - b) (sg_gField hx0) rfl 1 (by decide) (hts _ (wq wt_152)) (fun _ h9 => h9) rfl dX1_putDivided_20 ?_
  refine lv_icmp_ge (tgt := 61) hx hb dX1_putDivided_23 (by decide) (fun hc => ?_) (fun hc => ?_)
  · replace h := (if_pos hc).symm.trans h
    exact hret _ _ _ _ _ h hC hS dX1_putDivided_61
  · replace h := (if_neg hc).symm.trans h
    refine lv_aload_n hx hb dX1_putDivided_26 rfl (lv_at hl 1 rfl) ?_
    refine lv_bipush (v := 31) hx hb dX1_putDivided_27 (by decide) ?_
    obtain ⟨r1, er1, h⟩ := Option.bind_eq_some_iff.mp h
    refine va_callv (va_runV (As := [.int 31]) (rest := []) ⟨hx, hb, hml, hown, hts⟩ (c_X6_add l D κ b σ 31 _ er1) (cwV 1 hts (gwV wt_541 wt_222 wt_223 wt_3 wt_224) rfl rfl rfl (by decide +kernel) ⟨Nat.le_of_ble_eq_true rfl, Nat.le_of_ble_eq_true rfl⟩) (CW_preV hK hC sg_gText rfl) rfl rfl hl.1 rfl (lv_room (Nat.le_of_ble_eq_true rfl)) dX1_putDivided_29 ⟨Nat.zero_le _, Nat.zero_le _⟩) hS (fun _ _ h => h) (fun _ h => h) (fun u t H locs ht _ hp hB _ _ hS => ?_)
    have hC : CW D κ b r1 H := CW_b hB ht hp
    refine lv_aload_n hx hb dX1_putDivided_32 rfl (lv_at hl 1 rfl) ?_
    refine lv_aload_n hx hb dX1_putDivided_33 rfl (lv_at hl 0 rfl) ?_
    refine va_get (D := D) (ci := 1) (v := .ref (x0 + 1)) (C := RX1) (T := TX1) (N := 5) hx hb hts (wqs inW_X1) hown hK.1 hC.1 (x0 - b) (sg_gField hx0) rfl 0 (by decide) (hts _ (wq wt_148)) (fun _ h9 => h9) rfl dX1_putDivided_34 ?_
    refine lv_iload_n hx hb dX1_putDivided_37 rfl (lv_at hl 2 rfl) ?_
    obtain ⟨hg, h⟩ := sg_gd h
    refine va_aldq (C := "RecordShelf$Subfield") hx hb hK.1 hC.1 ((x0 + 1) - b) 4 (sg_gsubs hx0) rfl (sg_in hg) dX1_putDivided_38 ?_
    have hv2 := sg_vSub hx0 hg
    refine W.eq (g2 := F0 m 39 ls [.ref (x0 + 2 + 4 * sg_x x2), .ref (b + 2)]) rfl ?_
    refine va_getN (D := D) (ci := 5) (v := .int (r1.1 (x0 + 2 + 4 * sg_x x2) 3)) (C := RX5) (T := TX5) (N := 4) hx hb hts (wqs inW_X5) hown hK.1 hC.1 ((x0 + 2 + 4 * sg_x x2) - b) (sg_gSub hv2) rfl 3 (by decide) (nf_11 hK) (fun _ h9 => h9) rfl dX1_putDivided_39 ?_
    obtain ⟨r3, er3, h⟩ := Option.bind_eq_some_iff.mp h
    refine va_callv (va_runV (As := [.int (r1.1 (x0 + 2 + 4 * sg_x x2) 3)]) (rest := []) ⟨hx, hb, hml, hown, hts⟩ (c_X6_add l D κ b r1 (r1.1 (x0 + 2 + 4 * sg_x x2) 3) _ er3) (cwV 1 hts (gwV wt_541 wt_222 wt_223 wt_3 wt_224) rfl rfl rfl (by decide +kernel) ⟨Nat.le_of_ble_eq_true rfl, Nat.le_of_ble_eq_true rfl⟩) (CW_preV hK hC sg_gText rfl) rfl rfl hl.1 rfl (lv_room (Nat.le_of_ble_eq_true rfl)) dX1_putDivided_42 ⟨Nat.zero_le _, Nat.zero_le _⟩) hS (fun _ _ h => h) (fun _ h => h) (fun u t H locs ht _ hp hB _ _ hS => ?_)
    have hC : CW D κ b r3 H := CW_b hB ht hp
    refine lv_aload_n hx hb dX1_putDivided_45 rfl (lv_at hl 0 rfl) ?_
    refine va_get (D := D) (ci := 1) (v := .ref (x0 + 1)) (C := RX1) (T := TX1) (N := 5) hx hb hts (wqs inW_X1) hown hK.1 hC.1 (x0 - b) (sg_gField hx0) rfl 0 (by decide) (hts _ (wq wt_148)) (fun _ h9 => h9) rfl dX1_putDivided_46 ?_
    refine lv_iload_n hx hb dX1_putDivided_49 rfl (lv_at hl 2 rfl) ?_
    obtain ⟨hg, h⟩ := sg_gd h
    refine va_aldq (C := "RecordShelf$Subfield") hx hb hK.1 hC.1 ((x0 + 1) - b) 4 (sg_gsubs hx0) rfl (sg_in hg) dX1_putDivided_50 ?_
    have hv4 := sg_vSub hx0 hg
    refine W.eq (g2 := F0 m 51 ls [.ref (x0 + 2 + 4 * sg_x x2)]) rfl ?_
    refine lv_aload_n hx hb dX1_putDivided_51 rfl (lv_at hl 1 rfl) ?_
    obtain ⟨r5, er5, h⟩ := Option.bind_eq_some_iff.mp h
    refine va_callv (va_runV (As := [.ref (b + 2)]) (rest := []) ⟨hx, hb, hml, hown, hts⟩ (c_X5_putLetters l D κ b r3 (x0 + 2 + 4 * sg_x x2) _ hv4 er5) (cwV 1 hts (gwV wt_532 wt_533 wt_534 wt_8 wt_535) rfl rfl rfl (by decide +kernel) ⟨Nat.le_of_ble_eq_true rfl, Nat.le_of_ble_eq_true rfl⟩) (CW_preV hK hC (sg_gSub hv4) rfl) rfl rfl hl.1 rfl (lv_room (Nat.le_of_ble_eq_true rfl)) dX1_putDivided_52 ⟨Nat.zero_le _, Nat.zero_le _⟩) hS (fun _ _ h => h) (fun _ h => h) (fun u t H locs ht _ hp hB _ _ hS => ?_)
    have hC : CW D κ b r5 H := CW_b hB ht hp
    obtain ⟨v6, ev6, h⟩ := sg_lte h
    refine lv_iinc (v := v6) (lv' := [(2, .int v6), (0, .ref x0), (1, .ref (b + 2))]) (k := 2) hx hb dX1_putDivided_55 hl rfl (sg_inc (by decide) ev6) (by decide) rfl (fun ls hl => ?_)
    refine lv_goto (tgt := 18) hx hb dX1_putDivided_58 (by decide) ?_
    exact hr18 h hx0 (lv_sub hl [1, 2, 0] rfl) hC hS
set_option maxHeartbeats 4000000 in
theorem w_X1_putDivided_B18 {p : Program} {l : Launch} {e : Env} {s : State} {m : MethodId} {args : Array Value} {below : List Frame} {meth : Method} {c : Code} {Q : State → Prop} {D : va_G} {κ : Nat → ClassId} {b : Nat} {H0 : Heap} {rr : Sg} (hZ : sg_Z p c s m args D κ cX1_putDivided 3 RX1 wsX1_putDivided) (hret : ∀ (u : Sg) (H : Heap) (locs : List Loc) (pc : Nat) (ls : Array Slot), some u = some rr → CW D κ b u H → va_S (sg_A b 892) H0 H locs → decode cX1_putDivided pc = .ok (.return_, 1) → W p l e rm_X1_putDivided s m args below meth c H locs 0 0 Q (F0 m pc ls [])) : ∀ n : Nat, ∀ {σ : Sg} {x0 : Nat} {x2 : Int32} {H : Heap} {locs : List Loc} {ls : Array Slot}, fn_X1_putDivided_B18 b n σ x0 x2 = some rr → is_Fld b x0 → lv_has ls 3 [(0, .ref x0), (1, .ref (b + 2)), (2, .int x2)] → CW D κ b σ H → va_S (sg_A b 892) H0 H locs → W p l e rm_X1_putDivided s m args below meth c H locs 0 0 Q (F0 m 18 ls []) := by
  intro n
  induction n with
  | zero => intro σ x0 x2 H locs ls h hx0 hl hC hS; cases (show (none : Option (Sg)) = some rr from h)
  | succ n ih =>
    intro σ x0 x2 H locs ls h hx0 hl hC hS
    exact w_X1_putDivided_B18b hZ hret ih (show fn_X1_putDivided_B18b b (fn_X1_putDivided_B18 b n) σ x0 x2 = some rr from h) hx0 hl hC hS
def fn_X1_putDivided (b : Nat) (σ : Sg) (x0 : Nat) : Option (Sg) :=
  ((fn_X6_add b σ (σ.1 x0 3)).bind fun r1 =>
  ((fn_X6_add b r1 (r1.1 x0 4)).bind fun r2 =>
  fn_X1_putDivided_B18 b sg_N r2 x0 0))
set_option maxHeartbeats 4000000 in
set_option maxRecDepth 100000 in
theorem w_X1_putDivided_B0 {p : Program} {l : Launch} {e : Env} {s : State} {m : MethodId} {args : Array Value} {below : List Frame} {meth : Method} {c : Code} {Q : State → Prop} {D : va_G} {κ : Nat → ClassId} {b : Nat} {H0 : Heap} {rr : Sg} (hZ : sg_Z p c s m args D κ cX1_putDivided 3 RX1 wsX1_putDivided) (hret : ∀ (u : Sg) (H : Heap) (locs : List Loc) (pc : Nat) (ls : Array Slot), some u = some rr → CW D κ b u H → va_S (sg_A b 892) H0 H locs → decode cX1_putDivided pc = .ok (.return_, 1) → W p l e rm_X1_putDivided s m args below meth c H locs 0 0 Q (F0 m pc ls [])) : ∀ {σ : Sg} {x0 : Nat} {H : Heap} {locs : List Loc} {ls : Array Slot}, fn_X1_putDivided b σ x0 = some rr → is_Fld b x0 → lv_has ls 3 [(0, .ref x0), (1, .ref (b + 2))] → CW D κ b σ H → va_S (sg_A b 892) H0 H locs → W p l e rm_X1_putDivided s m args below meth c H locs 0 0 Q (F0 m 0 ls []) := by
  obtain ⟨hx, hb, hml, hown, hts, hK⟩ := hZ
  intro σ x0 H locs ls h hx0 hl hC hS
  unfold fn_X1_putDivided at h
  refine lv_aload_n hx hb dX1_putDivided_0 rfl (lv_at hl 1 rfl) ?_
  refine lv_aload_n hx hb dX1_putDivided_1 rfl (lv_at hl 0 rfl) ?_
  refine va_get (D := D) (ci := 1) (v := .int (σ.1 x0 3)) (C := RX1) (T := TX1) (N := 5) hx hb hts (wqs inW_X1) hown hK.1 hC.1 (x0 - b) (sg_gField hx0) rfl 3 (by decide) (hts _ (wq wt_159)) (fun _ h9 => h9) rfl dX1_putDivided_2 ?_
  obtain ⟨r1, er1, h⟩ := Option.bind_eq_some_iff.mp h
  refine va_callv (va_runV (As := [.int (σ.1 x0 3)]) (rest := []) ⟨hx, hb, hml, hown, hts⟩ (c_X6_add l D κ b σ (σ.1 x0 3) _ er1) (cwV 1 hts (gwV wt_541 wt_222 wt_223 wt_3 wt_224) rfl rfl rfl (by decide +kernel) ⟨Nat.le_of_ble_eq_true rfl, Nat.le_of_ble_eq_true rfl⟩) (CW_preV hK hC sg_gText rfl) rfl rfl hl.1 rfl (lv_room (Nat.le_of_ble_eq_true rfl)) dX1_putDivided_5 ⟨Nat.zero_le _, Nat.zero_le _⟩) hS (fun _ _ h => h) (fun _ h => h) (fun u t H locs ht _ hp hB _ _ hS => ?_)
  have hC : CW D κ b r1 H := CW_b hB ht hp
  refine lv_aload_n hx hb dX1_putDivided_8 rfl (lv_at hl 1 rfl) ?_
  refine lv_aload_n hx hb dX1_putDivided_9 rfl (lv_at hl 0 rfl) ?_
  refine va_get (D := D) (ci := 1) (v := .int (r1.1 x0 4)) (C := RX1) (T := TX1) (N := 5) hx hb hts (wqs inW_X1) hown hK.1 hC.1 (x0 - b) (sg_gField hx0) rfl 4 (by decide) (hts _ (wq wt_162)) (fun _ h9 => h9) rfl dX1_putDivided_10 ?_
  obtain ⟨r2, er2, h⟩ := Option.bind_eq_some_iff.mp h
  refine va_callv (va_runV (As := [.int (r1.1 x0 4)]) (rest := []) ⟨hx, hb, hml, hown, hts⟩ (c_X6_add l D κ b r1 (r1.1 x0 4) _ er2) (cwV 1 hts (gwV wt_541 wt_222 wt_223 wt_3 wt_224) rfl rfl rfl (by decide +kernel) ⟨Nat.le_of_ble_eq_true rfl, Nat.le_of_ble_eq_true rfl⟩) (CW_preV hK hC sg_gText rfl) rfl rfl hl.1 rfl (lv_room (Nat.le_of_ble_eq_true rfl)) dX1_putDivided_13 ⟨Nat.zero_le _, Nat.zero_le _⟩) hS (fun _ _ h => h) (fun _ h => h) (fun u t H locs ht _ hp hB _ _ hS => ?_)
  have hC : CW D κ b r2 H := CW_b hB ht hp
  refine lv_iconst (v := 0) hx hb dX1_putDivided_16 (by decide) ?_
  refine lv_istore_n (lv' := [(2, .int 0), (0, .ref x0), (1, .ref (b + 2))]) hx hb dX1_putDivided_17 rfl hl (by decide) rfl (fun ls hl => ?_)
  exact w_X1_putDivided_B18 ⟨hx, hb, hml, hown, hts, hK⟩ hret  sg_N h hx0 (lv_sub hl [1, 2, 0] rfl) hC hS
set_option maxHeartbeats 4000000 in
set_option maxRecDepth 100000 in
theorem c_X1_putDivided (l : Launch) (D : va_G) (κ : Nat → ClassId) (b : Nat) (σ : Sg) (x0 : Nat) (rr : Sg) (hx0 : is_Fld b x0) (h : fn_X1_putDivided b σ x0 = some rr) : Met l yX1_putDivided wsX1_putDivided rm_X1_putDivided (va_Pc [.ref x0, .ref (b + 2)] (fun U => KK D κ U ∧ CW D κ b σ U.heap)) (va_Qv (fun u : Sg => u = rr) (fun u t => CW D κ b u t.heap) (sg_A b 892)) 0 0 (sg_A b 892) := by
  refine Met.ofW (cc := cX1_putDivided) (maxL := 3) (ret := none) (by decide) rfl ?_
  intro p e s m args below meth c s₁ B hml hv
  obtain ⟨rfl, hK, hC⟩ := hv
  have hr := B.returns
  have hlocks := B.notSynchronized
  have hl := lv_entry ([.ref x0, .ref (b + 2)]) (n := 3) (Nat.le_of_ble_eq_true rfl)
  rw [lg_entry_eq]
  generalize (lg_sl ([.ref x0, .ref (b + 2)]) ++ List.replicate (3 - (lg_sl ([.ref x0, .ref (b + 2)])).length) Slot.unset).toArray = ls at hl ⊢
  have hl : lv_has ls 3 [(0, .ref x0), (1, .ref (b + 2))] := hl
  exact w_X1_putDivided_B0 ⟨B.exec, B.bytes, hml, findClass_of_methodNamed B.named, atoms_spec (ws := wsX1_putDivided) B.pre, hK⟩ (fun u H locs pc ls hq hC hS hd => W.vret B.exec B.bytes hr (fun t ht hW => ⟨⟨_, rfl, Option.some.inj hq, CW_e ht hC⟩, hS.F ht⟩) hS.2.2 hd) h hx0 hl hC va_S.rf

-- RecordShelf$Field.putInto(LRecordShelf$Text;)V
theorem dX1_putInto_0 : decode cX1_putInto 0 = .ok (.aload_n 0, 1) := by decide +kernel
theorem dX1_putInto_1 : decode cX1_putInto 1 = .ok (.invokevirtual 54, 3) := by decide +kernel
theorem dX1_putInto_4 : decode cX1_putInto 4 = .ok (.ifCond .eq 16, 3) := by decide +kernel
theorem dX1_putInto_7 : decode cX1_putInto 7 = .ok (.aload_n 0, 1) := by decide +kernel
theorem dX1_putInto_8 : decode cX1_putInto 8 = .ok (.getfield 11, 3) := by decide +kernel
theorem dX1_putInto_11 : decode cX1_putInto 11 = .ok (.iconst 0, 1) := by decide +kernel
theorem dX1_putInto_12 : decode cX1_putInto 12 = .ok (.aaload, 1) := by decide +kernel
theorem dX1_putInto_13 : decode cX1_putInto 13 = .ok (.aload_n 1, 1) := by decide +kernel
theorem dX1_putInto_14 : decode cX1_putInto 14 = .ok (.invokevirtual 60, 3) := by decide +kernel
theorem dX1_putInto_17 : decode cX1_putInto 17 = .ok (.goto 8, 3) := by decide +kernel
theorem dX1_putInto_20 : decode cX1_putInto 20 = .ok (.aload_n 0, 1) := by decide +kernel
theorem dX1_putInto_21 : decode cX1_putInto 21 = .ok (.aload_n 1, 1) := by decide +kernel
theorem dX1_putInto_22 : decode cX1_putInto 22 = .ok (.invokevirtual 64, 3) := by decide +kernel
theorem dX1_putInto_25 : decode cX1_putInto 25 = .ok (.aload_n 1, 1) := by decide +kernel
theorem dX1_putInto_26 : decode cX1_putInto 26 = .ok (.bipush 30, 2) := by decide +kernel
theorem dX1_putInto_28 : decode cX1_putInto 28 = .ok (.invokevirtual 67, 3) := by decide +kernel
theorem dX1_putInto_31 : decode cX1_putInto 31 = .ok (.return_, 1) := by decide +kernel
def rm_X1_putInto : Room := { frames := 3, cells := 0, slots := 0, locals := 65 }
def fn_X1_putInto_B25 (b : Nat) (σ : Sg) : Option (Sg) :=
  ((fn_X6_add b σ 30).bind fun r1 =>
  some r1)
set_option maxHeartbeats 4000000 in
set_option maxRecDepth 100000 in
theorem w_X1_putInto_B25 {p : Program} {l : Launch} {e : Env} {s : State} {m : MethodId} {args : Array Value} {below : List Frame} {meth : Method} {c : Code} {Q : State → Prop} {D : va_G} {κ : Nat → ClassId} {b : Nat} {H0 : Heap} {rr : Sg} (hZ : sg_Z p c s m args D κ cX1_putInto 2 RX1 wsX1_putInto) (hret : ∀ (u : Sg) (H : Heap) (locs : List Loc) (pc : Nat) (ls : Array Slot), some u = some rr → CW D κ b u H → va_S (sg_A b 892) H0 H locs → decode cX1_putInto pc = .ok (.return_, 1) → W p l e rm_X1_putInto s m args below meth c H locs 0 0 Q (F0 m pc ls [])) : ∀ {σ : Sg} {H : Heap} {locs : List Loc} {ls : Array Slot}, fn_X1_putInto_B25 b σ = some rr → lv_has ls 2 [(1, .ref (b + 2))] → CW D κ b σ H → va_S (sg_A b 892) H0 H locs → W p l e rm_X1_putInto s m args below meth c H locs 0 0 Q (F0 m 25 ls []) := by
  obtain ⟨hx, hb, hml, hown, hts, hK⟩ := hZ
  intro σ H locs ls h hl hC hS
  unfold fn_X1_putInto_B25 at h
  refine lv_aload_n hx hb dX1_putInto_25 rfl (lv_at hl 0 rfl) ?_
  refine lv_bipush (v := 30) hx hb dX1_putInto_26 (by decide) ?_
  obtain ⟨r1, er1, h⟩ := Option.bind_eq_some_iff.mp h
  refine va_callv (va_runV (As := [.int 30]) (rest := []) ⟨hx, hb, hml, hown, hts⟩ (c_X6_add l D κ b σ 30 _ er1) (cwV 1 hts (gwV wt_541 wt_222 wt_223 wt_3 wt_224) rfl rfl rfl (by decide +kernel) ⟨Nat.le_of_ble_eq_true rfl, Nat.le_of_ble_eq_true rfl⟩) (CW_preV hK hC sg_gText rfl) rfl rfl hl.1 rfl (lv_room (Nat.le_of_ble_eq_true rfl)) dX1_putInto_28 ⟨Nat.zero_le _, Nat.zero_le _⟩) hS (fun _ _ h => h) (fun _ h => h) (fun u t H locs ht _ hp hB _ _ hS => ?_)
  have hC : CW D κ b r1 H := CW_b hB ht hp
  exact hret _ _ _ _ _ h hC hS dX1_putInto_31
def fn_X1_putInto (b : Nat) (σ : Sg) (x0 : Nat) : Option (Sg) :=
  ((fn_X1_isSimple b σ x0).bind fun r1 =>
  (if r1 = 0 then
  ((fn_X1_putDivided b σ x0).bind fun r2 =>
  fn_X1_putInto_B25 b r2)
  else (if sg_ib 0 4 then
  ((fn_X5_putLetters b σ (x0 + 2 + 4 * sg_x 0)).bind fun r4 =>
  fn_X1_putInto_B25 b r4)
  else none)))
set_option maxHeartbeats 4000000 in
set_option maxRecDepth 100000 in
theorem w_X1_putInto_B0 {p : Program} {l : Launch} {e : Env} {s : State} {m : MethodId} {args : Array Value} {below : List Frame} {meth : Method} {c : Code} {Q : State → Prop} {D : va_G} {κ : Nat → ClassId} {b : Nat} {H0 : Heap} {rr : Sg} (hZ : sg_Z p c s m args D κ cX1_putInto 2 RX1 wsX1_putInto) (hret : ∀ (u : Sg) (H : Heap) (locs : List Loc) (pc : Nat) (ls : Array Slot), some u = some rr → CW D κ b u H → va_S (sg_A b 892) H0 H locs → decode cX1_putInto pc = .ok (.return_, 1) → W p l e rm_X1_putInto s m args below meth c H locs 0 0 Q (F0 m pc ls [])) : ∀ {σ : Sg} {x0 : Nat} {H : Heap} {locs : List Loc} {ls : Array Slot}, fn_X1_putInto b σ x0 = some rr → is_Fld b x0 → lv_has ls 2 [(0, .ref x0), (1, .ref (b + 2))] → CW D κ b σ H → va_S (sg_A b 892) H0 H locs → W p l e rm_X1_putInto s m args below meth c H locs 0 0 Q (F0 m 0 ls []) := by
  obtain ⟨hx, hb, hml, hown, hts, hK⟩ := hZ
  intro σ x0 H locs ls h hx0 hl hC hS
  unfold fn_X1_putInto at h
  refine lv_aload_n hx hb dX1_putInto_0 rfl (lv_at hl 0 rfl) ?_
  obtain ⟨r1, er1, h⟩ := Option.bind_eq_some_iff.mp h
  refine va_calli (va_runV (As := []) (rest := []) ⟨hx, hb, hml, hown, hts⟩ (c_X1_isSimple l D κ b σ x0 _ hx0 er1) (cwV 0 hts (gwV wt_503 wt_355 wt_356 wt_7 wt_357) rfl rfl rfl (by decide +kernel) ⟨Nat.le_of_ble_eq_true rfl, Nat.le_of_ble_eq_true rfl⟩) (CW_preV hK hC (sg_gField hx0) rfl) rfl rfl hl.1 rfl (lv_room (Nat.le_of_ble_eq_true rfl)) dX1_putInto_1 ⟨Nat.zero_le _, Nat.zero_le _⟩) hS (fun _ _ h => h) (fun _ h => h) (fun r u t H locs ht _ hp hB _ _ hS => ?_)
  refine sg_topi hp.1 ?_
  have hC : CW D κ b σ H := CW_b hB ht hp.2
  refine lv_if_eq (tgt := 20) hx hb dX1_putInto_4 (by decide) (fun hc => ?_) (fun hc => ?_)
  · replace h := (if_pos hc).symm.trans h
    refine lv_aload_n hx hb dX1_putInto_20 rfl (lv_at hl 0 rfl) ?_
    refine lv_aload_n hx hb dX1_putInto_21 rfl (lv_at hl 1 rfl) ?_
    obtain ⟨r2, er2, h⟩ := Option.bind_eq_some_iff.mp h
    refine va_callv (va_runV (As := [.ref (b + 2)]) (rest := []) ⟨hx, hb, hml, hown, hts⟩ (c_X1_putDivided l D κ b σ x0 _ hx0 er2) (cwV 1 hts (gwV wt_537 wt_539 wp_24 wt_7 wt_540) rfl rfl rfl (by decide +kernel) ⟨Nat.le_of_ble_eq_true rfl, Nat.le_of_ble_eq_true rfl⟩) (CW_preV hK hC (sg_gField hx0) rfl) rfl rfl hl.1 rfl (lv_room (Nat.le_of_ble_eq_true rfl)) dX1_putInto_22 ⟨Nat.zero_le _, Nat.zero_le _⟩) hS (fun _ _ h => h) (fun _ h => h) (fun u t H locs ht _ hp hB _ _ hS => ?_)
    have hC : CW D κ b r2 H := CW_b hB ht hp
    exact w_X1_putInto_B25 ⟨hx, hb, hml, hown, hts, hK⟩ hret  h (lv_sub hl [1] rfl) hC hS
  · replace h := (if_neg hc).symm.trans h
    refine lv_aload_n hx hb dX1_putInto_7 rfl (lv_at hl 0 rfl) ?_
    refine va_get (D := D) (ci := 1) (v := .ref (x0 + 1)) (C := RX1) (T := TX1) (N := 5) hx hb hts (wqs inW_X1) hown hK.1 hC.1 (x0 - b) (sg_gField hx0) rfl 0 (by decide) (hts _ (wq wt_148)) (fun _ h9 => h9) rfl dX1_putInto_8 ?_
    refine lv_iconst (v := 0) hx hb dX1_putInto_11 (by decide) ?_
    obtain ⟨hg, h⟩ := sg_gd h
    refine va_aldq (C := "RecordShelf$Subfield") hx hb hK.1 hC.1 ((x0 + 1) - b) 4 (sg_gsubs hx0) rfl (sg_in hg) dX1_putInto_12 ?_
    have hv3 := sg_vSub hx0 hg
    refine W.eq (g2 := F0 m 13 ls [.ref (x0 + 2 + 4 * sg_x 0)]) rfl ?_
    refine lv_aload_n hx hb dX1_putInto_13 rfl (lv_at hl 1 rfl) ?_
    obtain ⟨r4, er4, h⟩ := Option.bind_eq_some_iff.mp h
    refine va_callv (va_runV (As := [.ref (b + 2)]) (rest := []) ⟨hx, hb, hml, hown, hts⟩ (c_X5_putLetters l D κ b σ (x0 + 2 + 4 * sg_x 0) _ hv3 er4) (cwV 1 hts (gwV wt_532 wt_533 wt_534 wt_8 wt_535) rfl rfl rfl (by decide +kernel) ⟨Nat.le_of_ble_eq_true rfl, Nat.le_of_ble_eq_true rfl⟩) (CW_preV hK hC (sg_gSub hv3) rfl) rfl rfl hl.1 rfl (lv_room (Nat.le_of_ble_eq_true rfl)) dX1_putInto_14 ⟨Nat.zero_le _, Nat.zero_le _⟩) hS (fun _ _ h => h) (fun _ h => h) (fun u t H locs ht _ hp hB _ _ hS => ?_)
    have hC : CW D κ b r4 H := CW_b hB ht hp
    refine lv_goto (tgt := 25) hx hb dX1_putInto_17 (by decide) ?_
    exact w_X1_putInto_B25 ⟨hx, hb, hml, hown, hts, hK⟩ hret  h (lv_sub hl [1] rfl) hC hS
set_option maxHeartbeats 4000000 in
set_option maxRecDepth 100000 in
theorem c_X1_putInto (l : Launch) (D : va_G) (κ : Nat → ClassId) (b : Nat) (σ : Sg) (x0 : Nat) (rr : Sg) (hx0 : is_Fld b x0) (h : fn_X1_putInto b σ x0 = some rr) : Met l yX1_putInto wsX1_putInto rm_X1_putInto (va_Pc [.ref x0, .ref (b + 2)] (fun U => KK D κ U ∧ CW D κ b σ U.heap)) (va_Qv (fun u : Sg => u = rr) (fun u t => CW D κ b u t.heap) (sg_A b 892)) 0 0 (sg_A b 892) := by
  refine Met.ofW (cc := cX1_putInto) (maxL := 2) (ret := none) (by decide) rfl ?_
  intro p e s m args below meth c s₁ B hml hv
  obtain ⟨rfl, hK, hC⟩ := hv
  have hr := B.returns
  have hlocks := B.notSynchronized
  have hl := lv_entry ([.ref x0, .ref (b + 2)]) (n := 2) (Nat.le_of_ble_eq_true rfl)
  rw [lg_entry_eq]
  generalize (lg_sl ([.ref x0, .ref (b + 2)]) ++ List.replicate (2 - (lg_sl ([.ref x0, .ref (b + 2)])).length) Slot.unset).toArray = ls at hl ⊢
  have hl : lv_has ls 2 [(0, .ref x0), (1, .ref (b + 2))] := hl
  exact w_X1_putInto_B0 ⟨B.exec, B.bytes, hml, findClass_of_methodNamed B.named, atoms_spec (ws := wsX1_putInto) B.pre, hK⟩ (fun u H locs pc ls hq hC hS hd => W.vret B.exec B.bytes hr (fun t ht hW => ⟨⟨_, rfl, Option.some.inj hq, CW_e ht hC⟩, hS.F ht⟩) hS.2.2 hd) h hx0 hl hC va_S.rf

-- RecordShelf$Field.isFull()Z
theorem dX1_isFull_0 : decode cX1_isFull 0 = .ok (.aload_n 0, 1) := by decide +kernel
theorem dX1_isFull_1 : decode cX1_isFull 1 = .ok (.getfield 29, 3) := by decide +kernel
theorem dX1_isFull_4 : decode cX1_isFull 4 = .ok (.iconst 4, 1) := by decide +kernel
theorem dX1_isFull_5 : decode cX1_isFull 5 = .ok (.if_icmp .lt 7, 3) := by decide +kernel
theorem dX1_isFull_8 : decode cX1_isFull 8 = .ok (.iconst 1, 1) := by decide +kernel
theorem dX1_isFull_9 : decode cX1_isFull 9 = .ok (.goto 4, 3) := by decide +kernel
theorem dX1_isFull_12 : decode cX1_isFull 12 = .ok (.iconst 0, 1) := by decide +kernel
theorem dX1_isFull_13 : decode cX1_isFull 13 = .ok (.ireturn, 1) := by decide +kernel
def rm_X1_isFull : Room := { frames := 0, cells := 0, slots := 0, locals := 0 }
def fn_X1_isFull (b : Nat) (σ : Sg) (x0 : Nat) : Option (Int32) :=
  (if (σ.1 x0 1) < 4 then
  some 0
  else some 1)
set_option maxHeartbeats 4000000 in
set_option maxRecDepth 100000 in
theorem w_X1_isFull_B0 {p : Program} {l : Launch} {e : Env} {s : State} {m : MethodId} {args : Array Value} {below : List Frame} {meth : Method} {c : Code} {Q : State → Prop} {D : va_G} {κ : Nat → ClassId} {b : Nat} {H0 : Heap} {rr : Int32} {σ : Sg} (hZ : sg_Z p c s m args D κ cX1_isFull 1 RX1 wsX1_isFull) (hret : ∀ (v : Int32) (H : Heap) (locs : List Loc) (pc : Nat) (ls : Array Slot), some v = some rr → narrow .boolean (.int v) = .int v → CW D κ b σ H → va_S (sg_A b 892) H0 H locs → decode cX1_isFull pc = .ok (.ireturn, 1) → W p l e rm_X1_isFull s m args below meth c H locs 0 0 Q (F0 m pc ls [.int v])) : ∀ {x0 : Nat} {H : Heap} {locs : List Loc} {ls : Array Slot}, fn_X1_isFull b σ x0 = some rr → is_Fld b x0 → lv_has ls 1 [(0, .ref x0)] → CW D κ b σ H → va_S (sg_A b 892) H0 H locs → W p l e rm_X1_isFull s m args below meth c H locs 0 0 Q (F0 m 0 ls []) := by
  obtain ⟨hx, hb, hml, hown, hts, hK⟩ := hZ
  intro x0 H locs ls h hx0 hl hC hS
  unfold fn_X1_isFull at h
  refine lv_aload_n hx hb dX1_isFull_0 rfl (lv_at hl 0 rfl) ?_
  refine va_get (D := D) (ci := 1) (v := .int (σ.1 x0 1)) (C := RX1) (T := TX1) (N := 5) hx hb hts (wqs inW_X1) hown hK.1 hC.1 (x0 - b) (sg_gField hx0) rfl 1 (by decide) (hts _ (wq wt_152)) (fun _ h9 => h9) rfl dX1_isFull_1 ?_
  refine lv_iconst (v := 4) hx hb dX1_isFull_4 (by decide) ?_
  refine lv_icmp_lt (tgt := 12) hx hb dX1_isFull_5 (by decide) (fun hc => ?_) (fun hc => ?_)
  · replace h := (if_pos hc).symm.trans h
    refine lv_iconst (v := 0) hx hb dX1_isFull_12 (by decide) ?_
    exact hret _ _ _ _ _ h (by decide) hC hS dX1_isFull_13
  · replace h := (if_neg hc).symm.trans h
    refine lv_iconst (v := 1) hx hb dX1_isFull_8 (by decide) ?_
    refine lv_goto (tgt := 13) hx hb dX1_isFull_9 (by decide) ?_
    exact hret _ _ _ _ _ h (by decide) hC hS dX1_isFull_13
set_option maxHeartbeats 4000000 in
set_option maxRecDepth 100000 in
theorem c_X1_isFull (l : Launch) (D : va_G) (κ : Nat → ClassId) (b : Nat) (σ : Sg) (x0 : Nat) (rr : Int32) (hx0 : is_Fld b x0) (h : fn_X1_isFull b σ x0 = some rr) : Met l yX1_isFull wsX1_isFull rm_X1_isFull (va_Pc [.ref x0] (fun U => KK D κ U ∧ CW D κ b σ U.heap)) (va_Qi (fun (r : Int32) (u : Sg) => r = rr ∧ u = σ) (fun u t => CW D κ b u t.heap) (sg_A b 892)) 0 0 (sg_A b 892) := by
  refine Met.ofW (cc := cX1_isFull) (maxL := 1) (ret := (some .boolean)) (by decide) rfl ?_
  intro p e s m args below meth c s₁ B hml hv
  obtain ⟨rfl, hK, hC⟩ := hv
  have hr := B.returns
  have hlocks := B.notSynchronized
  have hl := lv_entry ([.ref x0]) (n := 1) (Nat.le_of_ble_eq_true rfl)
  rw [lg_entry_eq]
  generalize (lg_sl ([.ref x0]) ++ List.replicate (1 - (lg_sl ([.ref x0])).length) Slot.unset).toArray = ls at hl ⊢
  have hl : lv_has ls 1 [(0, .ref x0)] := hl
  exact w_X1_isFull_B0 ⟨B.exec, B.bytes, hml, findClass_of_methodNamed B.named, atoms_spec (ws := wsX1_isFull) B.pre, hK⟩ (fun v H locs pc ls hq hbo hC hS hd => W.zret B.exec B.bytes hr hbo (fun t ht hW => ⟨⟨v, _, rfl, ⟨Option.some.inj hq, rfl⟩, CW_e ht hC⟩, hS.F ht⟩) hS.2.2 hd) h hx0 hl hC va_S.rf

-- RecordShelf$Field.addSubfield(C)V
theorem dX1_addSubfield_0 : decode cX1_addSubfield 0 = .ok (.aload_n 0, 1) := by decide +kernel
theorem dX1_addSubfield_1 : decode cX1_addSubfield 1 = .ok (.invokevirtual 32, 3) := by decide +kernel
theorem dX1_addSubfield_4 : decode cX1_addSubfield 4 = .ok (.ifCond .ne 26, 3) := by decide +kernel
theorem dX1_addSubfield_7 : decode cX1_addSubfield 7 = .ok (.aload_n 0, 1) := by decide +kernel
theorem dX1_addSubfield_8 : decode cX1_addSubfield 8 = .ok (.getfield 11, 3) := by decide +kernel
theorem dX1_addSubfield_11 : decode cX1_addSubfield 11 = .ok (.aload_n 0, 1) := by decide +kernel
theorem dX1_addSubfield_12 : decode cX1_addSubfield 12 = .ok (.getfield 29, 3) := by decide +kernel
theorem dX1_addSubfield_15 : decode cX1_addSubfield 15 = .ok (.aaload, 1) := by decide +kernel
theorem dX1_addSubfield_16 : decode cX1_addSubfield 16 = .ok (.iload_n 1, 1) := by decide +kernel
theorem dX1_addSubfield_17 : decode cX1_addSubfield 17 = .ok (.invokevirtual 36, 3) := by decide +kernel
theorem dX1_addSubfield_20 : decode cX1_addSubfield 20 = .ok (.aload_n 0, 1) := by decide +kernel
theorem dX1_addSubfield_21 : decode cX1_addSubfield 21 = .ok (.dup, 1) := by decide +kernel
theorem dX1_addSubfield_22 : decode cX1_addSubfield 22 = .ok (.getfield 29, 3) := by decide +kernel
theorem dX1_addSubfield_25 : decode cX1_addSubfield 25 = .ok (.iconst 1, 1) := by decide +kernel
theorem dX1_addSubfield_26 : decode cX1_addSubfield 26 = .ok (.iadd, 1) := by decide +kernel
theorem dX1_addSubfield_27 : decode cX1_addSubfield 27 = .ok (.putfield 29, 3) := by decide +kernel
theorem dX1_addSubfield_30 : decode cX1_addSubfield 30 = .ok (.return_, 1) := by decide +kernel
def rm_X1_addSubfield : Room := { frames := 2, cells := 0, slots := 0, locals := 41 }
def fn_X1_addSubfield (b : Nat) (σ : Sg) (x0 : Nat) (x1 : Int32) : Option (Sg) :=
  ((fn_X1_isFull b σ x0).bind fun r1 =>
  (if r1 = 0 then
  (if sg_ib (σ.1 x0 1) 4 then
  ((fn_X5_begin b σ (x0 + 2 + 4 * sg_x (σ.1 x0 1)) x1).bind fun r3 =>
  (sg_lt (sg_w r3 x0 1 ((r3.1 x0 1) + 1)) fun σ4 =>
  some σ4))
  else none)
  else some σ))
set_option maxHeartbeats 4000000 in
set_option maxRecDepth 100000 in
theorem w_X1_addSubfield_B0 {p : Program} {l : Launch} {e : Env} {s : State} {m : MethodId} {args : Array Value} {below : List Frame} {meth : Method} {c : Code} {Q : State → Prop} {D : va_G} {κ : Nat → ClassId} {b : Nat} {H0 : Heap} {rr : Sg} (hZ : sg_Z p c s m args D κ cX1_addSubfield 2 RX1 wsX1_addSubfield) (hret : ∀ (u : Sg) (H : Heap) (locs : List Loc) (pc : Nat) (ls : Array Slot), some u = some rr → CW D κ b u H → va_S (sg_A b 892) H0 H locs → decode cX1_addSubfield pc = .ok (.return_, 1) → W p l e rm_X1_addSubfield s m args below meth c H locs 0 0 Q (F0 m pc ls [])) : ∀ {σ : Sg} {x0 : Nat} {x1 : Int32} {H : Heap} {locs : List Loc} {ls : Array Slot}, fn_X1_addSubfield b σ x0 x1 = some rr → is_Fld b x0 → lv_has ls 2 [(0, .ref x0), (1, .int x1)] → CW D κ b σ H → va_S (sg_A b 892) H0 H locs → W p l e rm_X1_addSubfield s m args below meth c H locs 0 0 Q (F0 m 0 ls []) := by
  obtain ⟨hx, hb, hml, hown, hts, hK⟩ := hZ
  intro σ x0 x1 H locs ls h hx0 hl hC hS
  unfold fn_X1_addSubfield at h
  refine lv_aload_n hx hb dX1_addSubfield_0 rfl (lv_at hl 0 rfl) ?_
  obtain ⟨r1, er1, h⟩ := Option.bind_eq_some_iff.mp h
  refine va_calli (va_runV (As := []) (rest := []) ⟨hx, hb, hml, hown, hts⟩ (c_X1_isFull l D κ b σ x0 _ hx0 er1) (cwV 0 hts (gwV wt_374 wt_375 wt_376 wt_7 wt_377) rfl rfl rfl (by decide +kernel) ⟨Nat.le_of_ble_eq_true rfl, Nat.le_of_ble_eq_true rfl⟩) (CW_preV hK hC (sg_gField hx0) rfl) rfl rfl hl.1 rfl (lv_room (Nat.le_of_ble_eq_true rfl)) dX1_addSubfield_1 ⟨Nat.zero_le _, Nat.zero_le _⟩) hS (fun _ _ h => h) (fun _ h => h) (fun r u t H locs ht _ hp hB _ _ hS => ?_)
  refine sg_topi hp.1 ?_
  have hC : CW D κ b σ H := CW_b hB ht hp.2
  refine lv_if_ne (tgt := 30) hx hb dX1_addSubfield_4 (by decide) (fun hc => ?_) (fun hc => ?_)
  · replace h := (if_neg hc).symm.trans h
    exact hret _ _ _ _ _ h hC hS dX1_addSubfield_30
  · replace h := (if_pos hc).symm.trans h
    refine lv_aload_n hx hb dX1_addSubfield_7 rfl (lv_at hl 0 rfl) ?_
    refine va_get (D := D) (ci := 1) (v := .ref (x0 + 1)) (C := RX1) (T := TX1) (N := 5) hx hb hts (wqs inW_X1) hown hK.1 hC.1 (x0 - b) (sg_gField hx0) rfl 0 (by decide) (hts _ (wq wt_148)) (fun _ h9 => h9) rfl dX1_addSubfield_8 ?_
    refine lv_aload_n hx hb dX1_addSubfield_11 rfl (lv_at hl 0 rfl) ?_
    refine va_get (D := D) (ci := 1) (v := .int (σ.1 x0 1)) (C := RX1) (T := TX1) (N := 5) hx hb hts (wqs inW_X1) hown hK.1 hC.1 (x0 - b) (sg_gField hx0) rfl 1 (by decide) (hts _ (wq wt_152)) (fun _ h9 => h9) rfl dX1_addSubfield_12 ?_
    obtain ⟨hg, h⟩ := sg_gd h
    refine va_aldq (C := "RecordShelf$Subfield") hx hb hK.1 hC.1 ((x0 + 1) - b) 4 (sg_gsubs hx0) rfl (sg_in hg) dX1_addSubfield_15 ?_
    have hv2 := sg_vSub hx0 hg
    refine W.eq (g2 := F0 m 16 ls [.ref (x0 + 2 + 4 * sg_x (σ.1 x0 1))]) rfl ?_
    refine lv_iload_n hx hb dX1_addSubfield_16 rfl (lv_at hl 1 rfl) ?_
    obtain ⟨r3, er3, h⟩ := Option.bind_eq_some_iff.mp h
    refine va_callv (va_runV (As := [.int x1]) (rest := []) ⟨hx, hb, hml, hown, hts⟩ (c_X5_begin l D κ b σ (x0 + 2 + 4 * sg_x (σ.1 x0 1)) x1 _ hv2 er3) (cwV 1 hts (gwV wt_378 wt_379 wt_380 wt_8 wt_381) rfl rfl rfl (by decide +kernel) ⟨Nat.le_of_ble_eq_true rfl, Nat.le_of_ble_eq_true rfl⟩) (CW_preV hK hC (sg_gSub hv2) rfl) rfl rfl hl.1 rfl (lv_room (Nat.le_of_ble_eq_true rfl)) dX1_addSubfield_17 ⟨Nat.zero_le _, Nat.zero_le _⟩) hS (fun _ _ h => h) (fun _ h => h) (fun u t H locs ht _ hp hB _ _ hS => ?_)
    have hC : CW D κ b r3 H := CW_b hB ht hp
    refine lv_aload_n hx hb dX1_addSubfield_20 rfl (lv_at hl 0 rfl) ?_
    refine lv_dup hx hb dX1_addSubfield_21 rfl ?_
    refine va_get (D := D) (ci := 1) (v := .int (r3.1 x0 1)) (C := RX1) (T := TX1) (N := 5) hx hb hts (wqs inW_X1) hown hK.1 hC.1 (x0 - b) (sg_gField hx0) rfl 1 (by decide) (hts _ (wq wt_152)) (fun _ h9 => h9) rfl dX1_addSubfield_22 ?_
    refine lv_iconst (v := 1) hx hb dX1_addSubfield_25 (by decide) ?_
    refine lv_iadd hx hb dX1_addSubfield_26 ?_
    refine va_put (D := D) (ci := 1) (v := .int ((r3.1 x0 1) + 1)) (ty := .int) (C := RX1) (T := TX1) (N := 5) hx hb hts (wqs inW_X1) tyX1 tyX1_ok nmX1 hown hK.1 hC.1 sg_D hS (x0 - b) (sg_gField hx0) rfl 1 (by decide) (hts _ (wq wt_152)) (fun _ h9 => h9) rfl (by decide +kernel) rfl rfl (Nat.le_of_ble_eq_true rfl) dX1_addSubfield_27 (fun H locs hP _ hS => ?_)
    obtain ⟨σ4, eσ4, h⟩ := sg_lte h
    have hC : CW D κ b σ4 H := eσ4 ▸ CW_put (k := 1) (v := ((r3.1 x0 1) + 1)) hC (sg_aField hx0) (sg_yField hx0 _ _) hP
    exact hret _ _ _ _ _ h hC hS dX1_addSubfield_30
set_option maxHeartbeats 4000000 in
set_option maxRecDepth 100000 in
theorem c_X1_addSubfield (l : Launch) (D : va_G) (κ : Nat → ClassId) (b : Nat) (σ : Sg) (x0 : Nat) (x1 : Int32) (rr : Sg) (hx0 : is_Fld b x0) (h : fn_X1_addSubfield b σ x0 x1 = some rr) : Met l yX1_addSubfield wsX1_addSubfield rm_X1_addSubfield (va_Pc [.ref x0, .int x1] (fun U => KK D κ U ∧ CW D κ b σ U.heap)) (va_Qv (fun u : Sg => u = rr) (fun u t => CW D κ b u t.heap) (sg_A b 892)) 0 0 (sg_A b 892) := by
  refine Met.ofW (cc := cX1_addSubfield) (maxL := 2) (ret := none) (by decide) rfl ?_
  intro p e s m args below meth c s₁ B hml hv
  obtain ⟨rfl, hK, hC⟩ := hv
  have hr := B.returns
  have hlocks := B.notSynchronized
  have hl := lv_entry ([.ref x0, .int x1]) (n := 2) (Nat.le_of_ble_eq_true rfl)
  rw [lg_entry_eq]
  generalize (lg_sl ([.ref x0, .int x1]) ++ List.replicate (2 - (lg_sl ([.ref x0, .int x1])).length) Slot.unset).toArray = ls at hl ⊢
  have hl : lv_has ls 2 [(0, .ref x0), (1, .int x1)] := hl
  exact w_X1_addSubfield_B0 ⟨B.exec, B.bytes, hml, findClass_of_methodNamed B.named, atoms_spec (ws := wsX1_addSubfield) B.pre, hK⟩ (fun u H locs pc ls hq hC hS hd => W.vret B.exec B.bytes hr (fun t ht hW => ⟨⟨_, rfl, Option.some.inj hq, CW_e ht hC⟩, hS.F ht⟩) hS.2.2 hd) h hx0 hl hC va_S.rf
