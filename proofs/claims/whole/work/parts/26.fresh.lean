-- RecordShelf$Card.begin()V
theorem dX0_begin_0 : decode cX0_begin 0 = .ok (.aload_n 0, 1) := by decide +kernel
theorem dX0_begin_1 : decode cX0_begin 1 = .ok (.iconst 0, 1) := by decide +kernel
theorem dX0_begin_2 : decode cX0_begin 2 = .ok (.putfield 22, 3) := by decide +kernel
theorem dX0_begin_5 : decode cX0_begin 5 = .ok (.iconst 0, 1) := by decide +kernel
theorem dX0_begin_6 : decode cX0_begin 6 = .ok (.istore_n 1, 1) := by decide +kernel
theorem dX0_begin_7 : decode cX0_begin 7 = .ok (.iload_n 1, 1) := by decide +kernel
theorem dX0_begin_8 : decode cX0_begin 8 = .ok (.bipush 8, 2) := by decide +kernel
theorem dX0_begin_10 : decode cX0_begin 10 = .ok (.if_icmp .ge 21, 3) := by decide +kernel
theorem dX0_begin_13 : decode cX0_begin 13 = .ok (.aload_n 0, 1) := by decide +kernel
theorem dX0_begin_14 : decode cX0_begin 14 = .ok (.getfield 9, 3) := by decide +kernel
theorem dX0_begin_17 : decode cX0_begin 17 = .ok (.iload_n 1, 1) := by decide +kernel
theorem dX0_begin_18 : decode cX0_begin 18 = .ok (.ldc 26, 2) := by decide +kernel
theorem dX0_begin_20 : decode cX0_begin 20 = .ok (.iload_n 1, 1) := by decide +kernel
theorem dX0_begin_21 : decode cX0_begin 21 = .ok (.invokevirtual 28, 3) := by decide +kernel
theorem dX0_begin_24 : decode cX0_begin 24 = .ok (.castore, 1) := by decide +kernel
theorem dX0_begin_25 : decode cX0_begin 25 = .ok (.iinc 1 1, 3) := by decide +kernel
theorem dX0_begin_28 : decode cX0_begin 28 = .ok (.goto (-21), 3) := by decide +kernel
theorem dX0_begin_31 : decode cX0_begin 31 = .ok (.return_, 1) := by decide +kernel
def rm_X0_begin : Room := { frames := 4, cells := 0, slots := 0, locals := 85 }
def fn_X0_begin_B7b (b : Nat) (z7 : Sg → Nat → Int32 → Option (Sg)) (σ : Sg) (x0 : Nat) (x1 : Int32) : Option (Sg) :=
  (if (8 : Int32) ≤ x1 then
  some σ
  else (if sg_ib x1 8 then
  (if sg_ib x1 8 then
  (sg_lt (sg_w σ (x0 + 1) (sg_x x1) (vp_nar .char (sg_nam (sg_x x1)))) fun σ1 =>
  (sg_lt (x1 + 1 : Int32) fun v2 =>
  z7 σ1 x0 v2))
  else none)
  else none))
def fn_X0_begin_B7 (b : Nat) : Nat → Sg → Nat → Int32 → Option (Sg)
  | 0 => fun _ _ _ => none
  | n + 1 => fun σ x0 x1 => fn_X0_begin_B7b b (fn_X0_begin_B7 b n) σ x0 x1
set_option maxHeartbeats 4000000 in
set_option maxRecDepth 100000 in
theorem w_X0_begin_B7b {p : Program} {l : Launch} {e : Env} {s : State} {m : MethodId} {args : Array Value} {below : List Frame} {meth : Method} {c : Code} {Q : State → Prop} {D : va_G} {κ : Nat → ClassId} {b : Nat} {qs vs : Nat} {rr : Sg} (hZ : sg_Z p c s m args D κ cX0_begin 2 RX0 wsX0_begin) (hV : SS b qs vs s s.heap) (hret : ∀ (u : Sg) (H : Heap) (locs : List Loc) (pc : Nat) (ls : Array Slot), some u = some rr → CW D κ b u H → va_S (sg_A b 892) s.heap H locs → decode cX0_begin pc = .ok (.return_, 1) → W p l e rm_X0_begin s m args below meth c H locs 0 0 Q (F0 m pc ls [])) {z7 : Sg → Nat → Int32 → Option (Sg)} (hr7 : ∀ {σ : Sg} {x0 : Nat} {x1 : Int32} {H : Heap} {locs : List Loc} {ls : Array Slot}, z7 σ x0 x1 = some rr → is_Card b x0 → lv_has ls 2 [(0, .ref x0), (1, .int x1)] → CW D κ b σ H → va_S (sg_A b 892) s.heap H locs → W p l e rm_X0_begin s m args below meth c H locs 0 0 Q (F0 m 7 ls [])) : ∀ {σ : Sg} {x0 : Nat} {x1 : Int32} {H : Heap} {locs : List Loc} {ls : Array Slot}, fn_X0_begin_B7b b z7 σ x0 x1 = some rr → is_Card b x0 → lv_has ls 2 [(0, .ref x0), (1, .int x1)] → CW D κ b σ H → va_S (sg_A b 892) s.heap H locs → W p l e rm_X0_begin s m args below meth c H locs 0 0 Q (F0 m 7 ls []) := by
  obtain ⟨hx, hb, hml, hown, hts, hK⟩ := hZ
  intro σ x0 x1 H locs ls h hx0 hl hC hS
  unfold fn_X0_begin_B7b at h
  refine lv_iload_n hx hb dX0_begin_7 rfl (lv_at hl 1 rfl) ?_
  refine lv_bipush (v := 8) hx hb dX0_begin_8 (by decide) ?_
  refine lv_icmp_ge (tgt := 31) hx hb dX0_begin_10 (by decide) (fun hc => ?_) (fun hc => ?_)
  · replace h := (if_pos hc).symm.trans h
    exact hret _ _ _ _ _ h hC hS dX0_begin_31
  · replace h := (if_neg hc).symm.trans h
    refine lv_aload_n hx hb dX0_begin_13 rfl (lv_at hl 0 rfl) ?_
    refine va_get (D := D) (ci := 0) (v := .ref (x0 + 1)) (C := RX0) (T := TX0) (N := 3) hx hb hts (wqs inW_X0) hown hK.1 hC.1 (x0 - b) (sg_gCard hx0) rfl 0 (by decide) (hts _ (wq wt_176)) (fun _ h9 => h9) rfl dX0_begin_14 ?_
    refine lv_iload_n hx hb dX0_begin_17 rfl (lv_at hl 1 rfl) ?_
    refine va_ldcS hx hb hown hV.1 dX0_begin_18 ?_
    refine lv_iload_n hx hb dX0_begin_20 rfl (lv_at hl 1 rfl) ?_
    obtain ⟨hg, h⟩ := sg_gd h
    refine va_calli (va_runV (C := "java/lang/String") (As := [.int x1]) (rest := [.int x1, .ref (x0 + 1)]) ⟨hx, hb, hml, hown, hts⟩ (kJ_ca l D κ b σ qs vs x1 hg) (cwV 1 hts (gwV wt_264 wt_265 wt_266 wt_11 wt_267) rfl rfl rfl (by decide +kernel) ⟨Nat.le_of_ble_eq_true rfl, Nat.le_of_ble_eq_true rfl⟩) (SS_preV hC hV hS) rfl rfl hl.1 rfl (lv_room (Nat.le_of_ble_eq_true rfl)) dX0_begin_21 ⟨Nat.zero_le _, Nat.zero_le _⟩) hS (fun _ _ h => h) (fun _ h => h) (fun r u t H locs ht _ hp hB _ _ hS => ?_)
    refine sg_topi hp.1 ?_
    have hC : CW D κ b σ H := CW_b hB ht hp.2
    obtain ⟨hg, h⟩ := sg_gd h
    refine va_cast hx hb hK.1 hC.1 sg_D hS ((x0 + 1) - b) 1 (sg_gcletters hx0) rfl (sg_in hg) dX0_begin_24 (fun H locs hP _ hS => ?_)
    obtain ⟨σ1, eσ1, h⟩ := sg_lte h
    have hC : CW D κ b σ1 H := eσ1 ▸ CW_put (k := sg_x x1) (v := (vp_nar .char (sg_nam (sg_x x1)))) hC (sg_acletters hx0) (sg_ycletters hx0 _ _) hP
    obtain ⟨v2, ev2, h⟩ := sg_lte h
    refine lv_iinc (v := v2) (lv' := [(1, .int v2), (0, .ref x0)]) (k := 1) hx hb dX0_begin_25 hl rfl (sg_inc (by decide) ev2) (by decide) rfl (fun ls hl => ?_)
    refine lv_goto (tgt := 7) hx hb dX0_begin_28 (by decide) ?_
    exact hr7 h hx0 (lv_sub hl [1, 0] rfl) hC hS
set_option maxHeartbeats 4000000 in
theorem w_X0_begin_B7 {p : Program} {l : Launch} {e : Env} {s : State} {m : MethodId} {args : Array Value} {below : List Frame} {meth : Method} {c : Code} {Q : State → Prop} {D : va_G} {κ : Nat → ClassId} {b : Nat} {qs vs : Nat} {rr : Sg} (hZ : sg_Z p c s m args D κ cX0_begin 2 RX0 wsX0_begin) (hV : SS b qs vs s s.heap) (hret : ∀ (u : Sg) (H : Heap) (locs : List Loc) (pc : Nat) (ls : Array Slot), some u = some rr → CW D κ b u H → va_S (sg_A b 892) s.heap H locs → decode cX0_begin pc = .ok (.return_, 1) → W p l e rm_X0_begin s m args below meth c H locs 0 0 Q (F0 m pc ls [])) : ∀ n : Nat, ∀ {σ : Sg} {x0 : Nat} {x1 : Int32} {H : Heap} {locs : List Loc} {ls : Array Slot}, fn_X0_begin_B7 b n σ x0 x1 = some rr → is_Card b x0 → lv_has ls 2 [(0, .ref x0), (1, .int x1)] → CW D κ b σ H → va_S (sg_A b 892) s.heap H locs → W p l e rm_X0_begin s m args below meth c H locs 0 0 Q (F0 m 7 ls []) := by
  intro n
  induction n with
  | zero => intro σ x0 x1 H locs ls h hx0 hl hC hS; cases (show (none : Option (Sg)) = some rr from h)
  | succ n ih =>
    intro σ x0 x1 H locs ls h hx0 hl hC hS
    exact w_X0_begin_B7b hZ hV hret ih (show fn_X0_begin_B7b b (fn_X0_begin_B7 b n) σ x0 x1 = some rr from h) hx0 hl hC hS
def fn_X0_begin (b : Nat) (σ : Sg) (x0 : Nat) : Option (Sg) :=
  (sg_lt (sg_w σ x0 2 0) fun σ1 =>
  fn_X0_begin_B7 b sg_N σ1 x0 0)
set_option maxHeartbeats 4000000 in
set_option maxRecDepth 100000 in
theorem w_X0_begin_B0 {p : Program} {l : Launch} {e : Env} {s : State} {m : MethodId} {args : Array Value} {below : List Frame} {meth : Method} {c : Code} {Q : State → Prop} {D : va_G} {κ : Nat → ClassId} {b : Nat} {qs vs : Nat} {rr : Sg} (hZ : sg_Z p c s m args D κ cX0_begin 2 RX0 wsX0_begin) (hV : SS b qs vs s s.heap) (hret : ∀ (u : Sg) (H : Heap) (locs : List Loc) (pc : Nat) (ls : Array Slot), some u = some rr → CW D κ b u H → va_S (sg_A b 892) s.heap H locs → decode cX0_begin pc = .ok (.return_, 1) → W p l e rm_X0_begin s m args below meth c H locs 0 0 Q (F0 m pc ls [])) : ∀ {σ : Sg} {x0 : Nat} {H : Heap} {locs : List Loc} {ls : Array Slot}, fn_X0_begin b σ x0 = some rr → is_Card b x0 → lv_has ls 2 [(0, .ref x0)] → CW D κ b σ H → va_S (sg_A b 892) s.heap H locs → W p l e rm_X0_begin s m args below meth c H locs 0 0 Q (F0 m 0 ls []) := by
  obtain ⟨hx, hb, hml, hown, hts, hK⟩ := hZ
  intro σ x0 H locs ls h hx0 hl hC hS
  unfold fn_X0_begin at h
  refine lv_aload_n hx hb dX0_begin_0 rfl (lv_at hl 0 rfl) ?_
  refine lv_iconst (v := 0) hx hb dX0_begin_1 (by decide) ?_
  refine va_put (D := D) (ci := 0) (v := .int 0) (ty := .int) (C := RX0) (T := TX0) (N := 3) hx hb hts (wqs inW_X0) tyX0 tyX0_ok nmX0 hown hK.1 hC.1 sg_D hS (x0 - b) (sg_gCard hx0) rfl 2 (by decide) (hts _ (wq wt_182)) (fun _ h9 => h9) rfl (by decide +kernel) rfl rfl (Nat.le_of_ble_eq_true rfl) dX0_begin_2 (fun H locs hP _ hS => ?_)
  obtain ⟨σ1, eσ1, h⟩ := sg_lte h
  have hC : CW D κ b σ1 H := eσ1 ▸ CW_put (k := 2) (v := 0) hC (sg_aCard hx0) (sg_yCard hx0 _ _) hP
  refine lv_iconst (v := 0) hx hb dX0_begin_5 (by decide) ?_
  refine lv_istore_n (lv' := [(1, .int 0), (0, .ref x0)]) hx hb dX0_begin_6 rfl hl (by decide) rfl (fun ls hl => ?_)
  exact w_X0_begin_B7 ⟨hx, hb, hml, hown, hts, hK⟩ hV hret  sg_N h hx0 (lv_sub hl [1, 0] rfl) hC hS
set_option maxHeartbeats 4000000 in
set_option maxRecDepth 100000 in
theorem c_X0_begin (l : Launch) (D : va_G) (κ : Nat → ClassId) (b : Nat) (σ : Sg) (qs vs : Nat) (x0 : Nat) (rr : Sg) (hx0 : is_Card b x0) (h : fn_X0_begin b σ x0 = some rr) : Met l yX0_begin wsX0_begin rm_X0_begin (va_Pc [.ref x0] (fun U => KK D κ U ∧ CW D κ b σ U.heap ∧ SS b qs vs U U.heap)) (va_Qv (fun u : Sg => u = rr) (fun u t => CW D κ b u t.heap) (sg_A b 892)) 0 0 (sg_A b 892) := by
  refine Met.ofW (cc := cX0_begin) (maxL := 2) (ret := none) (by decide) rfl ?_
  intro p e s m args below meth c s₁ B hml hv
  obtain ⟨rfl, hK, hC, hV⟩ := hv
  have hr := B.returns
  have hlocks := B.notSynchronized
  have hl := lv_entry ([.ref x0]) (n := 2) (Nat.le_of_ble_eq_true rfl)
  rw [lg_entry_eq]
  generalize (lg_sl ([.ref x0]) ++ List.replicate (2 - (lg_sl ([.ref x0])).length) Slot.unset).toArray = ls at hl ⊢
  have hl : lv_has ls 2 [(0, .ref x0)] := hl
  exact w_X0_begin_B0 ⟨B.exec, B.bytes, hml, findClass_of_methodNamed B.named, atoms_spec (ws := wsX0_begin) B.pre, hK⟩ hV (fun u H locs pc ls hq hC hS hd => W.vret B.exec B.bytes hr (fun t ht hW => ⟨⟨_, rfl, Option.some.inj hq, CW_e ht hC⟩, hS.F ht⟩) hS.2.2 hd) h hx0 hl hC va_S.rf

-- RecordShelf$Reader.fill(LRecordShelf$Card;)Z
theorem dX4_fill_0 : decode cX4_fill 0 = .ok (.aload_n 1, 1) := by decide +kernel
theorem dX4_fill_1 : decode cX4_fill 1 = .ok (.invokevirtual 29, 3) := by decide +kernel
theorem dX4_fill_4 : decode cX4_fill 4 = .ok (.aload_n 0, 1) := by decide +kernel
theorem dX4_fill_5 : decode cX4_fill 5 = .ok (.aload_n 1, 1) := by decide +kernel
theorem dX4_fill_6 : decode cX4_fill 6 = .ok (.invokevirtual 34, 3) := by decide +kernel
theorem dX4_fill_9 : decode cX4_fill 9 = .ok (.ifCond .eq 37, 3) := by decide +kernel
theorem dX4_fill_12 : decode cX4_fill 12 = .ok (.aload_n 0, 1) := by decide +kernel
theorem dX4_fill_13 : decode cX4_fill 13 = .ok (.aload_n 1, 1) := by decide +kernel
theorem dX4_fill_14 : decode cX4_fill 14 = .ok (.invokevirtual 38, 3) := by decide +kernel
theorem dX4_fill_17 : decode cX4_fill 17 = .ok (.ifCond .eq 29, 3) := by decide +kernel
theorem dX4_fill_20 : decode cX4_fill 20 = .ok (.aload_n 0, 1) := by decide +kernel
theorem dX4_fill_21 : decode cX4_fill 21 = .ok (.invokevirtual 41, 3) := by decide +kernel
theorem dX4_fill_24 : decode cX4_fill 24 = .ok (.ifCond .eq 22, 3) := by decide +kernel
theorem dX4_fill_27 : decode cX4_fill 27 = .ok (.aload_n 0, 1) := by decide +kernel
theorem dX4_fill_28 : decode cX4_fill 28 = .ok (.aload_n 1, 1) := by decide +kernel
theorem dX4_fill_29 : decode cX4_fill 29 = .ok (.invokevirtual 45, 3) := by decide +kernel
theorem dX4_fill_32 : decode cX4_fill 32 = .ok (.ifCond .eq 14, 3) := by decide +kernel
theorem dX4_fill_35 : decode cX4_fill 35 = .ok (.aload_n 0, 1) := by decide +kernel
theorem dX4_fill_36 : decode cX4_fill 36 = .ok (.invokevirtual 48, 3) := by decide +kernel
theorem dX4_fill_39 : decode cX4_fill 39 = .ok (.ifCond .eq 7, 3) := by decide +kernel
theorem dX4_fill_42 : decode cX4_fill 42 = .ok (.iconst 1, 1) := by decide +kernel
theorem dX4_fill_43 : decode cX4_fill 43 = .ok (.goto 4, 3) := by decide +kernel
theorem dX4_fill_46 : decode cX4_fill 46 = .ok (.iconst 0, 1) := by decide +kernel
theorem dX4_fill_47 : decode cX4_fill 47 = .ok (.ireturn, 1) := by decide +kernel
def rm_X4_fill : Room := { frames := 6, cells := 0, slots := 0, locals := 138 }
def fn_X4_fill (b : Nat) (σ : Sg) (x1 : Nat) : Option (Int32 × Sg) :=
  ((fn_X0_begin b σ x1).bind fun r1 =>
  ((fn_X4_takeLeader b r1 x1).bind fun r2 =>
  (if r2.1 = 0 then
  some (0, r2.2)
  else ((fn_X4_takeDirectory b r2.2 x1).bind fun r3 =>
  (if r3.1 = 0 then
  some (0, r3.2)
  else ((fn_X4_checkTotal b r3.2).bind fun r4 =>
  (if r4.1 = 0 then
  some (0, r4.2)
  else ((fn_X4_takeFields b r4.2 x1).bind fun r5 =>
  (if r5.1 = 0 then
  some (0, r5.2)
  else ((fn_X4_checkEnd b r5.2).bind fun r6 =>
  (if r6.1 = 0 then
  some (0, r6.2)
  else some (1, r6.2))))))))))))
set_option maxHeartbeats 4000000 in
set_option maxRecDepth 100000 in
theorem w_X4_fill_B0 {p : Program} {l : Launch} {e : Env} {s : State} {m : MethodId} {args : Array Value} {below : List Frame} {meth : Method} {c : Code} {Q : State → Prop} {D : va_G} {κ : Nat → ClassId} {b : Nat} {qs vs : Nat} {rr : Int32 × Sg} (hZ : sg_Z p c s m args D κ cX4_fill 2 RX4 wsX4_fill) (hV : SS b qs vs s s.heap) (hret : ∀ (v : Int32) (u : Sg) (H : Heap) (locs : List Loc) (pc : Nat) (ls : Array Slot), some (v, u) = some rr → narrow .boolean (.int v) = .int v → CW D κ b u H → va_S (sg_A b 892) s.heap H locs → decode cX4_fill pc = .ok (.ireturn, 1) → W p l e rm_X4_fill s m args below meth c H locs 0 0 Q (F0 m pc ls [.int v])) : ∀ {σ : Sg} {x1 : Nat} {H : Heap} {locs : List Loc} {ls : Array Slot}, fn_X4_fill b σ x1 = some rr → is_Card b x1 → lv_has ls 2 [(0, .ref (b + 1)), (1, .ref x1)] → CW D κ b σ H → va_S (sg_A b 892) s.heap H locs → W p l e rm_X4_fill s m args below meth c H locs 0 0 Q (F0 m 0 ls []) := by
  obtain ⟨hx, hb, hml, hown, hts, hK⟩ := hZ
  intro σ x1 H locs ls h hx1 hl hC hS
  unfold fn_X4_fill at h
  refine lv_aload_n hx hb dX4_fill_0 rfl (lv_at hl 1 rfl) ?_
  obtain ⟨r1, er1, h⟩ := Option.bind_eq_some_iff.mp h
  refine va_callv (va_runV (As := []) (rest := []) ⟨hx, hb, hml, hown, hts⟩ (c_X0_begin l D κ b σ qs vs x1 _ hx1 er1) (cwV 0 hts (gwV wt_259 wt_260 wt_261 wt_6 wt_262) rfl rfl rfl (by decide +kernel) ⟨Nat.le_of_ble_eq_true rfl, Nat.le_of_ble_eq_true rfl⟩) (CWS_preV hK hC hV hS (sg_gCard hx1) rfl) rfl rfl hl.1 rfl (lv_room (Nat.le_of_ble_eq_true rfl)) dX4_fill_1 ⟨Nat.zero_le _, Nat.zero_le _⟩) hS (fun _ _ h => h) (fun _ h => h) (fun u t H locs ht _ hp hB _ _ hS => ?_)
  have hC : CW D κ b r1 H := CW_b hB ht hp
  refine lv_aload_n hx hb dX4_fill_4 rfl (lv_at hl 0 rfl) ?_
  refine lv_aload_n hx hb dX4_fill_5 rfl (lv_at hl 1 rfl) ?_
  obtain ⟨r2, er2, h⟩ := Option.bind_eq_some_iff.mp h
  refine va_calli (va_runV (As := [.ref x1]) (rest := []) ⟨hx, hb, hml, hown, hts⟩ (c_X4_takeLeader l D κ b r1 x1 _ hx1 er2) (cwV 1 hts (gwV wt_304 wt_306 wp_0 wt_2 wt_307) rfl rfl rfl (by decide +kernel) ⟨Nat.le_of_ble_eq_true rfl, Nat.le_of_ble_eq_true rfl⟩) (CW_preV hK hC sg_gReader rfl) rfl rfl hl.1 rfl (lv_room (Nat.le_of_ble_eq_true rfl)) dX4_fill_6 ⟨Nat.zero_le _, Nat.zero_le _⟩) hS (fun _ _ h => h) (fun _ h => h) (fun r u t H locs ht _ hp hB _ _ hS => ?_)
  refine sg_topi hp.1 ?_
  have hC : CW D κ b r2.2 H := CW_b hB ht hp.2
  refine lv_if_eq (tgt := 46) hx hb dX4_fill_9 (by decide) (fun hc => ?_) (fun hc => ?_)
  · replace h := (if_pos hc).symm.trans h
    refine lv_iconst (v := 0) hx hb dX4_fill_46 (by decide) ?_
    exact hret _ _ _ _ _ _ h (by decide) hC hS dX4_fill_47
  · replace h := (if_neg hc).symm.trans h
    refine lv_aload_n hx hb dX4_fill_12 rfl (lv_at hl 0 rfl) ?_
    refine lv_aload_n hx hb dX4_fill_13 rfl (lv_at hl 1 rfl) ?_
    obtain ⟨r3, er3, h⟩ := Option.bind_eq_some_iff.mp h
    refine va_calli (va_runV (As := [.ref x1]) (rest := []) ⟨hx, hb, hml, hown, hts⟩ (c_X4_takeDirectory l D κ b r2.2 x1 _ hx1 er3) (cwV 1 hts (gwV wt_338 wt_340 wp_6 wt_2 wt_341) rfl rfl rfl (by decide +kernel) ⟨Nat.le_of_ble_eq_true rfl, Nat.le_of_ble_eq_true rfl⟩) (CW_preV hK hC sg_gReader rfl) rfl rfl hl.1 rfl (lv_room (Nat.le_of_ble_eq_true rfl)) dX4_fill_14 ⟨Nat.zero_le _, Nat.zero_le _⟩) hS (fun _ _ h => h) (fun _ h => h) (fun r u t H locs ht _ hp hB _ _ hS => ?_)
    refine sg_topi hp.1 ?_
    have hC : CW D κ b r3.2 H := CW_b hB ht hp.2
    refine lv_if_eq (tgt := 46) hx hb dX4_fill_17 (by decide) (fun hc => ?_) (fun hc => ?_)
    · replace h := (if_pos hc).symm.trans h
      refine lv_iconst (v := 0) hx hb dX4_fill_46 (by decide) ?_
      exact hret _ _ _ _ _ _ h (by decide) hC hS dX4_fill_47
    · replace h := (if_neg hc).symm.trans h
      refine lv_aload_n hx hb dX4_fill_20 rfl (lv_at hl 0 rfl) ?_
      obtain ⟨r4, er4, h⟩ := Option.bind_eq_some_iff.mp h
      refine va_calli (va_runV (As := []) (rest := []) ⟨hx, hb, hml, hown, hts⟩ (c_X4_checkTotal l D κ b r3.2 _ er4) (cwV 0 hts (gwV wt_358 wt_360 wp_8 wt_2 wt_361) rfl rfl rfl (by decide +kernel) ⟨Nat.le_of_ble_eq_true rfl, Nat.le_of_ble_eq_true rfl⟩) (CW_preV hK hC sg_gReader rfl) rfl rfl hl.1 rfl (lv_room (Nat.le_of_ble_eq_true rfl)) dX4_fill_21 ⟨Nat.zero_le _, Nat.zero_le _⟩) hS (fun _ _ h => h) (fun _ h => h) (fun r u t H locs ht _ hp hB _ _ hS => ?_)
      refine sg_topi hp.1 ?_
      have hC : CW D κ b r4.2 H := CW_b hB ht hp.2
      refine lv_if_eq (tgt := 46) hx hb dX4_fill_24 (by decide) (fun hc => ?_) (fun hc => ?_)
      · replace h := (if_pos hc).symm.trans h
        refine lv_iconst (v := 0) hx hb dX4_fill_46 (by decide) ?_
        exact hret _ _ _ _ _ _ h (by decide) hC hS dX4_fill_47
      · replace h := (if_neg hc).symm.trans h
        refine lv_aload_n hx hb dX4_fill_27 rfl (lv_at hl 0 rfl) ?_
        refine lv_aload_n hx hb dX4_fill_28 rfl (lv_at hl 1 rfl) ?_
        obtain ⟨r5, er5, h⟩ := Option.bind_eq_some_iff.mp h
        refine va_calli (va_runV (As := [.ref x1]) (rest := []) ⟨hx, hb, hml, hown, hts⟩ (c_X4_takeFields l D κ b r4.2 x1 _ hx1 er5) (cwV 1 hts (gwV wt_362 wt_364 wp_9 wt_2 wt_365) rfl rfl rfl (by decide +kernel) ⟨Nat.le_of_ble_eq_true rfl, Nat.le_of_ble_eq_true rfl⟩) (CW_preV hK hC sg_gReader rfl) rfl rfl hl.1 rfl (lv_room (Nat.le_of_ble_eq_true rfl)) dX4_fill_29 ⟨Nat.zero_le _, Nat.zero_le _⟩) hS (fun _ _ h => h) (fun _ h => h) (fun r u t H locs ht _ hp hB _ _ hS => ?_)
        refine sg_topi hp.1 ?_
        have hC : CW D κ b r5.2 H := CW_b hB ht hp.2
        refine lv_if_eq (tgt := 46) hx hb dX4_fill_32 (by decide) (fun hc => ?_) (fun hc => ?_)
        · replace h := (if_pos hc).symm.trans h
          refine lv_iconst (v := 0) hx hb dX4_fill_46 (by decide) ?_
          exact hret _ _ _ _ _ _ h (by decide) hC hS dX4_fill_47
        · replace h := (if_neg hc).symm.trans h
          refine lv_aload_n hx hb dX4_fill_35 rfl (lv_at hl 0 rfl) ?_
          obtain ⟨r6, er6, h⟩ := Option.bind_eq_some_iff.mp h
          refine va_calli (va_runV (As := []) (rest := []) ⟨hx, hb, hml, hown, hts⟩ (c_X4_checkEnd l D κ b r5.2 _ er6) (cwV 0 hts (gwV wt_428 wt_430 wp_16 wt_2 wt_431) rfl rfl rfl (by decide +kernel) ⟨Nat.le_of_ble_eq_true rfl, Nat.le_of_ble_eq_true rfl⟩) (CW_preV hK hC sg_gReader rfl) rfl rfl hl.1 rfl (lv_room (Nat.le_of_ble_eq_true rfl)) dX4_fill_36 ⟨Nat.zero_le _, Nat.zero_le _⟩) hS (fun _ _ h => h) (fun _ h => h) (fun r u t H locs ht _ hp hB _ _ hS => ?_)
          refine sg_topi hp.1 ?_
          have hC : CW D κ b r6.2 H := CW_b hB ht hp.2
          refine lv_if_eq (tgt := 46) hx hb dX4_fill_39 (by decide) (fun hc => ?_) (fun hc => ?_)
          · replace h := (if_pos hc).symm.trans h
            refine lv_iconst (v := 0) hx hb dX4_fill_46 (by decide) ?_
            exact hret _ _ _ _ _ _ h (by decide) hC hS dX4_fill_47
          · replace h := (if_neg hc).symm.trans h
            refine lv_iconst (v := 1) hx hb dX4_fill_42 (by decide) ?_
            refine lv_goto (tgt := 47) hx hb dX4_fill_43 (by decide) ?_
            exact hret _ _ _ _ _ _ h (by decide) hC hS dX4_fill_47
set_option maxHeartbeats 4000000 in
set_option maxRecDepth 100000 in
theorem c_X4_fill (l : Launch) (D : va_G) (κ : Nat → ClassId) (b : Nat) (σ : Sg) (qs vs : Nat) (x1 : Nat) (rr : Int32 × Sg) (hx1 : is_Card b x1) (h : fn_X4_fill b σ x1 = some rr) : Met l yX4_fill wsX4_fill rm_X4_fill (va_Pc [.ref (b + 1), .ref x1] (fun U => KK D κ U ∧ CW D κ b σ U.heap ∧ SS b qs vs U U.heap)) (va_Qi (fun (r : Int32) (u : Sg) => r = rr.1 ∧ u = rr.2) (fun u t => CW D κ b u t.heap) (sg_A b 892)) 0 0 (sg_A b 892) := by
  refine Met.ofW (cc := cX4_fill) (maxL := 2) (ret := (some .boolean)) (by decide) rfl ?_
  intro p e s m args below meth c s₁ B hml hv
  obtain ⟨rfl, hK, hC, hV⟩ := hv
  have hr := B.returns
  have hlocks := B.notSynchronized
  have hl := lv_entry ([.ref (b + 1), .ref x1]) (n := 2) (Nat.le_of_ble_eq_true rfl)
  rw [lg_entry_eq]
  generalize (lg_sl ([.ref (b + 1), .ref x1]) ++ List.replicate (2 - (lg_sl ([.ref (b + 1), .ref x1])).length) Slot.unset).toArray = ls at hl ⊢
  have hl : lv_has ls 2 [(0, .ref (b + 1)), (1, .ref x1)] := hl
  exact w_X4_fill_B0 ⟨B.exec, B.bytes, hml, findClass_of_methodNamed B.named, atoms_spec (ws := wsX4_fill) B.pre, hK⟩ hV (fun v u H locs pc ls hq hbo hC hS hd => W.zret B.exec B.bytes hr hbo (fun t ht hW => ⟨⟨v, _, rfl, ⟨congrArg Prod.fst (Option.some.inj hq), congrArg Prod.snd (Option.some.inj hq)⟩, CW_e ht hC⟩, hS.F ht⟩) hS.2.2 hd) h hx1 hl hC va_S.rf

-- RecordShelf.read()I
theorem dX7_read_0 : decode cX7_read 0 = .ok (.aload_n 0, 1) := by decide +kernel
theorem dX7_read_1 : decode cX7_read 1 = .ok (.getfield 12, 3) := by decide +kernel
theorem dX7_read_4 : decode cX7_read 4 = .ok (.invokevirtual 69, 3) := by decide +kernel
theorem dX7_read_7 : decode cX7_read 7 = .ok (.aload_n 0, 1) := by decide +kernel
theorem dX7_read_8 : decode cX7_read 8 = .ok (.getfield 72, 3) := by decide +kernel
theorem dX7_read_11 : decode cX7_read 11 = .ok (.bipush 6, 2) := by decide +kernel
theorem dX7_read_13 : decode cX7_read 13 = .ok (.if_icmp .lt 6, 3) := by decide +kernel
theorem dX7_read_16 : decode cX7_read 16 = .ok (.bipush (-2), 2) := by decide +kernel
theorem dX7_read_18 : decode cX7_read 18 = .ok (.ireturn, 1) := by decide +kernel
theorem dX7_read_19 : decode cX7_read 19 = .ok (.aload_n 0, 1) := by decide +kernel
theorem dX7_read_20 : decode cX7_read 20 = .ok (.getfield 12, 3) := by decide +kernel
theorem dX7_read_23 : decode cX7_read 23 = .ok (.aload_n 0, 1) := by decide +kernel
theorem dX7_read_24 : decode cX7_read 24 = .ok (.getfield 23, 3) := by decide +kernel
theorem dX7_read_27 : decode cX7_read 27 = .ok (.aload_n 0, 1) := by decide +kernel
theorem dX7_read_28 : decode cX7_read 28 = .ok (.getfield 72, 3) := by decide +kernel
theorem dX7_read_31 : decode cX7_read 31 = .ok (.aaload, 1) := by decide +kernel
theorem dX7_read_32 : decode cX7_read 32 = .ok (.invokevirtual 75, 3) := by decide +kernel
theorem dX7_read_35 : decode cX7_read 35 = .ok (.ifCond .ne 11, 3) := by decide +kernel
theorem dX7_read_38 : decode cX7_read 38 = .ok (.aload_n 0, 1) := by decide +kernel
theorem dX7_read_39 : decode cX7_read 39 = .ok (.getfield 12, 3) := by decide +kernel
theorem dX7_read_42 : decode cX7_read 42 = .ok (.getfield 79, 3) := by decide +kernel
theorem dX7_read_45 : decode cX7_read 45 = .ok (.ireturn, 1) := by decide +kernel
theorem dX7_read_46 : decode cX7_read 46 = .ok (.aload_n 0, 1) := by decide +kernel
theorem dX7_read_47 : decode cX7_read 47 = .ok (.dup, 1) := by decide +kernel
theorem dX7_read_48 : decode cX7_read 48 = .ok (.getfield 72, 3) := by decide +kernel
theorem dX7_read_51 : decode cX7_read 51 = .ok (.iconst 1, 1) := by decide +kernel
theorem dX7_read_52 : decode cX7_read 52 = .ok (.iadd, 1) := by decide +kernel
theorem dX7_read_53 : decode cX7_read 53 = .ok (.putfield 72, 3) := by decide +kernel
theorem dX7_read_56 : decode cX7_read 56 = .ok (.aload_n 0, 1) := by decide +kernel
theorem dX7_read_57 : decode cX7_read 57 = .ok (.getfield 72, 3) := by decide +kernel
theorem dX7_read_60 : decode cX7_read 60 = .ok (.iconst 1, 1) := by decide +kernel
theorem dX7_read_61 : decode cX7_read 61 = .ok (.isub, 1) := by decide +kernel
theorem dX7_read_62 : decode cX7_read 62 = .ok (.ireturn, 1) := by decide +kernel
def rm_X7_read : Room := { frames := 7, cells := 0, slots := 0, locals := 159 }
def fn_X7_read (b : Nat) (σ : Sg) : Option (Int32 × Sg) :=
  ((fn_X4_forgetFault b σ).bind fun r1 =>
  (if (r1.1 b 5) < 6 then
  (if sg_ib (r1.1 b 5) 6 then
  ((fn_X4_fill b r1 (b + 10 + 147 * sg_x (r1.1 b 5))).bind fun r3 =>
  (if r3.1 = 0 then
  some ((r3.2.1 (b + 1) 6), r3.2)
  else (sg_lt (sg_w r3.2 b 5 ((r3.2.1 b 5) + 1)) fun σ4 =>
  some (((σ4.1 b 5) - 1), σ4))))
  else none)
  else some ((-2), r1)))
set_option maxHeartbeats 4000000 in
set_option maxRecDepth 100000 in
theorem w_X7_read_B0 {p : Program} {l : Launch} {e : Env} {s : State} {m : MethodId} {args : Array Value} {below : List Frame} {meth : Method} {c : Code} {Q : State → Prop} {D : va_G} {κ : Nat → ClassId} {b : Nat} {qs vs : Nat} {rr : Int32 × Sg} (hZ : sg_Z p c s m args D κ cX7_read 1 RX7 wsX7_read) (hV : SS b qs vs s s.heap) (hret : ∀ (v : Int32) (u : Sg) (H : Heap) (locs : List Loc) (pc : Nat) (ls : Array Slot), some (v, u) = some rr → CW D κ b u H → va_S (sg_A b 892) s.heap H locs → decode cX7_read pc = .ok (.ireturn, 1) → W p l e rm_X7_read s m args below meth c H locs 0 0 Q (F0 m pc ls [.int v])) : ∀ {σ : Sg} {H : Heap} {locs : List Loc} {ls : Array Slot}, fn_X7_read b σ = some rr → lv_has ls 1 [(0, .ref b)] → CW D κ b σ H → va_S (sg_A b 892) s.heap H locs → W p l e rm_X7_read s m args below meth c H locs 0 0 Q (F0 m 0 ls []) := by
  obtain ⟨hx, hb, hml, hown, hts, hK⟩ := hZ
  intro σ H locs ls h hl hC hS
  unfold fn_X7_read at h
  refine lv_aload_n hx hb dX7_read_0 rfl (lv_at hl 0 rfl) ?_
  refine va_get (D := D) (ci := 7) (v := .ref (b + 1)) (C := RX7) (T := TX7) (N := 6) hx hb hts (wqs inW_X7) hown hK.1 hC.1 (b - b) sg_gShelf rfl 0 (by decide) (hts _ (wq wt_192)) (fun _ h9 => h9) rfl dX7_read_1 ?_
  obtain ⟨r1, er1, h⟩ := Option.bind_eq_some_iff.mp h
  refine va_callv (va_runV (As := []) (rest := []) ⟨hx, hb, hml, hown, hts⟩ (c_X4_forgetFault l D κ b σ _ er1) (cwV 0 hts (gwV wt_251 wt_252 wt_253 wt_2 wt_254) rfl rfl rfl (by decide +kernel) ⟨Nat.le_of_ble_eq_true rfl, Nat.le_of_ble_eq_true rfl⟩) (CW_preV hK hC sg_gReader rfl) rfl rfl hl.1 rfl (lv_room (Nat.le_of_ble_eq_true rfl)) dX7_read_4 ⟨Nat.zero_le _, Nat.zero_le _⟩) hS (fun _ _ h => h) (fun _ h => h) (fun u t H locs ht _ hp hB _ _ hS => ?_)
  have hC : CW D κ b r1 H := CW_b hB ht hp
  refine lv_aload_n hx hb dX7_read_7 rfl (lv_at hl 0 rfl) ?_
  refine va_get (D := D) (ci := 7) (v := .int (r1.1 b 5)) (C := RX7) (T := TX7) (N := 6) hx hb hts (wqs inW_X7) hown hK.1 hC.1 (b - b) sg_gShelf rfl 5 (by decide) (hts _ (wq wt_197)) (fun _ h9 => h9) rfl dX7_read_8 ?_
  refine lv_bipush (v := 6) hx hb dX7_read_11 (by decide) ?_
  refine lv_icmp_lt (tgt := 19) hx hb dX7_read_13 (by decide) (fun hc => ?_) (fun hc => ?_)
  · replace h := (if_pos hc).symm.trans h
    refine lv_aload_n hx hb dX7_read_19 rfl (lv_at hl 0 rfl) ?_
    refine va_get (D := D) (ci := 7) (v := .ref (b + 1)) (C := RX7) (T := TX7) (N := 6) hx hb hts (wqs inW_X7) hown hK.1 hC.1 (b - b) sg_gShelf rfl 0 (by decide) (hts _ (wq wt_192)) (fun _ h9 => h9) rfl dX7_read_20 ?_
    refine lv_aload_n hx hb dX7_read_23 rfl (lv_at hl 0 rfl) ?_
    refine va_get (D := D) (ci := 7) (v := .ref (b + 5)) (C := RX7) (T := TX7) (N := 6) hx hb hts (wqs inW_X7) hown hK.1 hC.1 (b - b) sg_gShelf rfl 2 (by decide) (hts _ (wq wt_194)) (fun _ h9 => h9) rfl dX7_read_24 ?_
    refine lv_aload_n hx hb dX7_read_27 rfl (lv_at hl 0 rfl) ?_
    refine va_get (D := D) (ci := 7) (v := .int (r1.1 b 5)) (C := RX7) (T := TX7) (N := 6) hx hb hts (wqs inW_X7) hown hK.1 hC.1 (b - b) sg_gShelf rfl 5 (by decide) (hts _ (wq wt_197)) (fun _ h9 => h9) rfl dX7_read_28 ?_
    obtain ⟨hg, h⟩ := sg_gd h
    refine va_aldq (C := "RecordShelf$Card") hx hb hK.1 hC.1 ((b + 5) - b) 2 sg_gcards rfl (sg_in hg) dX7_read_31 ?_
    have hv2 := sg_vCard (b := b) hg
    refine W.eq (g2 := F0 m 32 ls [.ref (b + 10 + 147 * sg_x (r1.1 b 5)), .ref (b + 1)]) rfl ?_
    obtain ⟨r3, er3, h⟩ := Option.bind_eq_some_iff.mp h
    refine va_calli (va_runV (As := [.ref (b + 10 + 147 * sg_x (r1.1 b 5))]) (rest := []) ⟨hx, hb, hml, hown, hts⟩ (c_X4_fill l D κ b r1 qs vs (b + 10 + 147 * sg_x (r1.1 b 5)) _ hv2 er3) (cwV 1 hts (gwV wt_255 wt_256 wt_257 wt_2 wt_258) rfl rfl rfl (by decide +kernel) ⟨Nat.le_of_ble_eq_true rfl, Nat.le_of_ble_eq_true rfl⟩) (CWS_preV hK hC hV hS sg_gReader rfl) rfl rfl hl.1 rfl (lv_room (Nat.le_of_ble_eq_true rfl)) dX7_read_32 ⟨Nat.zero_le _, Nat.zero_le _⟩) hS (fun _ _ h => h) (fun _ h => h) (fun r u t H locs ht _ hp hB _ _ hS => ?_)
    refine sg_topi hp.1 ?_
    have hC : CW D κ b r3.2 H := CW_b hB ht hp.2
    refine lv_if_ne (tgt := 46) hx hb dX7_read_35 (by decide) (fun hc => ?_) (fun hc => ?_)
    · replace h := (if_neg hc).symm.trans h
      refine lv_aload_n hx hb dX7_read_46 rfl (lv_at hl 0 rfl) ?_
      refine lv_dup hx hb dX7_read_47 rfl ?_
      refine va_get (D := D) (ci := 7) (v := .int (r3.2.1 b 5)) (C := RX7) (T := TX7) (N := 6) hx hb hts (wqs inW_X7) hown hK.1 hC.1 (b - b) sg_gShelf rfl 5 (by decide) (hts _ (wq wt_197)) (fun _ h9 => h9) rfl dX7_read_48 ?_
      refine lv_iconst (v := 1) hx hb dX7_read_51 (by decide) ?_
      refine lv_iadd hx hb dX7_read_52 ?_
      refine va_put (D := D) (ci := 7) (v := .int ((r3.2.1 b 5) + 1)) (ty := .int) (C := RX7) (T := TX7) (N := 6) hx hb hts (wqs inW_X7) tyX7 tyX7_ok nmX7 hown hK.1 hC.1 sg_D hS (b - b) sg_gShelf rfl 5 (by decide) (hts _ (wq wt_197)) (fun _ h9 => h9) rfl (by decide +kernel) rfl rfl (Nat.le_of_ble_eq_true rfl) dX7_read_53 (fun H locs hP _ hS => ?_)
      obtain ⟨σ4, eσ4, h⟩ := sg_lte h
      have hC : CW D κ b σ4 H := eσ4 ▸ CW_put (k := 5) (v := ((r3.2.1 b 5) + 1)) hC sg_aShelf (sg_yShelf _ _) hP
      refine lv_aload_n hx hb dX7_read_56 rfl (lv_at hl 0 rfl) ?_
      refine va_get (D := D) (ci := 7) (v := .int (σ4.1 b 5)) (C := RX7) (T := TX7) (N := 6) hx hb hts (wqs inW_X7) hown hK.1 hC.1 (b - b) sg_gShelf rfl 5 (by decide) (hts _ (wq wt_197)) (fun _ h9 => h9) rfl dX7_read_57 ?_
      refine lv_iconst (v := 1) hx hb dX7_read_60 (by decide) ?_
      refine lv_isub hx hb dX7_read_61 ?_
      exact hret _ _ _ _ _ _ h hC hS dX7_read_62
    · replace h := (if_pos hc).symm.trans h
      refine lv_aload_n hx hb dX7_read_38 rfl (lv_at hl 0 rfl) ?_
      refine va_get (D := D) (ci := 7) (v := .ref (b + 1)) (C := RX7) (T := TX7) (N := 6) hx hb hts (wqs inW_X7) hown hK.1 hC.1 (b - b) sg_gShelf rfl 0 (by decide) (hts _ (wq wt_192)) (fun _ h9 => h9) rfl dX7_read_39 ?_
      refine va_getN (D := D) (ci := 4) (v := .int (r3.2.1 (b + 1) 6)) (C := RX4) (T := TX4) (N := 8) hx hb hts (wqs inW_X4) hown hK.1 hC.1 ((b + 1) - b) sg_gReader rfl 6 (by decide) (nf_4 hK) (fun _ h9 => h9) rfl dX7_read_42 ?_
      exact hret _ _ _ _ _ _ h hC hS dX7_read_45
  · replace h := (if_neg hc).symm.trans h
    refine lv_bipush (v := (-2)) hx hb dX7_read_16 (by decide) ?_
    exact hret _ _ _ _ _ _ h hC hS dX7_read_18
set_option maxHeartbeats 4000000 in
set_option maxRecDepth 100000 in
theorem c_X7_read (l : Launch) (D : va_G) (κ : Nat → ClassId) (b : Nat) (σ : Sg) (qs vs : Nat)  (rr : Int32 × Sg)  (h : fn_X7_read b σ = some rr) : Met l yX7_read wsX7_read rm_X7_read (va_Pc [.ref b] (fun U => KK D κ U ∧ CW D κ b σ U.heap ∧ SS b qs vs U U.heap)) (va_Qi (fun (r : Int32) (u : Sg) => r = rr.1 ∧ u = rr.2) (fun u t => CW D κ b u t.heap) (sg_A b 892)) 0 0 (sg_A b 892) := by
  refine Met.ofW (cc := cX7_read) (maxL := 1) (ret := (some .int)) (by decide) rfl ?_
  intro p e s m args below meth c s₁ B hml hv
  obtain ⟨rfl, hK, hC, hV⟩ := hv
  have hr := B.returns
  have hlocks := B.notSynchronized
  have hl := lv_entry ([.ref b]) (n := 1) (Nat.le_of_ble_eq_true rfl)
  rw [lg_entry_eq]
  generalize (lg_sl ([.ref b]) ++ List.replicate (1 - (lg_sl ([.ref b])).length) Slot.unset).toArray = ls at hl ⊢
  have hl : lv_has ls 1 [(0, .ref b)] := hl
  exact w_X7_read_B0 ⟨B.exec, B.bytes, hml, findClass_of_methodNamed B.named, atoms_spec (ws := wsX7_read) B.pre, hK⟩ hV (fun v u H locs pc ls hq hC hS hd => W.iret B.exec B.bytes hr (fun t ht hW => ⟨⟨v, _, rfl, ⟨congrArg Prod.fst (Option.some.inj hq), congrArg Prod.snd (Option.some.inj hq)⟩, CW_e ht hC⟩, hS.F ht⟩) hS.2.2 hd) h  hl hC va_S.rf

-- RecordShelf.fresh()I
theorem dX7_fresh_0 : decode cX7_fresh 0 = .ok (.aload_n 0, 1) := by decide +kernel
theorem dX7_fresh_1 : decode cX7_fresh 1 = .ok (.getfield 72, 3) := by decide +kernel
theorem dX7_fresh_4 : decode cX7_fresh 4 = .ok (.bipush 6, 2) := by decide +kernel
theorem dX7_fresh_6 : decode cX7_fresh 6 = .ok (.if_icmp .lt 6, 3) := by decide +kernel
theorem dX7_fresh_9 : decode cX7_fresh 9 = .ok (.bipush (-2), 2) := by decide +kernel
theorem dX7_fresh_11 : decode cX7_fresh 11 = .ok (.ireturn, 1) := by decide +kernel
theorem dX7_fresh_12 : decode cX7_fresh 12 = .ok (.aload_n 0, 1) := by decide +kernel
theorem dX7_fresh_13 : decode cX7_fresh 13 = .ok (.getfield 23, 3) := by decide +kernel
theorem dX7_fresh_16 : decode cX7_fresh 16 = .ok (.aload_n 0, 1) := by decide +kernel
theorem dX7_fresh_17 : decode cX7_fresh 17 = .ok (.getfield 72, 3) := by decide +kernel
theorem dX7_fresh_20 : decode cX7_fresh 20 = .ok (.aaload, 1) := by decide +kernel
theorem dX7_fresh_21 : decode cX7_fresh 21 = .ok (.invokevirtual 85, 3) := by decide +kernel
theorem dX7_fresh_24 : decode cX7_fresh 24 = .ok (.aload_n 0, 1) := by decide +kernel
theorem dX7_fresh_25 : decode cX7_fresh 25 = .ok (.dup, 1) := by decide +kernel
theorem dX7_fresh_26 : decode cX7_fresh 26 = .ok (.getfield 72, 3) := by decide +kernel
theorem dX7_fresh_29 : decode cX7_fresh 29 = .ok (.iconst 1, 1) := by decide +kernel
theorem dX7_fresh_30 : decode cX7_fresh 30 = .ok (.iadd, 1) := by decide +kernel
theorem dX7_fresh_31 : decode cX7_fresh 31 = .ok (.putfield 72, 3) := by decide +kernel
theorem dX7_fresh_34 : decode cX7_fresh 34 = .ok (.aload_n 0, 1) := by decide +kernel
theorem dX7_fresh_35 : decode cX7_fresh 35 = .ok (.getfield 72, 3) := by decide +kernel
theorem dX7_fresh_38 : decode cX7_fresh 38 = .ok (.iconst 1, 1) := by decide +kernel
theorem dX7_fresh_39 : decode cX7_fresh 39 = .ok (.isub, 1) := by decide +kernel
theorem dX7_fresh_40 : decode cX7_fresh 40 = .ok (.ireturn, 1) := by decide +kernel
def rm_X7_fresh : Room := { frames := 5, cells := 0, slots := 0, locals := 106 }
def fn_X7_fresh (b : Nat) (σ : Sg) : Option (Int32 × Sg) :=
  (if (σ.1 b 5) < 6 then
  (if sg_ib (σ.1 b 5) 6 then
  ((fn_X0_begin b σ (b + 10 + 147 * sg_x (σ.1 b 5))).bind fun r2 =>
  (sg_lt (sg_w r2 b 5 ((r2.1 b 5) + 1)) fun σ3 =>
  some (((σ3.1 b 5) - 1), σ3)))
  else none)
  else some ((-2), σ))
set_option maxHeartbeats 4000000 in
set_option maxRecDepth 100000 in
theorem w_X7_fresh_B0 {p : Program} {l : Launch} {e : Env} {s : State} {m : MethodId} {args : Array Value} {below : List Frame} {meth : Method} {c : Code} {Q : State → Prop} {D : va_G} {κ : Nat → ClassId} {b : Nat} {qs vs : Nat} {rr : Int32 × Sg} (hZ : sg_Z p c s m args D κ cX7_fresh 1 RX7 wsX7_fresh) (hV : SS b qs vs s s.heap) (hret : ∀ (v : Int32) (u : Sg) (H : Heap) (locs : List Loc) (pc : Nat) (ls : Array Slot), some (v, u) = some rr → CW D κ b u H → va_S (sg_A b 892) s.heap H locs → decode cX7_fresh pc = .ok (.ireturn, 1) → W p l e rm_X7_fresh s m args below meth c H locs 0 0 Q (F0 m pc ls [.int v])) : ∀ {σ : Sg} {H : Heap} {locs : List Loc} {ls : Array Slot}, fn_X7_fresh b σ = some rr → lv_has ls 1 [(0, .ref b)] → CW D κ b σ H → va_S (sg_A b 892) s.heap H locs → W p l e rm_X7_fresh s m args below meth c H locs 0 0 Q (F0 m 0 ls []) := by
  obtain ⟨hx, hb, hml, hown, hts, hK⟩ := hZ
  intro σ H locs ls h hl hC hS
  unfold fn_X7_fresh at h
  refine lv_aload_n hx hb dX7_fresh_0 rfl (lv_at hl 0 rfl) ?_
  refine va_get (D := D) (ci := 7) (v := .int (σ.1 b 5)) (C := RX7) (T := TX7) (N := 6) hx hb hts (wqs inW_X7) hown hK.1 hC.1 (b - b) sg_gShelf rfl 5 (by decide) (hts _ (wq wt_197)) (fun _ h9 => h9) rfl dX7_fresh_1 ?_
  refine lv_bipush (v := 6) hx hb dX7_fresh_4 (by decide) ?_
  refine lv_icmp_lt (tgt := 12) hx hb dX7_fresh_6 (by decide) (fun hc => ?_) (fun hc => ?_)
  · replace h := (if_pos hc).symm.trans h
    refine lv_aload_n hx hb dX7_fresh_12 rfl (lv_at hl 0 rfl) ?_
    refine va_get (D := D) (ci := 7) (v := .ref (b + 5)) (C := RX7) (T := TX7) (N := 6) hx hb hts (wqs inW_X7) hown hK.1 hC.1 (b - b) sg_gShelf rfl 2 (by decide) (hts _ (wq wt_194)) (fun _ h9 => h9) rfl dX7_fresh_13 ?_
    refine lv_aload_n hx hb dX7_fresh_16 rfl (lv_at hl 0 rfl) ?_
    refine va_get (D := D) (ci := 7) (v := .int (σ.1 b 5)) (C := RX7) (T := TX7) (N := 6) hx hb hts (wqs inW_X7) hown hK.1 hC.1 (b - b) sg_gShelf rfl 5 (by decide) (hts _ (wq wt_197)) (fun _ h9 => h9) rfl dX7_fresh_17 ?_
    obtain ⟨hg, h⟩ := sg_gd h
    refine va_aldq (C := "RecordShelf$Card") hx hb hK.1 hC.1 ((b + 5) - b) 2 sg_gcards rfl (sg_in hg) dX7_fresh_20 ?_
    have hv1 := sg_vCard (b := b) hg
    refine W.eq (g2 := F0 m 21 ls [.ref (b + 10 + 147 * sg_x (σ.1 b 5))]) rfl ?_
    obtain ⟨r2, er2, h⟩ := Option.bind_eq_some_iff.mp h
    refine va_callv (va_runV (As := []) (rest := []) ⟨hx, hb, hml, hown, hts⟩ (c_X0_begin l D κ b σ qs vs (b + 10 + 147 * sg_x (σ.1 b 5)) _ hv1 er2) (cwV 0 hts (gwV wt_441 wt_260 wt_261 wt_6 wt_262) rfl rfl rfl (by decide +kernel) ⟨Nat.le_of_ble_eq_true rfl, Nat.le_of_ble_eq_true rfl⟩) (CWS_preV hK hC hV hS (sg_gCard hv1) rfl) rfl rfl hl.1 rfl (lv_room (Nat.le_of_ble_eq_true rfl)) dX7_fresh_21 ⟨Nat.zero_le _, Nat.zero_le _⟩) hS (fun _ _ h => h) (fun _ h => h) (fun u t H locs ht _ hp hB _ _ hS => ?_)
    have hC : CW D κ b r2 H := CW_b hB ht hp
    refine lv_aload_n hx hb dX7_fresh_24 rfl (lv_at hl 0 rfl) ?_
    refine lv_dup hx hb dX7_fresh_25 rfl ?_
    refine va_get (D := D) (ci := 7) (v := .int (r2.1 b 5)) (C := RX7) (T := TX7) (N := 6) hx hb hts (wqs inW_X7) hown hK.1 hC.1 (b - b) sg_gShelf rfl 5 (by decide) (hts _ (wq wt_197)) (fun _ h9 => h9) rfl dX7_fresh_26 ?_
    refine lv_iconst (v := 1) hx hb dX7_fresh_29 (by decide) ?_
    refine lv_iadd hx hb dX7_fresh_30 ?_
    refine va_put (D := D) (ci := 7) (v := .int ((r2.1 b 5) + 1)) (ty := .int) (C := RX7) (T := TX7) (N := 6) hx hb hts (wqs inW_X7) tyX7 tyX7_ok nmX7 hown hK.1 hC.1 sg_D hS (b - b) sg_gShelf rfl 5 (by decide) (hts _ (wq wt_197)) (fun _ h9 => h9) rfl (by decide +kernel) rfl rfl (Nat.le_of_ble_eq_true rfl) dX7_fresh_31 (fun H locs hP _ hS => ?_)
    obtain ⟨σ3, eσ3, h⟩ := sg_lte h
    have hC : CW D κ b σ3 H := eσ3 ▸ CW_put (k := 5) (v := ((r2.1 b 5) + 1)) hC sg_aShelf (sg_yShelf _ _) hP
    refine lv_aload_n hx hb dX7_fresh_34 rfl (lv_at hl 0 rfl) ?_
    refine va_get (D := D) (ci := 7) (v := .int (σ3.1 b 5)) (C := RX7) (T := TX7) (N := 6) hx hb hts (wqs inW_X7) hown hK.1 hC.1 (b - b) sg_gShelf rfl 5 (by decide) (hts _ (wq wt_197)) (fun _ h9 => h9) rfl dX7_fresh_35 ?_
    refine lv_iconst (v := 1) hx hb dX7_fresh_38 (by decide) ?_
    refine lv_isub hx hb dX7_fresh_39 ?_
    exact hret _ _ _ _ _ _ h hC hS dX7_fresh_40
  · replace h := (if_neg hc).symm.trans h
    refine lv_bipush (v := (-2)) hx hb dX7_fresh_9 (by decide) ?_
    exact hret _ _ _ _ _ _ h hC hS dX7_fresh_11
set_option maxHeartbeats 4000000 in
set_option maxRecDepth 100000 in
theorem c_X7_fresh (l : Launch) (D : va_G) (κ : Nat → ClassId) (b : Nat) (σ : Sg) (qs vs : Nat)  (rr : Int32 × Sg)  (h : fn_X7_fresh b σ = some rr) : Met l yX7_fresh wsX7_fresh rm_X7_fresh (va_Pc [.ref b] (fun U => KK D κ U ∧ CW D κ b σ U.heap ∧ SS b qs vs U U.heap)) (va_Qi (fun (r : Int32) (u : Sg) => r = rr.1 ∧ u = rr.2) (fun u t => CW D κ b u t.heap) (sg_A b 892)) 0 0 (sg_A b 892) := by
  refine Met.ofW (cc := cX7_fresh) (maxL := 1) (ret := (some .int)) (by decide) rfl ?_
  intro p e s m args below meth c s₁ B hml hv
  obtain ⟨rfl, hK, hC, hV⟩ := hv
  have hr := B.returns
  have hlocks := B.notSynchronized
  have hl := lv_entry ([.ref b]) (n := 1) (Nat.le_of_ble_eq_true rfl)
  rw [lg_entry_eq]
  generalize (lg_sl ([.ref b]) ++ List.replicate (1 - (lg_sl ([.ref b])).length) Slot.unset).toArray = ls at hl ⊢
  have hl : lv_has ls 1 [(0, .ref b)] := hl
  exact w_X7_fresh_B0 ⟨B.exec, B.bytes, hml, findClass_of_methodNamed B.named, atoms_spec (ws := wsX7_fresh) B.pre, hK⟩ hV (fun v u H locs pc ls hq hC hS hd => W.iret B.exec B.bytes hr (fun t ht hW => ⟨⟨v, _, rfl, ⟨congrArg Prod.fst (Option.some.inj hq), congrArg Prod.snd (Option.some.inj hq)⟩, CW_e ht hC⟩, hS.F ht⟩) hS.2.2 hd) h  hl hC va_S.rf
