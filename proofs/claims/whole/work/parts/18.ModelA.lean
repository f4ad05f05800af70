-- RecordShelfModel.isPlain(I)Z
theorem dX8_isPlain_0 : decode cX8_isPlain 0 = .ok (.iload_n 0, 1) := by decide +kernel
theorem dX8_isPlain_1 : decode cX8_isPlain 1 = .ok (.bipush 31, 2) := by decide +kernel
theorem dX8_isPlain_3 : decode cX8_isPlain 3 = .ok (.if_icmp .le 13, 3) := by decide +kernel
theorem dX8_isPlain_6 : decode cX8_isPlain 6 = .ok (.iload_n 0, 1) := by decide +kernel
theorem dX8_isPlain_7 : decode cX8_isPlain 7 = .ok (.bipush 127, 2) := by decide +kernel
theorem dX8_isPlain_9 : decode cX8_isPlain 9 = .ok (.if_icmp .ge 7, 3) := by decide +kernel
theorem dX8_isPlain_12 : decode cX8_isPlain 12 = .ok (.iconst 1, 1) := by decide +kernel
theorem dX8_isPlain_13 : decode cX8_isPlain 13 = .ok (.goto 4, 3) := by decide +kernel
theorem dX8_isPlain_16 : decode cX8_isPlain 16 = .ok (.iconst 0, 1) := by decide +kernel
theorem dX8_isPlain_17 : decode cX8_isPlain 17 = .ok (.ireturn, 1) := by decide +kernel
def rm_X8_isPlain : Room := { frames := 0, cells := 0, slots := 0, locals := 0 }
def fn_X8_isPlain (x0 : Int32) : Option (Int32) :=
  (if x0 ≤ 31 then
  some 0
  else (if (127 : Int32) ≤ x0 then
  some 0
  else some 1))
set_option maxHeartbeats 4000000 in
set_option maxRecDepth 100000 in
theorem w_X8_isPlain_B0 {p : Program} {l : Launch} {e : Env} {s : State} {m : MethodId} {args : Array Value} {below : List Frame} {meth : Method} {c : Code} {Q : State → Prop} {D : va_G} {κ : Nat → ClassId} {b : Nat} {H0 : Heap} {rr : Int32} {σ : Sg} (hZ : sg_Z p c s m args D κ cX8_isPlain 1 RX8 wsX8_isPlain) (hret : ∀ (v : Int32) (H : Heap) (locs : List Loc) (pc : Nat) (ls : Array Slot), some v = some rr → narrow .boolean (.int v) = .int v → MW D κ b σ H → va_S (sg_A b 16) H0 H locs → decode cX8_isPlain pc = .ok (.ireturn, 1) → W p l e rm_X8_isPlain s m args below meth c H locs 0 0 Q (F0 m pc ls [.int v])) : ∀ {x0 : Int32} {H : Heap} {locs : List Loc} {ls : Array Slot}, fn_X8_isPlain x0 = some rr → lv_has ls 1 [(0, .int x0)] → MW D κ b σ H → va_S (sg_A b 16) H0 H locs → W p l e rm_X8_isPlain s m args below meth c H locs 0 0 Q (F0 m 0 ls []) := by
  obtain ⟨hx, hb, hml, hown, hts, hK⟩ := hZ
  intro x0 H locs ls h hl hC hS
  unfold fn_X8_isPlain at h
  refine lv_iload_n hx hb dX8_isPlain_0 rfl (lv_at hl 0 rfl) ?_
  refine lv_bipush (v := 31) hx hb dX8_isPlain_1 (by decide) ?_
  refine lv_icmp_le (tgt := 16) hx hb dX8_isPlain_3 (by decide) (fun hc => ?_) (fun hc => ?_)
  · replace h := (if_pos hc).symm.trans h
    refine lv_iconst (v := 0) hx hb dX8_isPlain_16 (by decide) ?_
    exact hret _ _ _ _ _ h (by decide) hC hS dX8_isPlain_17
  · replace h := (if_neg hc).symm.trans h
    refine lv_iload_n hx hb dX8_isPlain_6 rfl (lv_at hl 0 rfl) ?_
    refine lv_bipush (v := 127) hx hb dX8_isPlain_7 (by decide) ?_
    refine lv_icmp_ge (tgt := 16) hx hb dX8_isPlain_9 (by decide) (fun hc => ?_) (fun hc => ?_)
    · replace h := (if_pos hc).symm.trans h
      refine lv_iconst (v := 0) hx hb dX8_isPlain_16 (by decide) ?_
      exact hret _ _ _ _ _ h (by decide) hC hS dX8_isPlain_17
    · replace h := (if_neg hc).symm.trans h
      refine lv_iconst (v := 1) hx hb dX8_isPlain_12 (by decide) ?_
      refine lv_goto (tgt := 17) hx hb dX8_isPlain_13 (by decide) ?_
      exact hret _ _ _ _ _ h (by decide) hC hS dX8_isPlain_17
set_option maxHeartbeats 4000000 in
set_option maxRecDepth 100000 in
theorem c_X8_isPlain (l : Launch) (D : va_G) (κ : Nat → ClassId) (b : Nat) (σ : Sg) (x0 : Int32) (rr : Int32)  (h : fn_X8_isPlain x0 = some rr) : Met l yX8_isPlain wsX8_isPlain rm_X8_isPlain (va_Pc [.int x0] (fun U => KK D κ U ∧ MW D κ b σ U.heap)) (va_Qi (fun (r : Int32) (u : Sg) => r = rr ∧ u = σ) (fun u t => MW D κ b u t.heap) (sg_A b 16)) 0 0 (sg_A b 16) := by
  refine Met.ofW (cc := cX8_isPlain) (maxL := 1) (ret := (some .boolean)) (by decide) rfl ?_
  intro p e s m args below meth c s₁ B hml hv
  obtain ⟨rfl, hK, hC⟩ := hv
  have hr := B.returns
  have hlocks := B.notSynchronized
  have hl := lv_entry ([.int x0]) (n := 1) (Nat.le_of_ble_eq_true rfl)
  rw [lg_entry_eq]
  generalize (lg_sl ([.int x0]) ++ List.replicate (1 - (lg_sl ([.int x0])).length) Slot.unset).toArray = ls at hl ⊢
  have hl : lv_has ls 1 [(0, .int x0)] := hl
  exact w_X8_isPlain_B0 ⟨B.exec, B.bytes, hml, findClass_of_methodNamed B.named, atoms_spec (ws := wsX8_isPlain) B.pre, hK⟩ (fun v H locs pc ls hq hbo hC hS hd => W.zret B.exec B.bytes hr hbo (fun t ht hW => ⟨⟨v, _, rfl, ⟨Option.some.inj hq, rfl⟩, MW_e ht hC⟩, hS.F ht⟩) hS.2.2 hd) h  hl hC va_S.rf

-- RecordShelfModel.isDigit(I)Z
theorem dX8_isDigit_0 : decode cX8_isDigit 0 = .ok (.iload_n 0, 1) := by decide +kernel
theorem dX8_isDigit_1 : decode cX8_isDigit 1 = .ok (.bipush 48, 2) := by decide +kernel
theorem dX8_isDigit_3 : decode cX8_isDigit 3 = .ok (.if_icmp .lt 13, 3) := by decide +kernel
theorem dX8_isDigit_6 : decode cX8_isDigit 6 = .ok (.iload_n 0, 1) := by decide +kernel
theorem dX8_isDigit_7 : decode cX8_isDigit 7 = .ok (.bipush 57, 2) := by decide +kernel
theorem dX8_isDigit_9 : decode cX8_isDigit 9 = .ok (.if_icmp .gt 7, 3) := by decide +kernel
theorem dX8_isDigit_12 : decode cX8_isDigit 12 = .ok (.iconst 1, 1) := by decide +kernel
theorem dX8_isDigit_13 : decode cX8_isDigit 13 = .ok (.goto 4, 3) := by decide +kernel
theorem dX8_isDigit_16 : decode cX8_isDigit 16 = .ok (.iconst 0, 1) := by decide +kernel
theorem dX8_isDigit_17 : decode cX8_isDigit 17 = .ok (.ireturn, 1) := by decide +kernel
def rm_X8_isDigit : Room := { frames := 0, cells := 0, slots := 0, locals := 0 }
def fn_X8_isDigit (x0 : Int32) : Option (Int32) :=
  (if x0 < 48 then
  some 0
  else (if (57 : Int32) < x0 then
  some 0
  else some 1))
set_option maxHeartbeats 4000000 in
set_option maxRecDepth 100000 in
theorem w_X8_isDigit_B0 {p : Program} {l : Launch} {e : Env} {s : State} {m : MethodId} {args : Array Value} {below : List Frame} {meth : Method} {c : Code} {Q : State → Prop} {D : va_G} {κ : Nat → ClassId} {b : Nat} {H0 : Heap} {rr : Int32} {σ : Sg} (hZ : sg_Z p c s m args D κ cX8_isDigit 1 RX8 wsX8_isDigit) (hret : ∀ (v : Int32) (H : Heap) (locs : List Loc) (pc : Nat) (ls : Array Slot), some v = some rr → narrow .boolean (.int v) = .int v → MW D κ b σ H → va_S (sg_A b 16) H0 H locs → decode cX8_isDigit pc = .ok (.ireturn, 1) → W p l e rm_X8_isDigit s m args below meth c H locs 0 0 Q (F0 m pc ls [.int v])) : ∀ {x0 : Int32} {H : Heap} {locs : List Loc} {ls : Array Slot}, fn_X8_isDigit x0 = some rr → lv_has ls 1 [(0, .int x0)] → MW D κ b σ H → va_S (sg_A b 16) H0 H locs → W p l e rm_X8_isDigit s m args below meth c H locs 0 0 Q (F0 m 0 ls []) := by
  obtain ⟨hx, hb, hml, hown, hts, hK⟩ := hZ
  intro x0 H locs ls h hl hC hS
  unfold fn_X8_isDigit at h
  refine lv_iload_n hx hb dX8_isDigit_0 rfl (lv_at hl 0 rfl) ?_
  refine lv_bipush (v := 48) hx hb dX8_isDigit_1 (by decide) ?_
  refine lv_icmp_lt (tgt := 16) hx hb dX8_isDigit_3 (by decide) (fun hc => ?_) (fun hc => ?_)
  · replace h := (if_pos hc).symm.trans h
    refine lv_iconst (v := 0) hx hb dX8_isDigit_16 (by decide) ?_
    exact hret _ _ _ _ _ h (by decide) hC hS dX8_isDigit_17
  · replace h := (if_neg hc).symm.trans h
    refine lv_iload_n hx hb dX8_isDigit_6 rfl (lv_at hl 0 rfl) ?_
    refine lv_bipush (v := 57) hx hb dX8_isDigit_7 (by decide) ?_
    refine lv_icmp_gt (tgt := 16) hx hb dX8_isDigit_9 (by decide) (fun hc => ?_) (fun hc => ?_)
    · replace h := (if_pos hc).symm.trans h
      refine lv_iconst (v := 0) hx hb dX8_isDigit_16 (by decide) ?_
      exact hret _ _ _ _ _ h (by decide) hC hS dX8_isDigit_17
    · replace h := (if_neg hc).symm.trans h
      refine lv_iconst (v := 1) hx hb dX8_isDigit_12 (by decide) ?_
      refine lv_goto (tgt := 17) hx hb dX8_isDigit_13 (by decide) ?_
      exact hret _ _ _ _ _ h (by decide) hC hS dX8_isDigit_17
set_option maxHeartbeats 4000000 in
set_option maxRecDepth 100000 in
theorem c_X8_isDigit (l : Launch) (D : va_G) (κ : Nat → ClassId) (b : Nat) (σ : Sg) (x0 : Int32) (rr : Int32)  (h : fn_X8_isDigit x0 = some rr) : Met l yX8_isDigit wsX8_isDigit rm_X8_isDigit (va_Pc [.int x0] (fun U => KK D κ U ∧ MW D κ b σ U.heap)) (va_Qi (fun (r : Int32) (u : Sg) => r = rr ∧ u = σ) (fun u t => MW D κ b u t.heap) (sg_A b 16)) 0 0 (sg_A b 16) := by
  refine Met.ofW (cc := cX8_isDigit) (maxL := 1) (ret := (some .boolean)) (by decide) rfl ?_
  intro p e s m args below meth c s₁ B hml hv
  obtain ⟨rfl, hK, hC⟩ := hv
  have hr := B.returns
  have hlocks := B.notSynchronized
  have hl := lv_entry ([.int x0]) (n := 1) (Nat.le_of_ble_eq_true rfl)
  rw [lg_entry_eq]
  generalize (lg_sl ([.int x0]) ++ List.replicate (1 - (lg_sl ([.int x0])).length) Slot.unset).toArray = ls at hl ⊢
  have hl : lv_has ls 1 [(0, .int x0)] := hl
  exact w_X8_isDigit_B0 ⟨B.exec, B.bytes, hml, findClass_of_methodNamed B.named, atoms_spec (ws := wsX8_isDigit) B.pre, hK⟩ (fun v H locs pc ls hq hbo hC hS hd => W.zret B.exec B.bytes hr hbo (fun t ht hW => ⟨⟨v, _, rfl, ⟨Option.some.inj hq, rfl⟩, MW_e ht hC⟩, hS.F ht⟩) hS.2.2 hd) h  hl hC va_S.rf

-- RecordShelfModel.isIndicator(I)Z
theorem dX8_isIndicator_0 : decode cX8_isIndicator 0 = .ok (.iload_n 0, 1) := by decide +kernel
theorem dX8_isIndicator_1 : decode cX8_isIndicator 1 = .ok (.bipush 32, 2) := by decide +kernel
theorem dX8_isIndicator_3 : decode cX8_isIndicator 3 = .ok (.if_icmp .eq 10, 3) := by decide +kernel
theorem dX8_isIndicator_6 : decode cX8_isIndicator 6 = .ok (.iload_n 0, 1) := by decide +kernel
theorem dX8_isIndicator_7 : decode cX8_isIndicator 7 = .ok (.invokestatic 59, 3) := by decide +kernel
theorem dX8_isIndicator_10 : decode cX8_isIndicator 10 = .ok (.ifCond .eq 7, 3) := by decide +kernel
theorem dX8_isIndicator_13 : decode cX8_isIndicator 13 = .ok (.iconst 1, 1) := by decide +kernel
theorem dX8_isIndicator_14 : decode cX8_isIndicator 14 = .ok (.goto 4, 3) := by decide +kernel
theorem dX8_isIndicator_17 : decode cX8_isIndicator 17 = .ok (.iconst 0, 1) := by decide +kernel
theorem dX8_isIndicator_18 : decode cX8_isIndicator 18 = .ok (.ireturn, 1) := by decide +kernel
def rm_X8_isIndicator : Room := { frames := 1, cells := 0, slots := 0, locals := 20 }
def fn_X8_isIndicator_B13  : Option (Int32) :=
  some 1
set_option maxHeartbeats 4000000 in
set_option maxRecDepth 100000 in
theorem w_X8_isIndicator_B13 {p : Program} {l : Launch} {e : Env} {s : State} {m : MethodId} {args : Array Value} {below : List Frame} {meth : Method} {c : Code} {Q : State → Prop} {D : va_G} {κ : Nat → ClassId} {b : Nat} {H0 : Heap} {rr : Int32} {σ : Sg} (hZ : sg_Z p c s m args D κ cX8_isIndicator 1 RX8 wsX8_isIndicator) (hret : ∀ (v : Int32) (H : Heap) (locs : List Loc) (pc : Nat) (ls : Array Slot), some v = some rr → narrow .boolean (.int v) = .int v → MW D κ b σ H → va_S (sg_A b 16) H0 H locs → decode cX8_isIndicator pc = .ok (.ireturn, 1) → W p l e rm_X8_isIndicator s m args below meth c H locs 0 0 Q (F0 m pc ls [.int v])) : ∀ {H : Heap} {locs : List Loc} {ls : Array Slot}, fn_X8_isIndicator_B13 = some rr → lv_has ls 1 [] → MW D κ b σ H → va_S (sg_A b 16) H0 H locs → W p l e rm_X8_isIndicator s m args below meth c H locs 0 0 Q (F0 m 13 ls []) := by
  obtain ⟨hx, hb, hml, hown, hts, hK⟩ := hZ
  intro H locs ls h hl hC hS
  unfold fn_X8_isIndicator_B13 at h
  refine lv_iconst (v := 1) hx hb dX8_isIndicator_13 (by decide) ?_
  refine lv_goto (tgt := 18) hx hb dX8_isIndicator_14 (by decide) ?_
  exact hret _ _ _ _ _ h (by decide) hC hS dX8_isIndicator_18
def fn_X8_isIndicator (x0 : Int32) : Option (Int32) :=
  (if x0 = 32 then
  fn_X8_isIndicator_B13
  else ((fn_X8_isDigit x0).bind fun r1 =>
  (if r1 = 0 then
  some 0
  else fn_X8_isIndicator_B13)))
set_option maxHeartbeats 4000000 in
set_option maxRecDepth 100000 in
theorem w_X8_isIndicator_B0 {p : Program} {l : Launch} {e : Env} {s : State} {m : MethodId} {args : Array Value} {below : List Frame} {meth : Method} {c : Code} {Q : State → Prop} {D : va_G} {κ : Nat → ClassId} {b : Nat} {H0 : Heap} {rr : Int32} {σ : Sg} (hZ : sg_Z p c s m args D κ cX8_isIndicator 1 RX8 wsX8_isIndicator) (hret : ∀ (v : Int32) (H : Heap) (locs : List Loc) (pc : Nat) (ls : Array Slot), some v = some rr → narrow .boolean (.int v) = .int v → MW D κ b σ H → va_S (sg_A b 16) H0 H locs → decode cX8_isIndicator pc = .ok (.ireturn, 1) → W p l e rm_X8_isIndicator s m args below meth c H locs 0 0 Q (F0 m pc ls [.int v])) : ∀ {x0 : Int32} {H : Heap} {locs : List Loc} {ls : Array Slot}, fn_X8_isIndicator x0 = some rr → lv_has ls 1 [(0, .int x0)] → MW D κ b σ H → va_S (sg_A b 16) H0 H locs → W p l e rm_X8_isIndicator s m args below meth c H locs 0 0 Q (F0 m 0 ls []) := by
  obtain ⟨hx, hb, hml, hown, hts, hK⟩ := hZ
  intro x0 H locs ls h hl hC hS
  unfold fn_X8_isIndicator at h
  refine lv_iload_n hx hb dX8_isIndicator_0 rfl (lv_at hl 0 rfl) ?_
  refine lv_bipush (v := 32) hx hb dX8_isIndicator_1 (by decide) ?_
  refine lv_icmp_eq (tgt := 13) hx hb dX8_isIndicator_3 (by decide) (fun hc => ?_) (fun hc => ?_)
  · replace h := (if_pos hc).symm.trans h
    exact w_X8_isIndicator_B13 ⟨hx, hb, hml, hown, hts, hK⟩ hret  h (lv_sub hl [] rfl) hC hS
  · replace h := (if_neg hc).symm.trans h
    refine lv_iload_n hx hb dX8_isIndicator_6 rfl (lv_at hl 0 rfl) ?_
    obtain ⟨r1, er1, h⟩ := Option.bind_eq_some_iff.mp h
    refine va_calli (va_runS (As := [.int x0]) (rest := []) ⟨hx, hb, hml, hown, hts⟩ (c_X8_isDigit l D κ b σ x0 _ er1) (va_cwS 1 hts (gwS wt_751 wt_752 wt_9 wt_753) rfl rfl rfl (by decide +kernel) ⟨Nat.le_of_ble_eq_true rfl, Nat.le_of_ble_eq_true rfl⟩) (MW_preS hK hC) rfl rfl hl.1 rfl (lv_room (Nat.le_of_ble_eq_true rfl)) dX8_isIndicator_7 ⟨Nat.zero_le _, Nat.zero_le _⟩) hS (fun _ _ h => h) (fun _ h => h) (fun r u t H locs ht _ hp hB _ _ hS => ?_)
    refine sg_topi hp.1 ?_
    have hC : MW D κ b σ H := MW_b hB ht hp.2
    refine lv_if_eq (tgt := 17) hx hb dX8_isIndicator_10 (by decide) (fun hc => ?_) (fun hc => ?_)
    · replace h := (if_pos hc).symm.trans h
      refine lv_iconst (v := 0) hx hb dX8_isIndicator_17 (by decide) ?_
      exact hret _ _ _ _ _ h (by decide) hC hS dX8_isIndicator_18
    · replace h := (if_neg hc).symm.trans h
      exact w_X8_isIndicator_B13 ⟨hx, hb, hml, hown, hts, hK⟩ hret  h (lv_sub hl [] rfl) hC hS
set_option maxHeartbeats 4000000 in
set_option maxRecDepth 100000 in
theorem c_X8_isIndicator (l : Launch) (D : va_G) (κ : Nat → ClassId) (b : Nat) (σ : Sg) (x0 : Int32) (rr : Int32)  (h : fn_X8_isIndicator x0 = some rr) : Met l yX8_isIndicator wsX8_isIndicator rm_X8_isIndicator (va_Pc [.int x0] (fun U => KK D κ U ∧ MW D κ b σ U.heap)) (va_Qi (fun (r : Int32) (u : Sg) => r = rr ∧ u = σ) (fun u t => MW D κ b u t.heap) (sg_A b 16)) 0 0 (sg_A b 16) := by
  refine Met.ofW (cc := cX8_isIndicator) (maxL := 1) (ret := (some .boolean)) (by decide) rfl ?_
  intro p e s m args below meth c s₁ B hml hv
  obtain ⟨rfl, hK, hC⟩ := hv
  have hr := B.returns
  have hlocks := B.notSynchronized
  have hl := lv_entry ([.int x0]) (n := 1) (Nat.le_of_ble_eq_true rfl)
  rw [lg_entry_eq]
  generalize (lg_sl ([.int x0]) ++ List.replicate (1 - (lg_sl ([.int x0])).length) Slot.unset).toArray = ls at hl ⊢
  have hl : lv_has ls 1 [(0, .int x0)] := hl
  exact w_X8_isIndicator_B0 ⟨B.exec, B.bytes, hml, findClass_of_methodNamed B.named, atoms_spec (ws := wsX8_isIndicator) B.pre, hK⟩ (fun v H locs pc ls hq hbo hC hS hd => W.zret B.exec B.bytes hr hbo (fun t ht hW => ⟨⟨v, _, rfl, ⟨Option.some.inj hq, rfl⟩, MW_e ht hC⟩, hS.F ht⟩) hS.2.2 hd) h  hl hC va_S.rf

-- RecordShelfModel.isCode(I)Z
theorem dX8_isCode_0 : decode cX8_isCode 0 = .ok (.iload_n 0, 1) := by decide +kernel
theorem dX8_isCode_1 : decode cX8_isCode 1 = .ok (.bipush 97, 2) := by decide +kernel
theorem dX8_isCode_3 : decode cX8_isCode 3 = .ok (.if_icmp .lt 9, 3) := by decide +kernel
theorem dX8_isCode_6 : decode cX8_isCode 6 = .ok (.iload_n 0, 1) := by decide +kernel
theorem dX8_isCode_7 : decode cX8_isCode 7 = .ok (.bipush 122, 2) := by decide +kernel
theorem dX8_isCode_9 : decode cX8_isCode 9 = .ok (.if_icmp .le 10, 3) := by decide +kernel
theorem dX8_isCode_12 : decode cX8_isCode 12 = .ok (.iload_n 0, 1) := by decide +kernel
theorem dX8_isCode_13 : decode cX8_isCode 13 = .ok (.invokestatic 59, 3) := by decide +kernel
theorem dX8_isCode_16 : decode cX8_isCode 16 = .ok (.ifCond .eq 7, 3) := by decide +kernel
theorem dX8_isCode_19 : decode cX8_isCode 19 = .ok (.iconst 1, 1) := by decide +kernel
theorem dX8_isCode_20 : decode cX8_isCode 20 = .ok (.goto 4, 3) := by decide +kernel
theorem dX8_isCode_23 : decode cX8_isCode 23 = .ok (.iconst 0, 1) := by decide +kernel
theorem dX8_isCode_24 : decode cX8_isCode 24 = .ok (.ireturn, 1) := by decide +kernel
def rm_X8_isCode : Room := { frames := 1, cells := 0, slots := 0, locals := 20 }
def fn_X8_isCode_B19  : Option (Int32) :=
  some 1
set_option maxHeartbeats 4000000 in
set_option maxRecDepth 100000 in
theorem w_X8_isCode_B19 {p : Program} {l : Launch} {e : Env} {s : State} {m : MethodId} {args : Array Value} {below : List Frame} {meth : Method} {c : Code} {Q : State → Prop} {D : va_G} {κ : Nat → ClassId} {b : Nat} {H0 : Heap} {rr : Int32} {σ : Sg} (hZ : sg_Z p c s m args D κ cX8_isCode 1 RX8 wsX8_isCode) (hret : ∀ (v : Int32) (H : Heap) (locs : List Loc) (pc : Nat) (ls : Array Slot), some v = some rr → narrow .boolean (.int v) = .int v → MW D κ b σ H → va_S (sg_A b 16) H0 H locs → decode cX8_isCode pc = .ok (.ireturn, 1) → W p l e rm_X8_isCode s m args below meth c H locs 0 0 Q (F0 m pc ls [.int v])) : ∀ {H : Heap} {locs : List Loc} {ls : Array Slot}, fn_X8_isCode_B19 = some rr → lv_has ls 1 [] → MW D κ b σ H → va_S (sg_A b 16) H0 H locs → W p l e rm_X8_isCode s m args below meth c H locs 0 0 Q (F0 m 19 ls []) := by
  obtain ⟨hx, hb, hml, hown, hts, hK⟩ := hZ
  intro H locs ls h hl hC hS
  unfold fn_X8_isCode_B19 at h
  refine lv_iconst (v := 1) hx hb dX8_isCode_19 (by decide) ?_
  refine lv_goto (tgt := 24) hx hb dX8_isCode_20 (by decide) ?_
  exact hret _ _ _ _ _ h (by decide) hC hS dX8_isCode_24
def fn_X8_isCode_B12 (x0 : Int32) : Option (Int32) :=
  ((fn_X8_isDigit x0).bind fun r1 =>
  (if r1 = 0 then
  some 0
  else fn_X8_isCode_B19))
set_option maxHeartbeats 4000000 in
set_option maxRecDepth 100000 in
theorem w_X8_isCode_B12 {p : Program} {l : Launch} {e : Env} {s : State} {m : MethodId} {args : Array Value} {below : List Frame} {meth : Method} {c : Code} {Q : State → Prop} {D : va_G} {κ : Nat → ClassId} {b : Nat} {H0 : Heap} {rr : Int32} {σ : Sg} (hZ : sg_Z p c s m args D κ cX8_isCode 1 RX8 wsX8_isCode) (hret : ∀ (v : Int32) (H : Heap) (locs : List Loc) (pc : Nat) (ls : Array Slot), some v = some rr → narrow .boolean (.int v) = .int v → MW D κ b σ H → va_S (sg_A b 16) H0 H locs → decode cX8_isCode pc = .ok (.ireturn, 1) → W p l e rm_X8_isCode s m args below meth c H locs 0 0 Q (F0 m pc ls [.int v])) : ∀ {x0 : Int32} {H : Heap} {locs : List Loc} {ls : Array Slot}, fn_X8_isCode_B12 x0 = some rr → lv_has ls 1 [(0, .int x0)] → MW D κ b σ H → va_S (sg_A b 16) H0 H locs → W p l e rm_X8_isCode s m args below meth c H locs 0 0 Q (F0 m 12 ls []) := by
  obtain ⟨hx, hb, hml, hown, hts, hK⟩ := hZ
  intro x0 H locs ls h hl hC hS
  unfold fn_X8_isCode_B12 at h
  refine lv_iload_n hx hb dX8_isCode_12 rfl (lv_at hl 0 rfl) ?_
  obtain ⟨r1, er1, h⟩ := Option.bind_eq_some_iff.mp h
  refine va_calli (va_runS (As := [.int x0]) (rest := []) ⟨hx, hb, hml, hown, hts⟩ (c_X8_isDigit l D κ b σ x0 _ er1) (va_cwS 1 hts (gwS wt_751 wt_752 wt_9 wt_753) rfl rfl rfl (by decide +kernel) ⟨Nat.le_of_ble_eq_true rfl, Nat.le_of_ble_eq_true rfl⟩) (MW_preS hK hC) rfl rfl hl.1 rfl (lv_room (Nat.le_of_ble_eq_true rfl)) dX8_isCode_13 ⟨Nat.zero_le _, Nat.zero_le _⟩) hS (fun _ _ h => h) (fun _ h => h) (fun r u t H locs ht _ hp hB _ _ hS => ?_)
  refine sg_topi hp.1 ?_
  have hC : MW D κ b σ H := MW_b hB ht hp.2
  refine lv_if_eq (tgt := 23) hx hb dX8_isCode_16 (by decide) (fun hc => ?_) (fun hc => ?_)
  · replace h := (if_pos hc).symm.trans h
    refine lv_iconst (v := 0) hx hb dX8_isCode_23 (by decide) ?_
    exact hret _ _ _ _ _ h (by decide) hC hS dX8_isCode_24
  · replace h := (if_neg hc).symm.trans h
    exact w_X8_isCode_B19 ⟨hx, hb, hml, hown, hts, hK⟩ hret  h (lv_sub hl [] rfl) hC hS
def fn_X8_isCode (x0 : Int32) : Option (Int32) :=
  (if x0 < 97 then
  fn_X8_isCode_B12 x0
  else (if x0 ≤ 122 then
  fn_X8_isCode_B19
  else fn_X8_isCode_B12 x0))
set_option maxHeartbeats 4000000 in
set_option maxRecDepth 100000 in
theorem w_X8_isCode_B0 {p : Program} {l : Launch} {e : Env} {s : State} {m : MethodId} {args : Array Value} {below : List Frame} {meth : Method} {c : Code} {Q : State → Prop} {D : va_G} {κ : Nat → ClassId} {b : Nat} {H0 : Heap} {rr : Int32} {σ : Sg} (hZ : sg_Z p c s m args D κ cX8_isCode 1 RX8 wsX8_isCode) (hret : ∀ (v : Int32) (H : Heap) (locs : List Loc) (pc : Nat) (ls : Array Slot), some v = some rr → narrow .boolean (.int v) = .int v → MW D κ b σ H → va_S (sg_A b 16) H0 H locs → decode cX8_isCode pc = .ok (.ireturn, 1) → W p l e rm_X8_isCode s m args below meth c H locs 0 0 Q (F0 m pc ls [.int v])) : ∀ {x0 : Int32} {H : Heap} {locs : List Loc} {ls : Array Slot}, fn_X8_isCode x0 = some rr → lv_has ls 1 [(0, .int x0)] → MW D κ b σ H → va_S (sg_A b 16) H0 H locs → W p l e rm_X8_isCode s m args below meth c H locs 0 0 Q (F0 m 0 ls []) := by
  obtain ⟨hx, hb, hml, hown, hts, hK⟩ := hZ
  intro x0 H locs ls h hl hC hS
  unfold fn_X8_isCode at h
  refine lv_iload_n hx hb dX8_isCode_0 rfl (lv_at hl 0 rfl) ?_
  refine lv_bipush (v := 97) hx hb dX8_isCode_1 (by decide) ?_
  refine lv_icmp_lt (tgt := 12) hx hb dX8_isCode_3 (by decide) (fun hc => ?_) (fun hc => ?_)
  · replace h := (if_pos hc).symm.trans h
    exact w_X8_isCode_B12 ⟨hx, hb, hml, hown, hts, hK⟩ hret  h (lv_sub hl [0] rfl) hC hS
  · replace h := (if_neg hc).symm.trans h
    refine lv_iload_n hx hb dX8_isCode_6 rfl (lv_at hl 0 rfl) ?_
    refine lv_bipush (v := 122) hx hb dX8_isCode_7 (by decide) ?_
    refine lv_icmp_le (tgt := 19) hx hb dX8_isCode_9 (by decide) (fun hc => ?_) (fun hc => ?_)
    · replace h := (if_pos hc).symm.trans h
      exact w_X8_isCode_B19 ⟨hx, hb, hml, hown, hts, hK⟩ hret  h (lv_sub hl [] rfl) hC hS
    · replace h := (if_neg hc).symm.trans h
      exact w_X8_isCode_B12 ⟨hx, hb, hml, hown, hts, hK⟩ hret  h (lv_sub hl [0] rfl) hC hS
set_option maxHeartbeats 4000000 in
set_option maxRecDepth 100000 in
theorem c_X8_isCode (l : Launch) (D : va_G) (κ : Nat → ClassId) (b : Nat) (σ : Sg) (x0 : Int32) (rr : Int32)  (h : fn_X8_isCode x0 = some rr) : Met l yX8_isCode wsX8_isCode rm_X8_isCode (va_Pc [.int x0] (fun U => KK D κ U ∧ MW D κ b σ U.heap)) (va_Qi (fun (r : Int32) (u : Sg) => r = rr ∧ u = σ) (fun u t => MW D κ b u t.heap) (sg_A b 16)) 0 0 (sg_A b 16) := by
  refine Met.ofW (cc := cX8_isCode) (maxL := 1) (ret := (some .boolean)) (by decide) rfl ?_
  intro p e s m args below meth c s₁ B hml hv
  obtain ⟨rfl, hK, hC⟩ := hv
  have hr := B.returns
  have hlocks := B.notSynchronized
  have hl := lv_entry ([.int x0]) (n := 1) (Nat.le_of_ble_eq_true rfl)
  rw [lg_entry_eq]
  generalize (lg_sl ([.int x0]) ++ List.replicate (1 - (lg_sl ([.int x0])).length) Slot.unset).toArray = ls at hl ⊢
  have hl : lv_has ls 1 [(0, .int x0)] := hl
  exact w_X8_isCode_B0 ⟨B.exec, B.bytes, hml, findClass_of_methodNamed B.named, atoms_spec (ws := wsX8_isCode) B.pre, hK⟩ (fun v H locs pc ls hq hbo hC hS hd => W.zret B.exec B.bytes hr hbo (fun t ht hW => ⟨⟨v, _, rfl, ⟨Option.some.inj hq, rfl⟩, MW_e ht hC⟩, hS.F ht⟩) hS.2.2 hd) h  hl hC va_S.rf

-- RecordShelfModel.put(I)V
theorem dX8_put_0 : decode cX8_put 0 = .ok (.aload_n 0, 1) := by decide +kernel
theorem dX8_put_1 : decode cX8_put 1 = .ok (.getfield 7, 3) := by decide +kernel
theorem dX8_put_4 : decode cX8_put 4 = .ok (.aload_n 0, 1) := by decide +kernel
theorem dX8_put_5 : decode cX8_put 5 = .ok (.getfield 65, 3) := by decide +kernel
theorem dX8_put_8 : decode cX8_put 8 = .ok (.iload_n 1, 1) := by decide +kernel
theorem dX8_put_9 : decode cX8_put 9 = .ok (.iastore, 1) := by decide +kernel
theorem dX8_put_10 : decode cX8_put 10 = .ok (.aload_n 0, 1) := by decide +kernel
theorem dX8_put_11 : decode cX8_put 11 = .ok (.dup, 1) := by decide +kernel
theorem dX8_put_12 : decode cX8_put 12 = .ok (.getfield 65, 3) := by decide +kernel
theorem dX8_put_15 : decode cX8_put 15 = .ok (.iconst 1, 1) := by decide +kernel
theorem dX8_put_16 : decode cX8_put 16 = .ok (.iadd, 1) := by decide +kernel
theorem dX8_put_17 : decode cX8_put 17 = .ok (.putfield 65, 3) := by decide +kernel
theorem dX8_put_20 : decode cX8_put 20 = .ok (.return_, 1) := by decide +kernel
def rm_X8_put : Room := { frames := 0, cells := 0, slots := 0, locals := 0 }
def fn_X8_put (b : Nat) (σ : Sg) (x1 : Int32) : Option (Sg) :=
  (if sg_ib (σ.1 b 1) 600 then
  (sg_lt (sg_w σ (b + 1) (sg_x (σ.1 b 1)) x1) fun σ1 =>
  (sg_lt (sg_w σ1 b 1 ((σ1.1 b 1) + 1)) fun σ2 =>
  some σ2))
  else none)
set_option maxHeartbeats 4000000 in
set_option maxRecDepth 100000 in
theorem w_X8_put_B0 {p : Program} {l : Launch} {e : Env} {s : State} {m : MethodId} {args : Array Value} {below : List Frame} {meth : Method} {c : Code} {Q : State → Prop} {D : va_G} {κ : Nat → ClassId} {b : Nat} {H0 : Heap} {rr : Sg} (hZ : sg_Z p c s m args D κ cX8_put 2 RX8 wsX8_put) (hret : ∀ (u : Sg) (H : Heap) (locs : List Loc) (pc : Nat) (ls : Array Slot), some u = some rr → MW D κ b u H → va_S (sg_A b 16) H0 H locs → decode cX8_put pc = .ok (.return_, 1) → W p l e rm_X8_put s m args below meth c H locs 0 0 Q (F0 m pc ls [])) : ∀ {σ : Sg} {x1 : Int32} {H : Heap} {locs : List Loc} {ls : Array Slot}, fn_X8_put b σ x1 = some rr → lv_has ls 2 [(0, .ref b), (1, .int x1)] → MW D κ b σ H → va_S (sg_A b 16) H0 H locs → W p l e rm_X8_put s m args below meth c H locs 0 0 Q (F0 m 0 ls []) := by
  obtain ⟨hx, hb, hml, hown, hts, hK⟩ := hZ
  intro σ x1 H locs ls h hl hC hS
  unfold fn_X8_put at h
  refine lv_aload_n hx hb dX8_put_0 rfl (lv_at hl 0 rfl) ?_
  refine va_get (D := D) (ci := 8) (v := .ref (b + 1)) (C := RX8) (T := TX8) (N := 21) hx hb hts (wqs inW_X8) hown hK.1 hC.1 (b - b) sg_gModel rfl 0 (by decide) (hts _ (wq wt_648)) (fun _ h9 => h9) rfl dX8_put_1 ?_
  refine lv_aload_n hx hb dX8_put_4 rfl (lv_at hl 0 rfl) ?_
  refine va_get (D := D) (ci := 8) (v := .int (σ.1 b 1)) (C := RX8) (T := TX8) (N := 21) hx hb hts (wqs inW_X8) hown hK.1 hC.1 (b - b) sg_gModel rfl 1 (by decide) (hts _ (wq wt_649)) (fun _ h9 => h9) rfl dX8_put_5 ?_
  refine lv_iload_n hx hb dX8_put_8 rfl (lv_at hl 1 rfl) ?_
  obtain ⟨hg, h⟩ := sg_gd h
  refine va_iast hx hb hK.1 hC.1 sg_D hS ((b + 1) - b) 0 sg_ga_text rfl (sg_in hg) dX8_put_9 (fun H locs hP _ hS => ?_)
  obtain ⟨σ1, eσ1, h⟩ := sg_lte h
  have hC : MW D κ b σ1 H := eσ1 ▸ MW_put (k := sg_x (σ.1 b 1)) (v := x1) hC sg_aa_text (sg_ya_text _ _) hP
  refine lv_aload_n hx hb dX8_put_10 rfl (lv_at hl 0 rfl) ?_
  refine lv_dup hx hb dX8_put_11 rfl ?_
  refine va_get (D := D) (ci := 8) (v := .int (σ1.1 b 1)) (C := RX8) (T := TX8) (N := 21) hx hb hts (wqs inW_X8) hown hK.1 hC.1 (b - b) sg_gModel rfl 1 (by decide) (hts _ (wq wt_649)) (fun _ h9 => h9) rfl dX8_put_12 ?_
  refine lv_iconst (v := 1) hx hb dX8_put_15 (by decide) ?_
  refine lv_iadd hx hb dX8_put_16 ?_
  refine va_put (D := D) (ci := 8) (v := .int ((σ1.1 b 1) + 1)) (ty := .int) (C := RX8) (T := TX8) (N := 21) hx hb hts (wqs inW_X8) tyX8 tyX8_ok nmX8 hown hK.1 hC.1 sg_D hS (b - b) sg_gModel rfl 1 (by decide) (hts _ (wq wt_649)) (fun _ h9 => h9) rfl (by decide +kernel) rfl rfl (Nat.le_of_ble_eq_true rfl) dX8_put_17 (fun H locs hP _ hS => ?_)
  obtain ⟨σ2, eσ2, h⟩ := sg_lte h
  have hC : MW D κ b σ2 H := eσ2 ▸ MW_put (k := 1) (v := ((σ1.1 b 1) + 1)) hC sg_aModel (sg_yModel _ _) hP
  exact hret _ _ _ _ _ h hC hS dX8_put_20
set_option maxHeartbeats 4000000 in
set_option maxRecDepth 100000 in
theorem c_X8_put (l : Launch) (D : va_G) (κ : Nat → ClassId) (b : Nat) (σ : Sg) (x1 : Int32) (rr : Sg)  (h : fn_X8_put b σ x1 = some rr) : Met l yX8_put wsX8_put rm_X8_put (va_Pc [.ref b, .int x1] (fun U => KK D κ U ∧ MW D κ b σ U.heap)) (va_Qv (fun u : Sg => u = rr) (fun u t => MW D κ b u t.heap) (sg_A b 16)) 0 0 (sg_A b 16) := by
  refine Met.ofW (cc := cX8_put) (maxL := 2) (ret := none) (by decide) rfl ?_
  intro p e s m args below meth c s₁ B hml hv
  obtain ⟨rfl, hK, hC⟩ := hv
  have hr := B.returns
  have hlocks := B.notSynchronized
  have hl := lv_entry ([.ref b, .int x1]) (n := 2) (Nat.le_of_ble_eq_true rfl)
  rw [lg_entry_eq]
  generalize (lg_sl ([.ref b, .int x1]) ++ List.replicate (2 - (lg_sl ([.ref b, .int x1])).length) Slot.unset).toArray = ls at hl ⊢
  have hl : lv_has ls 2 [(0, .ref b), (1, .int x1)] := hl
  exact w_X8_put_B0 ⟨B.exec, B.bytes, hml, findClass_of_methodNamed B.named, atoms_spec (ws := wsX8_put) B.pre, hK⟩ (fun u H locs pc ls hq hC hS hd => W.vret B.exec B.bytes hr (fun t ht hW => ⟨⟨_, rfl, Option.some.inj hq, MW_e ht hC⟩, hS.F ht⟩) hS.2.2 hd) h  hl hC va_S.rf

-- RecordShelfModel.feed(JI)I
theorem dX8_feed_0 : decode cX8_feed 0 = .ok (.iload_n 3, 1) := by decide +kernel
theorem dX8_feed_1 : decode cX8_feed 1 = .ok (.iconst 1, 1) := by decide +kernel
theorem dX8_feed_2 : decode cX8_feed 2 = .ok (.if_icmp .lt 9, 3) := by decide +kernel
theorem dX8_feed_5 : decode cX8_feed 5 = .ok (.iload_n 3, 1) := by decide +kernel
theorem dX8_feed_6 : decode cX8_feed 6 = .ok (.bipush 8, 2) := by decide +kernel
theorem dX8_feed_8 : decode cX8_feed 8 = .ok (.if_icmp .le 5, 3) := by decide +kernel
theorem dX8_feed_11 : decode cX8_feed 11 = .ok (.iconst (-1), 1) := by decide +kernel
theorem dX8_feed_12 : decode cX8_feed 12 = .ok (.ireturn, 1) := by decide +kernel
theorem dX8_feed_13 : decode cX8_feed 13 = .ok (.iconst 0, 1) := by decide +kernel
theorem dX8_feed_14 : decode cX8_feed 14 = .ok (.istore 4, 2) := by decide +kernel
theorem dX8_feed_16 : decode cX8_feed 16 = .ok (.iload 4, 2) := by decide +kernel
theorem dX8_feed_18 : decode cX8_feed 18 = .ok (.iload_n 3, 1) := by decide +kernel
theorem dX8_feed_19 : decode cX8_feed 19 = .ok (.if_icmp .ge 39, 3) := by decide +kernel
theorem dX8_feed_22 : decode cX8_feed 22 = .ok (.lload_n 1, 1) := by decide +kernel
theorem dX8_feed_23 : decode cX8_feed 23 = .ok (.bipush 8, 2) := by decide +kernel
theorem dX8_feed_25 : decode cX8_feed 25 = .ok (.iload 4, 2) := by decide +kernel
theorem dX8_feed_27 : decode cX8_feed 27 = .ok (.imul, 1) := by decide +kernel
theorem dX8_feed_28 : decode cX8_feed 28 = .ok (.lshr, 1) := by decide +kernel
theorem dX8_feed_29 : decode cX8_feed 29 = .ok (.ldc2_w 63, 3) := by decide +kernel
theorem dX8_feed_32 : decode cX8_feed 32 = .ok (.land, 1) := by decide +kernel
theorem dX8_feed_33 : decode cX8_feed 33 = .ok (.l2i, 1) := by decide +kernel
theorem dX8_feed_34 : decode cX8_feed 34 = .ok (.istore 5, 2) := by decide +kernel
theorem dX8_feed_36 : decode cX8_feed 36 = .ok (.iload 5, 2) := by decide +kernel
theorem dX8_feed_38 : decode cX8_feed 38 = .ok (.bipush 29, 2) := by decide +kernel
theorem dX8_feed_40 : decode cX8_feed 40 = .ok (.if_icmp .lt 10, 3) := by decide +kernel
theorem dX8_feed_43 : decode cX8_feed 43 = .ok (.iload 5, 2) := by decide +kernel
theorem dX8_feed_45 : decode cX8_feed 45 = .ok (.bipush 126, 2) := by decide +kernel
theorem dX8_feed_47 : decode cX8_feed 47 = .ok (.if_icmp .le 5, 3) := by decide +kernel
theorem dX8_feed_50 : decode cX8_feed 50 = .ok (.iconst (-1), 1) := by decide +kernel
theorem dX8_feed_51 : decode cX8_feed 51 = .ok (.ireturn, 1) := by decide +kernel
theorem dX8_feed_52 : decode cX8_feed 52 = .ok (.iinc 4 1, 3) := by decide +kernel
theorem dX8_feed_55 : decode cX8_feed 55 = .ok (.goto (-39), 3) := by decide +kernel
theorem dX8_feed_58 : decode cX8_feed 58 = .ok (.aload_n 0, 1) := by decide +kernel
theorem dX8_feed_59 : decode cX8_feed 59 = .ok (.getfield 65, 3) := by decide +kernel
theorem dX8_feed_62 : decode cX8_feed 62 = .ok (.iload_n 3, 1) := by decide +kernel
theorem dX8_feed_63 : decode cX8_feed 63 = .ok (.iadd, 1) := by decide +kernel
theorem dX8_feed_64 : decode cX8_feed 64 = .ok (.sipush 600, 3) := by decide +kernel
theorem dX8_feed_67 : decode cX8_feed 67 = .ok (.if_icmp .le 6, 3) := by decide +kernel
theorem dX8_feed_70 : decode cX8_feed 70 = .ok (.bipush (-2), 2) := by decide +kernel
theorem dX8_feed_72 : decode cX8_feed 72 = .ok (.ireturn, 1) := by decide +kernel
theorem dX8_feed_73 : decode cX8_feed 73 = .ok (.iload_n 3, 1) := by decide +kernel
theorem dX8_feed_74 : decode cX8_feed 74 = .ok (.iconst 1, 1) := by decide +kernel
theorem dX8_feed_75 : decode cX8_feed 75 = .ok (.isub, 1) := by decide +kernel
theorem dX8_feed_76 : decode cX8_feed 76 = .ok (.istore 4, 2) := by decide +kernel
theorem dX8_feed_78 : decode cX8_feed 78 = .ok (.iload 4, 2) := by decide +kernel
theorem dX8_feed_80 : decode cX8_feed 80 = .ok (.ifCond .lt 25, 3) := by decide +kernel
theorem dX8_feed_83 : decode cX8_feed 83 = .ok (.aload_n 0, 1) := by decide +kernel
theorem dX8_feed_84 : decode cX8_feed 84 = .ok (.lload_n 1, 1) := by decide +kernel
theorem dX8_feed_85 : decode cX8_feed 85 = .ok (.bipush 8, 2) := by decide +kernel
theorem dX8_feed_87 : decode cX8_feed 87 = .ok (.iload 4, 2) := by decide +kernel
theorem dX8_feed_89 : decode cX8_feed 89 = .ok (.imul, 1) := by decide +kernel
theorem dX8_feed_90 : decode cX8_feed 90 = .ok (.lshr, 1) := by decide +kernel
theorem dX8_feed_91 : decode cX8_feed 91 = .ok (.ldc2_w 63, 3) := by decide +kernel
theorem dX8_feed_94 : decode cX8_feed 94 = .ok (.land, 1) := by decide +kernel
theorem dX8_feed_95 : decode cX8_feed 95 = .ok (.l2i, 1) := by decide +kernel
theorem dX8_feed_96 : decode cX8_feed 96 = .ok (.invokevirtual 68, 3) := by decide +kernel
theorem dX8_feed_99 : decode cX8_feed 99 = .ok (.iinc 4 (-1), 3) := by decide +kernel
theorem dX8_feed_102 : decode cX8_feed 102 = .ok (.goto (-24), 3) := by decide +kernel
theorem dX8_feed_105 : decode cX8_feed 105 = .ok (.aload_n 0, 1) := by decide +kernel
theorem dX8_feed_106 : decode cX8_feed 106 = .ok (.getfield 65, 3) := by decide +kernel
theorem dX8_feed_109 : decode cX8_feed 109 = .ok (.ireturn, 1) := by decide +kernel
def rm_X8_feed : Room := { frames := 1, cells := 0, slots := 0, locals := 21 }
def fn_X8_feed_B78b (b : Nat) (z78 : Sg → Int64 → Int32 → Option (Int32 × Sg)) (σ : Sg) (x1 : Int64) (x4 : Int32) : Option (Int32 × Sg) :=
  (if x4 < 0 then
  some ((σ.1 b 1), σ)
  else ((fn_X8_put b σ ((((x1 >>> ((((8 * x4) : Int32).toInt64) &&& 63)) &&& 255) : Int64).toInt32)).bind fun r1 =>
  (sg_lt (x4 + (-1) : Int32) fun v2 =>
  z78 r1 x1 v2)))
def fn_X8_feed_B78 (b : Nat) : Nat → Sg → Int64 → Int32 → Option (Int32 × Sg)
  | 0 => fun _ _ _ => none
  | n + 1 => fun σ x1 x4 => fn_X8_feed_B78b b (fn_X8_feed_B78 b n) σ x1 x4
set_option maxHeartbeats 4000000 in
set_option maxRecDepth 100000 in
theorem w_X8_feed_B78b {p : Program} {l : Launch} {e : Env} {s : State} {m : MethodId} {args : Array Value} {below : List Frame} {meth : Method} {c : Code} {Q : State → Prop} {D : va_G} {κ : Nat → ClassId} {b : Nat} {H0 : Heap} {rr : Int32 × Sg} (hZ : sg_Z p c s m args D κ cX8_feed 6 RX8 wsX8_feed) (hret : ∀ (v : Int32) (u : Sg) (H : Heap) (locs : List Loc) (pc : Nat) (ls : Array Slot), some (v, u) = some rr → MW D κ b u H → va_S (sg_A b 16) H0 H locs → decode cX8_feed pc = .ok (.ireturn, 1) → W p l e rm_X8_feed s m args below meth c H locs 0 0 Q (F0 m pc ls [.int v])) {z78 : Sg → Int64 → Int32 → Option (Int32 × Sg)} (hr78 : ∀ {σ : Sg} {x1 : Int64} {x4 : Int32} {H : Heap} {locs : List Loc} {ls : Array Slot}, z78 σ x1 x4 = some rr → lv_has ls 6 [(0, .ref b), (1, .long x1), (4, .int x4)] → MW D κ b σ H → va_S (sg_A b 16) H0 H locs → W p l e rm_X8_feed s m args below meth c H locs 0 0 Q (F0 m 78 ls [])) : ∀ {σ : Sg} {x1 : Int64} {x4 : Int32} {H : Heap} {locs : List Loc} {ls : Array Slot}, fn_X8_feed_B78b b z78 σ x1 x4 = some rr → lv_has ls 6 [(0, .ref b), (1, .long x1), (4, .int x4)] → MW D κ b σ H → va_S (sg_A b 16) H0 H locs → W p l e rm_X8_feed s m args below meth c H locs 0 0 Q (F0 m 78 ls []) := by
  obtain ⟨hx, hb, hml, hown, hts, hK⟩ := hZ
  intro σ x1 x4 H locs ls h hl hC hS
  unfold fn_X8_feed_B78b at h
  refine lv_iload hx hb dX8_feed_78 (lv_at hl 2 rfl) ?_
  refine lv_if_lt (tgt := 105) hx hb dX8_feed_80 (by decide) (fun hc => ?_) (fun hc => ?_)
  · replace h := (if_pos hc).symm.trans h
    refine lv_aload_n hx hb dX8_feed_105 rfl (lv_at hl 0 rfl) ?_
    refine va_get (D := D) (ci := 8) (v := .int (σ.1 b 1)) (C := RX8) (T := TX8) (N := 21) hx hb hts (wqs inW_X8) hown hK.1 hC.1 (b - b) sg_gModel rfl 1 (by decide) (hts _ (wq wt_649)) (fun _ h9 => h9) rfl dX8_feed_106 ?_
    exact hret _ _ _ _ _ _ h hC hS dX8_feed_109
  · replace h := (if_neg hc).symm.trans h
    refine lv_aload_n hx hb dX8_feed_83 rfl (lv_at hl 0 rfl) ?_
    refine lv_lload_n hx hb dX8_feed_84 rfl (lv_at hl 1 rfl) ?_
    refine lv_bipush (v := 8) hx hb dX8_feed_85 (by decide) ?_
    refine lv_iload hx hb dX8_feed_87 (lv_at hl 2 rfl) ?_
    refine lv_imul hx hb dX8_feed_89 ?_
    refine lv_lshr (v := (x1 >>> ((((8 * x4) : Int32).toInt64) &&& 63))) hx hb dX8_feed_90 rfl ?_
    refine lv_ldc2 (v := 255) hx hb hown (hts _ (wq wt_716)) dX8_feed_91 ?_
    refine lv_land hx hb dX8_feed_94 ?_
    refine lv_l2i (v := ((((x1 >>> ((((8 * x4) : Int32).toInt64) &&& 63)) &&& 255) : Int64).toInt32)) hx hb dX8_feed_95 rfl ?_
    obtain ⟨r1, er1, h⟩ := Option.bind_eq_some_iff.mp h
    refine va_callv (va_runV (As := [.int ((((x1 >>> ((((8 * x4) : Int32).toInt64) &&& 63)) &&& 255) : Int64).toInt32)]) (rest := []) ⟨hx, hb, hml, hown, hts⟩ (c_X8_put l D κ b σ ((((x1 >>> ((((8 * x4) : Int32).toInt64) &&& 63)) &&& 255) : Int64).toInt32) _ er1) (cwV 1 hts (gwV wt_717 wt_719 wp_30 wt_9 wt_720) rfl rfl rfl (by decide +kernel) ⟨Nat.le_of_ble_eq_true rfl, Nat.le_of_ble_eq_true rfl⟩) (MW_preV hK hC sg_gModel rfl) rfl rfl hl.1 rfl (lv_room (Nat.le_of_ble_eq_true rfl)) dX8_feed_96 ⟨Nat.zero_le _, Nat.zero_le _⟩) hS (fun _ _ h => h) (fun _ h => h) (fun u t H locs ht _ hp hB _ _ hS => ?_)
    have hC : MW D κ b r1 H := MW_b hB ht hp
    obtain ⟨v2, ev2, h⟩ := sg_lte h
    refine lv_iinc (v := v2) (lv' := [(4, .int v2), (0, .ref b), (1, .long x1)]) (k := 2) hx hb dX8_feed_99 hl rfl (sg_inc (by decide) ev2) (by decide) rfl (fun ls hl => ?_)
    refine lv_goto (tgt := 78) hx hb dX8_feed_102 (by decide) ?_
    exact hr78 h (lv_sub hl [1, 2, 0] rfl) hC hS
set_option maxHeartbeats 4000000 in
theorem w_X8_feed_B78 {p : Program} {l : Launch} {e : Env} {s : State} {m : MethodId} {args : Array Value} {below : List Frame} {meth : Method} {c : Code} {Q : State → Prop} {D : va_G} {κ : Nat → ClassId} {b : Nat} {H0 : Heap} {rr : Int32 × Sg} (hZ : sg_Z p c s m args D κ cX8_feed 6 RX8 wsX8_feed) (hret : ∀ (v : Int32) (u : Sg) (H : Heap) (locs : List Loc) (pc : Nat) (ls : Array Slot), some (v, u) = some rr → MW D κ b u H → va_S (sg_A b 16) H0 H locs → decode cX8_feed pc = .ok (.ireturn, 1) → W p l e rm_X8_feed s m args below meth c H locs 0 0 Q (F0 m pc ls [.int v])) : ∀ n : Nat, ∀ {σ : Sg} {x1 : Int64} {x4 : Int32} {H : Heap} {locs : List Loc} {ls : Array Slot}, fn_X8_feed_B78 b n σ x1 x4 = some rr → lv_has ls 6 [(0, .ref b), (1, .long x1), (4, .int x4)] → MW D κ b σ H → va_S (sg_A b 16) H0 H locs → W p l e rm_X8_feed s m args below meth c H locs 0 0 Q (F0 m 78 ls []) := by
  intro n
  induction n with
  | zero => intro σ x1 x4 H locs ls h hl hC hS; cases (show (none : Option (Int32 × Sg)) = some rr from h)
  | succ n ih =>
    intro σ x1 x4 H locs ls h hl hC hS
    exact w_X8_feed_B78b hZ hret ih (show fn_X8_feed_B78b b (fn_X8_feed_B78 b n) σ x1 x4 = some rr from h)  hl hC hS
def fn_X8_feed_B16b (b : Nat) (z16 : Sg → Int64 → Int32 → Int32 → Option (Int32 × Sg)) (σ : Sg) (x1 : Int64) (x3 : Int32) (x4 : Int32) : Option (Int32 × Sg) :=
  (if (x3 : Int32) ≤ x4 then
  (if ((σ.1 b 1) + x3) ≤ 600 then
  (sg_lt ((x3 - 1) : Int32) fun v1 =>
  fn_X8_feed_B78 b sg_N σ x1 v1)
  else some ((-2), σ))
  else (sg_lt (((((x1 >>> ((((8 * x4) : Int32).toInt64) &&& 63)) &&& 255) : Int64).toInt32) : Int32) fun v2 =>
  (if v2 < 29 then
  some ((-1), σ)
  else (if v2 ≤ 126 then
  (sg_lt (x4 + 1 : Int32) fun v3 =>
  z16 σ x1 x3 v3)
  else some ((-1), σ)))))
def fn_X8_feed_B16 (b : Nat) : Nat → Sg → Int64 → Int32 → Int32 → Option (Int32 × Sg)
  | 0 => fun _ _ _ _ => none
  | n + 1 => fun σ x1 x3 x4 => fn_X8_feed_B16b b (fn_X8_feed_B16 b n) σ x1 x3 x4
set_option maxHeartbeats 4000000 in
set_option maxRecDepth 100000 in
theorem w_X8_feed_B16b {p : Program} {l : Launch} {e : Env} {s : State} {m : MethodId} {args : Array Value} {below : List Frame} {meth : Method} {c : Code} {Q : State → Prop} {D : va_G} {κ : Nat → ClassId} {b : Nat} {H0 : Heap} {rr : Int32 × Sg} (hZ : sg_Z p c s m args D κ cX8_feed 6 RX8 wsX8_feed) (hret : ∀ (v : Int32) (u : Sg) (H : Heap) (locs : List Loc) (pc : Nat) (ls : Array Slot), some (v, u) = some rr → MW D κ b u H → va_S (sg_A b 16) H0 H locs → decode cX8_feed pc = .ok (.ireturn, 1) → W p l e rm_X8_feed s m args below meth c H locs 0 0 Q (F0 m pc ls [.int v])) {z16 : Sg → Int64 → Int32 → Int32 → Option (Int32 × Sg)} (hr16 : ∀ {σ : Sg} {x1 : Int64} {x3 : Int32} {x4 : Int32} {H : Heap} {locs : List Loc} {ls : Array Slot}, z16 σ x1 x3 x4 = some rr → lv_has ls 6 [(0, .ref b), (1, .long x1), (3, .int x3), (4, .int x4)] → MW D κ b σ H → va_S (sg_A b 16) H0 H locs → W p l e rm_X8_feed s m args below meth c H locs 0 0 Q (F0 m 16 ls [])) : ∀ {σ : Sg} {x1 : Int64} {x3 : Int32} {x4 : Int32} {H : Heap} {locs : List Loc} {ls : Array Slot}, fn_X8_feed_B16b b z16 σ x1 x3 x4 = some rr → lv_has ls 6 [(0, .ref b), (1, .long x1), (3, .int x3), (4, .int x4)] → MW D κ b σ H → va_S (sg_A b 16) H0 H locs → W p l e rm_X8_feed s m args below meth c H locs 0 0 Q (F0 m 16 ls []) := by
  obtain ⟨hx, hb, hml, hown, hts, hK⟩ := hZ
  intro σ x1 x3 x4 H locs ls h hl hC hS
  unfold fn_X8_feed_B16b at h
  refine lv_iload hx hb dX8_feed_16 (lv_at hl 3 rfl) ?_
  refine lv_iload_n hx hb dX8_feed_18 rfl (lv_at hl 2 rfl) ?_
  refine lv_icmp_ge (tgt := 58) hx hb dX8_feed_19 (by decide) (fun hc => ?_) (fun hc => ?_)
  · replace h := (if_pos hc).symm.trans h
    refine lv_aload_n hx hb dX8_feed_58 rfl (lv_at hl 0 rfl) ?_
    refine va_get (D := D) (ci := 8) (v := .int (σ.1 b 1)) (C := RX8) (T := TX8) (N := 21) hx hb hts (wqs inW_X8) hown hK.1 hC.1 (b - b) sg_gModel rfl 1 (by decide) (hts _ (wq wt_649)) (fun _ h9 => h9) rfl dX8_feed_59 ?_
    refine lv_iload_n hx hb dX8_feed_62 rfl (lv_at hl 2 rfl) ?_
    refine lv_iadd hx hb dX8_feed_63 ?_
    refine lv_sipush (v := 600) hx hb dX8_feed_64 (by decide) ?_
    refine lv_icmp_le (tgt := 73) hx hb dX8_feed_67 (by decide) (fun hc => ?_) (fun hc => ?_)
    · replace h := (if_pos hc).symm.trans h
      refine lv_iload_n hx hb dX8_feed_73 rfl (lv_at hl 2 rfl) ?_
      refine lv_iconst (v := 1) hx hb dX8_feed_74 (by decide) ?_
      refine lv_isub hx hb dX8_feed_75 ?_
      obtain ⟨v1, ev1, h⟩ := sg_lte h
      refine sg_topi ev1 ?_
      refine lv_istore (lv' := [(4, .int v1), (0, .ref b), (1, .long x1), (3, .int x3)]) hx hb dX8_feed_76 hl (by decide) rfl (fun ls hl => ?_)
      exact w_X8_feed_B78 ⟨hx, hb, hml, hown, hts, hK⟩ hret  sg_N h (lv_sub hl [1, 2, 0] rfl) hC hS
    · replace h := (if_neg hc).symm.trans h
      refine lv_bipush (v := (-2)) hx hb dX8_feed_70 (by decide) ?_
      exact hret _ _ _ _ _ _ h hC hS dX8_feed_72
  · replace h := (if_neg hc).symm.trans h
    refine lv_lload_n hx hb dX8_feed_22 rfl (lv_at hl 1 rfl) ?_
    refine lv_bipush (v := 8) hx hb dX8_feed_23 (by decide) ?_
    refine lv_iload hx hb dX8_feed_25 (lv_at hl 3 rfl) ?_
    refine lv_imul hx hb dX8_feed_27 ?_
    refine lv_lshr (v := (x1 >>> ((((8 * x4) : Int32).toInt64) &&& 63))) hx hb dX8_feed_28 rfl ?_
    refine lv_ldc2 (v := 255) hx hb hown (hts _ (wq wt_716)) dX8_feed_29 ?_
    refine lv_land hx hb dX8_feed_32 ?_
    refine lv_l2i (v := ((((x1 >>> ((((8 * x4) : Int32).toInt64) &&& 63)) &&& 255) : Int64).toInt32)) hx hb dX8_feed_33 rfl ?_
    obtain ⟨v2, ev2, h⟩ := sg_lte h
    refine sg_topi ev2 ?_
    refine lv_istore (lv' := [(5, .int v2), (0, .ref b), (1, .long x1), (3, .int x3), (4, .int x4)]) hx hb dX8_feed_34 hl (by decide) rfl (fun ls hl => ?_)
    refine lv_iload hx hb dX8_feed_36 (lv_at hl 0 rfl) ?_
    refine lv_bipush (v := 29) hx hb dX8_feed_38 (by decide) ?_
    refine lv_icmp_lt (tgt := 50) hx hb dX8_feed_40 (by decide) (fun hc => ?_) (fun hc => ?_)
    · replace h := (if_pos hc).symm.trans h
      refine lv_iconst (v := (-1)) hx hb dX8_feed_50 (by decide) ?_
      exact hret _ _ _ _ _ _ h hC hS dX8_feed_51
    · replace h := (if_neg hc).symm.trans h
      refine lv_iload hx hb dX8_feed_43 (lv_at hl 0 rfl) ?_
      refine lv_bipush (v := 126) hx hb dX8_feed_45 (by decide) ?_
      refine lv_icmp_le (tgt := 52) hx hb dX8_feed_47 (by decide) (fun hc => ?_) (fun hc => ?_)
      · replace h := (if_pos hc).symm.trans h
        obtain ⟨v3, ev3, h⟩ := sg_lte h
        refine lv_iinc (v := v3) (lv' := [(4, .int v3), (5, .int v2), (0, .ref b), (1, .long x1), (3, .int x3)]) (k := 4) hx hb dX8_feed_52 hl rfl (sg_inc (by decide) ev3) (by decide) rfl (fun ls hl => ?_)
        refine lv_goto (tgt := 16) hx hb dX8_feed_55 (by decide) ?_
        exact hr16 h (lv_sub hl [2, 3, 4, 0] rfl) hC hS
      · replace h := (if_neg hc).symm.trans h
        refine lv_iconst (v := (-1)) hx hb dX8_feed_50 (by decide) ?_
        exact hret _ _ _ _ _ _ h hC hS dX8_feed_51
set_option maxHeartbeats 4000000 in
theorem w_X8_feed_B16 {p : Program} {l : Launch} {e : Env} {s : State} {m : MethodId} {args : Array Value} {below : List Frame} {meth : Method} {c : Code} {Q : State → Prop} {D : va_G} {κ : Nat → ClassId} {b : Nat} {H0 : Heap} {rr : Int32 × Sg} (hZ : sg_Z p c s m args D κ cX8_feed 6 RX8 wsX8_feed) (hret : ∀ (v : Int32) (u : Sg) (H : Heap) (locs : List Loc) (pc : Nat) (ls : Array Slot), some (v, u) = some rr → MW D κ b u H → va_S (sg_A b 16) H0 H locs → decode cX8_feed pc = .ok (.ireturn, 1) → W p l e rm_X8_feed s m args below meth c H locs 0 0 Q (F0 m pc ls [.int v])) : ∀ n : Nat, ∀ {σ : Sg} {x1 : Int64} {x3 : Int32} {x4 : Int32} {H : Heap} {locs : List Loc} {ls : Array Slot}, fn_X8_feed_B16 b n σ x1 x3 x4 = some rr → lv_has ls 6 [(0, .ref b), (1, .long x1), (3, .int x3), (4, .int x4)] → MW D κ b σ H → va_S (sg_A b 16) H0 H locs → W p l e rm_X8_feed s m args below meth c H locs 0 0 Q (F0 m 16 ls []) := by
  intro n
  induction n with
  | zero => intro σ x1 x3 x4 H locs ls h hl hC hS; cases (show (none : Option (Int32 × Sg)) = some rr from h)
  | succ n ih =>
    intro σ x1 x3 x4 H locs ls h hl hC hS
    exact w_X8_feed_B16b hZ hret ih (show fn_X8_feed_B16b b (fn_X8_feed_B16 b n) σ x1 x3 x4 = some rr from h)  hl hC hS
def fn_X8_feed (b : Nat) (σ : Sg) (x1 : Int64) (x3 : Int32) : Option (Int32 × Sg) :=
  (if x3 < 1 then
  some ((-1), σ)
  else (if x3 ≤ 8 then
  fn_X8_feed_B16 b sg_N σ x1 x3 0
  else some ((-1), σ)))
set_option maxHeartbeats 4000000 in
set_option maxRecDepth 100000 in
theorem w_X8_feed_B0 {p : Program} {l : Launch} {e : Env} {s : State} {m : MethodId} {args : Array Value} {below : List Frame} {meth : Method} {c : Code} {Q : State → Prop} {D : va_G} {κ : Nat → ClassId} {b : Nat} {H0 : Heap} {rr : Int32 × Sg} (hZ : sg_Z p c s m args D κ cX8_feed 6 RX8 wsX8_feed) (hret : ∀ (v : Int32) (u : Sg) (H : Heap) (locs : List Loc) (pc : Nat) (ls : Array Slot), some (v, u) = some rr → MW D κ b u H → va_S (sg_A b 16) H0 H locs → decode cX8_feed pc = .ok (.ireturn, 1) → W p l e rm_X8_feed s m args below meth c H locs 0 0 Q (F0 m pc ls [.int v])) : ∀ {σ : Sg} {x1 : Int64} {x3 : Int32} {H : Heap} {locs : List Loc} {ls : Array Slot}, fn_X8_feed b σ x1 x3 = some rr → lv_has ls 6 [(0, .ref b), (1, .long x1), (3, .int x3)] → MW D κ b σ H → va_S (sg_A b 16) H0 H locs → W p l e rm_X8_feed s m args below meth c H locs 0 0 Q (F0 m 0 ls []) := by
  obtain ⟨hx, hb, hml, hown, hts, hK⟩ := hZ
  intro σ x1 x3 H locs ls h hl hC hS
  unfold fn_X8_feed at h
  refine lv_iload_n hx hb dX8_feed_0 rfl (lv_at hl 2 rfl) ?_
  refine lv_iconst (v := 1) hx hb dX8_feed_1 (by decide) ?_
  refine lv_icmp_lt (tgt := 11) hx hb dX8_feed_2 (by decide) (fun hc => ?_) (fun hc => ?_)
  · replace h := (if_pos hc).symm.trans h
    refine lv_iconst (v := (-1)) hx hb dX8_feed_11 (by decide) ?_
    exact hret _ _ _ _ _ _ h hC hS dX8_feed_12
  · replace h := (if_neg hc).symm.trans h
    refine lv_iload_n hx hb dX8_feed_5 rfl (lv_at hl 2 rfl) ?_
    refine lv_bipush (v := 8) hx hb dX8_feed_6 (by decide) ?_
    refine lv_icmp_le (tgt := 13) hx hb dX8_feed_8 (by decide) (fun hc => ?_) (fun hc => ?_)
    · replace h := (if_pos hc).symm.trans h
      refine lv_iconst (v := 0) hx hb dX8_feed_13 (by decide) ?_
      refine lv_istore (lv' := [(4, .int 0), (0, .ref b), (1, .long x1), (3, .int x3)]) hx hb dX8_feed_14 hl (by decide) rfl (fun ls hl => ?_)
      exact w_X8_feed_B16 ⟨hx, hb, hml, hown, hts, hK⟩ hret  sg_N h (lv_sub hl [1, 2, 3, 0] rfl) hC hS
    · replace h := (if_neg hc).symm.trans h
      refine lv_iconst (v := (-1)) hx hb dX8_feed_11 (by decide) ?_
      exact hret _ _ _ _ _ _ h hC hS dX8_feed_12
set_option maxHeartbeats 4000000 in
set_option maxRecDepth 100000 in
theorem c_X8_feed (l : Launch) (D : va_G) (κ : Nat → ClassId) (b : Nat) (σ : Sg) (x1 : Int64) (x3 : Int32) (rr : Int32 × Sg)  (h : fn_X8_feed b σ x1 x3 = some rr) : Met l yX8_feed wsX8_feed rm_X8_feed (va_Pc [.ref b, .long x1, .int x3] (fun U => KK D κ U ∧ MW D κ b σ U.heap)) (va_Qi (fun (r : Int32) (u : Sg) => r = rr.1 ∧ u = rr.2) (fun u t => MW D κ b u t.heap) (sg_A b 16)) 0 0 (sg_A b 16) := by
  refine Met.ofW (cc := cX8_feed) (maxL := 6) (ret := (some .int)) (by decide) rfl ?_
  intro p e s m args below meth c s₁ B hml hv
  obtain ⟨rfl, hK, hC⟩ := hv
  have hr := B.returns
  have hlocks := B.notSynchronized
  have hl := lv_entry ([.ref b, .long x1, .int x3]) (n := 6) (Nat.le_of_ble_eq_true rfl)
  rw [lg_entry_eq]
  generalize (lg_sl ([.ref b, .long x1, .int x3]) ++ List.replicate (6 - (lg_sl ([.ref b, .long x1, .int x3])).length) Slot.unset).toArray = ls at hl ⊢
  have hl : lv_has ls 6 [(0, .ref b), (1, .long x1), (3, .int x3)] := hl
  exact w_X8_feed_B0 ⟨B.exec, B.bytes, hml, findClass_of_methodNamed B.named, atoms_spec (ws := wsX8_feed) B.pre, hK⟩ (fun v u H locs pc ls hq hC hS hd => W.iret B.exec B.bytes hr (fun t ht hW => ⟨⟨v, _, rfl, ⟨congrArg Prod.fst (Option.some.inj hq), congrArg Prod.snd (Option.some.inj hq)⟩, MW_e ht hC⟩, hS.F ht⟩) hS.2.2 hd) h  hl hC va_S.rf

-- RecordShelfModel.cut(I)I
theorem dX8_cut_0 : decode cX8_cut 0 = .ok (.aload_n 0, 1) := by decide +kernel
theorem dX8_cut_1 : decode cX8_cut 1 = .ok (.iload_n 1, 1) := by decide +kernel
theorem dX8_cut_2 : decode cX8_cut 2 = .ok (.ifCond .ge 7, 3) := by decide +kernel
theorem dX8_cut_5 : decode cX8_cut 5 = .ok (.iconst 0, 1) := by decide +kernel
theorem dX8_cut_6 : decode cX8_cut 6 = .ok (.goto 19, 3) := by decide +kernel
theorem dX8_cut_9 : decode cX8_cut 9 = .ok (.iload_n 1, 1) := by decide +kernel
theorem dX8_cut_10 : decode cX8_cut 10 = .ok (.aload_n 0, 1) := by decide +kernel
theorem dX8_cut_11 : decode cX8_cut 11 = .ok (.getfield 65, 3) := by decide +kernel
theorem dX8_cut_14 : decode cX8_cut 14 = .ok (.if_icmp .ge 7, 3) := by decide +kernel
theorem dX8_cut_17 : decode cX8_cut 17 = .ok (.iload_n 1, 1) := by decide +kernel
theorem dX8_cut_18 : decode cX8_cut 18 = .ok (.goto 7, 3) := by decide +kernel
theorem dX8_cut_21 : decode cX8_cut 21 = .ok (.aload_n 0, 1) := by decide +kernel
theorem dX8_cut_22 : decode cX8_cut 22 = .ok (.getfield 65, 3) := by decide +kernel
theorem dX8_cut_25 : decode cX8_cut 25 = .ok (.putfield 65, 3) := by decide +kernel
theorem dX8_cut_28 : decode cX8_cut 28 = .ok (.aload_n 0, 1) := by decide +kernel
theorem dX8_cut_29 : decode cX8_cut 29 = .ok (.getfield 65, 3) := by decide +kernel
theorem dX8_cut_32 : decode cX8_cut 32 = .ok (.ireturn, 1) := by decide +kernel
def rm_X8_cut : Room := { frames := 0, cells := 0, slots := 0, locals := 0 }
def fn_X8_cut_B25 (b : Nat) (σ : Sg) (y0 : Int32) : Option (Int32 × Sg) :=
  (sg_lt (sg_w σ b 1 y0) fun σ1 =>
  some ((σ1.1 b 1), σ1))
set_option maxHeartbeats 4000000 in
set_option maxRecDepth 100000 in
theorem w_X8_cut_B25 {p : Program} {l : Launch} {e : Env} {s : State} {m : MethodId} {args : Array Value} {below : List Frame} {meth : Method} {c : Code} {Q : State → Prop} {D : va_G} {κ : Nat → ClassId} {b : Nat} {H0 : Heap} {rr : Int32 × Sg} (hZ : sg_Z p c s m args D κ cX8_cut 2 RX8 wsX8_cut) (hret : ∀ (v : Int32) (u : Sg) (H : Heap) (locs : List Loc) (pc : Nat) (ls : Array Slot), some (v, u) = some rr → MW D κ b u H → va_S (sg_A b 16) H0 H locs → decode cX8_cut pc = .ok (.ireturn, 1) → W p l e rm_X8_cut s m args below meth c H locs 0 0 Q (F0 m pc ls [.int v])) : ∀ {σ : Sg} {y0 : Int32} {H : Heap} {locs : List Loc} {ls : Array Slot}, fn_X8_cut_B25 b σ y0 = some rr → lv_has ls 2 [(0, .ref b)] → MW D κ b σ H → va_S (sg_A b 16) H0 H locs → W p l e rm_X8_cut s m args below meth c H locs 0 0 Q (F0 m 25 ls [.int y0, .ref b]) := by
  obtain ⟨hx, hb, hml, hown, hts, hK⟩ := hZ
  intro σ y0 H locs ls h hl hC hS
  unfold fn_X8_cut_B25 at h
  refine va_put (D := D) (ci := 8) (v := .int y0) (ty := .int) (C := RX8) (T := TX8) (N := 21) hx hb hts (wqs inW_X8) tyX8 tyX8_ok nmX8 hown hK.1 hC.1 sg_D hS (b - b) sg_gModel rfl 1 (by decide) (hts _ (wq wt_649)) (fun _ h9 => h9) rfl (by decide +kernel) rfl rfl (Nat.le_of_ble_eq_true rfl) dX8_cut_25 (fun H locs hP _ hS => ?_)
  obtain ⟨σ1, eσ1, h⟩ := sg_lte h
  have hC : MW D κ b σ1 H := eσ1 ▸ MW_put (k := 1) (v := y0) hC sg_aModel (sg_yModel _ _) hP
  refine lv_aload_n hx hb dX8_cut_28 rfl (lv_at hl 0 rfl) ?_
  refine va_get (D := D) (ci := 8) (v := .int (σ1.1 b 1)) (C := RX8) (T := TX8) (N := 21) hx hb hts (wqs inW_X8) hown hK.1 hC.1 (b - b) sg_gModel rfl 1 (by decide) (hts _ (wq wt_649)) (fun _ h9 => h9) rfl dX8_cut_29 ?_
  exact hret _ _ _ _ _ _ h hC hS dX8_cut_32
def fn_X8_cut (b : Nat) (σ : Sg) (x1 : Int32) : Option (Int32 × Sg) :=
  (if (0 : Int32) ≤ x1 then
  (if ((σ.1 b 1) : Int32) ≤ x1 then
  fn_X8_cut_B25 b σ (σ.1 b 1)
  else fn_X8_cut_B25 b σ x1)
  else fn_X8_cut_B25 b σ 0)
set_option maxHeartbeats 4000000 in
set_option maxRecDepth 100000 in
theorem w_X8_cut_B0 {p : Program} {l : Launch} {e : Env} {s : State} {m : MethodId} {args : Array Value} {below : List Frame} {meth : Method} {c : Code} {Q : State → Prop} {D : va_G} {κ : Nat → ClassId} {b : Nat} {H0 : Heap} {rr : Int32 × Sg} (hZ : sg_Z p c s m args D κ cX8_cut 2 RX8 wsX8_cut) (hret : ∀ (v : Int32) (u : Sg) (H : Heap) (locs : List Loc) (pc : Nat) (ls : Array Slot), some (v, u) = some rr → MW D κ b u H → va_S (sg_A b 16) H0 H locs → decode cX8_cut pc = .ok (.ireturn, 1) → W p l e rm_X8_cut s m args below meth c H locs 0 0 Q (F0 m pc ls [.int v])) : ∀ {σ : Sg} {x1 : Int32} {H : Heap} {locs : List Loc} {ls : Array Slot}, fn_X8_cut b σ x1 = some rr → lv_has ls 2 [(0, .ref b), (1, .int x1)] → MW D κ b σ H → va_S (sg_A b 16) H0 H locs → W p l e rm_X8_cut s m args below meth c H locs 0 0 Q (F0 m 0 ls []) := by
  obtain ⟨hx, hb, hml, hown, hts, hK⟩ := hZ
  intro σ x1 H locs ls h hl hC hS
  unfold fn_X8_cut at h
  refine lv_aload_n hx hb dX8_cut_0 rfl (lv_at hl 0 rfl) ?_
  refine lv_iload_n hx hb dX8_cut_1 rfl (lv_at hl 1 rfl) ?_
  refine lv_if_ge (tgt := 9) hx hb dX8_cut_2 (by decide) (fun hc => ?_) (fun hc => ?_)
  · replace h := (if_pos hc).symm.trans h
    refine lv_iload_n hx hb dX8_cut_9 rfl (lv_at hl 1 rfl) ?_
    refine lv_aload_n hx hb dX8_cut_10 rfl (lv_at hl 0 rfl) ?_
    refine va_get (D := D) (ci := 8) (v := .int (σ.1 b 1)) (C := RX8) (T := TX8) (N := 21) hx hb hts (wqs inW_X8) hown hK.1 hC.1 (b - b) sg_gModel rfl 1 (by decide) (hts _ (wq wt_649)) (fun _ h9 => h9) rfl dX8_cut_11 ?_
    refine lv_icmp_ge (tgt := 21) hx hb dX8_cut_14 (by decide) (fun hc => ?_) (fun hc => ?_)
    · replace h := (if_pos hc).symm.trans h
      refine lv_aload_n hx hb dX8_cut_21 rfl (lv_at hl 0 rfl) ?_
      refine va_get (D := D) (ci := 8) (v := .int (σ.1 b 1)) (C := RX8) (T := TX8) (N := 21) hx hb hts (wqs inW_X8) hown hK.1 hC.1 (b - b) sg_gModel rfl 1 (by decide) (hts _ (wq wt_649)) (fun _ h9 => h9) rfl dX8_cut_22 ?_
      exact w_X8_cut_B25 ⟨hx, hb, hml, hown, hts, hK⟩ hret  h (lv_sub hl [0] rfl) hC hS
    · replace h := (if_neg hc).symm.trans h
      refine lv_iload_n hx hb dX8_cut_17 rfl (lv_at hl 1 rfl) ?_
      refine lv_goto (tgt := 25) hx hb dX8_cut_18 (by decide) ?_
      exact w_X8_cut_B25 ⟨hx, hb, hml, hown, hts, hK⟩ hret  h (lv_sub hl [0] rfl) hC hS
  · replace h := (if_neg hc).symm.trans h
    refine lv_iconst (v := 0) hx hb dX8_cut_5 (by decide) ?_
    refine lv_goto (tgt := 25) hx hb dX8_cut_6 (by decide) ?_
    exact w_X8_cut_B25 ⟨hx, hb, hml, hown, hts, hK⟩ hret  h (lv_sub hl [0] rfl) hC hS
set_option maxHeartbeats 4000000 in
set_option maxRecDepth 100000 in
theorem c_X8_cut (l : Launch) (D : va_G) (κ : Nat → ClassId) (b : Nat) (σ : Sg) (x1 : Int32) (rr : Int32 × Sg)  (h : fn_X8_cut b σ x1 = some rr) : Met l yX8_cut wsX8_cut rm_X8_cut (va_Pc [.ref b, .int x1] (fun U => KK D κ U ∧ MW D κ b σ U.heap)) (va_Qi (fun (r : Int32) (u : Sg) => r = rr.1 ∧ u = rr.2) (fun u t => MW D κ b u t.heap) (sg_A b 16)) 0 0 (sg_A b 16) := by
  refine Met.ofW (cc := cX8_cut) (maxL := 2) (ret := (some .int)) (by decide) rfl ?_
  intro p e s m args below meth c s₁ B hml hv
  obtain ⟨rfl, hK, hC⟩ := hv
  have hr := B.returns
  have hlocks := B.notSynchronized
  have hl := lv_entry ([.ref b, .int x1]) (n := 2) (Nat.le_of_ble_eq_true rfl)
  rw [lg_entry_eq]
  generalize (lg_sl ([.ref b, .int x1]) ++ List.replicate (2 - (lg_sl ([.ref b, .int x1])).length) Slot.unset).toArray = ls at hl ⊢
  have hl : lv_has ls 2 [(0, .ref b), (1, .int x1)] := hl
  exact w_X8_cut_B0 ⟨B.exec, B.bytes, hml, findClass_of_methodNamed B.named, atoms_spec (ws := wsX8_cut) B.pre, hK⟩ (fun v u H locs pc ls hq hC hS hd => W.iret B.exec B.bytes hr (fun t ht hW => ⟨⟨v, _, rfl, ⟨congrArg Prod.fst (Option.some.inj hq), congrArg Prod.snd (Option.some.inj hq)⟩, MW_e ht hC⟩, hS.F ht⟩) hS.2.2 hd) h  hl hC va_S.rf

-- RecordShelfModel.letter(I)I
theorem dX8_letter_0 : decode cX8_letter 0 = .ok (.iload_n 1, 1) := by decide +kernel
theorem dX8_letter_1 : decode cX8_letter 1 = .ok (.ifCond .lt 20, 3) := by decide +kernel
theorem dX8_letter_4 : decode cX8_letter 4 = .ok (.iload_n 1, 1) := by decide +kernel
theorem dX8_letter_5 : decode cX8_letter 5 = .ok (.aload_n 0, 1) := by decide +kernel
theorem dX8_letter_6 : decode cX8_letter 6 = .ok (.getfield 65, 3) := by decide +kernel
theorem dX8_letter_9 : decode cX8_letter 9 = .ok (.if_icmp .ge 12, 3) := by decide +kernel
theorem dX8_letter_12 : decode cX8_letter 12 = .ok (.aload_n 0, 1) := by decide +kernel
theorem dX8_letter_13 : decode cX8_letter 13 = .ok (.getfield 7, 3) := by decide +kernel
theorem dX8_letter_16 : decode cX8_letter 16 = .ok (.iload_n 1, 1) := by decide +kernel
theorem dX8_letter_17 : decode cX8_letter 17 = .ok (.iaload, 1) := by decide +kernel
theorem dX8_letter_18 : decode cX8_letter 18 = .ok (.goto 4, 3) := by decide +kernel
theorem dX8_letter_21 : decode cX8_letter 21 = .ok (.iconst (-1), 1) := by decide +kernel
theorem dX8_letter_22 : decode cX8_letter 22 = .ok (.ireturn, 1) := by decide +kernel
def rm_X8_letter : Room := { frames := 0, cells := 0, slots := 0, locals := 0 }
def fn_X8_letter (b : Nat) (σ : Sg) (x1 : Int32) : Option (Int32) :=
  (if x1 < 0 then
  some (-1)
  else (if ((σ.1 b 1) : Int32) ≤ x1 then
  some (-1)
  else (if sg_ib x1 600 then
  some (σ.1 (b + 1) (sg_x x1))
  else none)))
set_option maxHeartbeats 4000000 in
set_option maxRecDepth 100000 in
theorem w_X8_letter_B0 {p : Program} {l : Launch} {e : Env} {s : State} {m : MethodId} {args : Array Value} {below : List Frame} {meth : Method} {c : Code} {Q : State → Prop} {D : va_G} {κ : Nat → ClassId} {b : Nat} {H0 : Heap} {rr : Int32} {σ : Sg} (hZ : sg_Z p c s m args D κ cX8_letter 2 RX8 wsX8_letter) (hret : ∀ (v : Int32) (H : Heap) (locs : List Loc) (pc : Nat) (ls : Array Slot), some v = some rr → MW D κ b σ H → va_S (sg_A b 16) H0 H locs → decode cX8_letter pc = .ok (.ireturn, 1) → W p l e rm_X8_letter s m args below meth c H locs 0 0 Q (F0 m pc ls [.int v])) : ∀ {x1 : Int32} {H : Heap} {locs : List Loc} {ls : Array Slot}, fn_X8_letter b σ x1 = some rr → lv_has ls 2 [(0, .ref b), (1, .int x1)] → MW D κ b σ H → va_S (sg_A b 16) H0 H locs → W p l e rm_X8_letter s m args below meth c H locs 0 0 Q (F0 m 0 ls []) := by
  obtain ⟨hx, hb, hml, hown, hts, hK⟩ := hZ
  intro x1 H locs ls h hl hC hS
  unfold fn_X8_letter at h
  refine lv_iload_n hx hb dX8_letter_0 rfl (lv_at hl 1 rfl) ?_
  refine lv_if_lt (tgt := 21) hx hb dX8_letter_1 (by decide) (fun hc => ?_) (fun hc => ?_)
  · replace h := (if_pos hc).symm.trans h
    refine lv_iconst (v := (-1)) hx hb dX8_letter_21 (by decide) ?_
    exact hret _ _ _ _ _ h hC hS dX8_letter_22
  · replace h := (if_neg hc).symm.trans h
    refine lv_iload_n hx hb dX8_letter_4 rfl (lv_at hl 1 rfl) ?_
    refine lv_aload_n hx hb dX8_letter_5 rfl (lv_at hl 0 rfl) ?_
    refine va_get (D := D) (ci := 8) (v := .int (σ.1 b 1)) (C := RX8) (T := TX8) (N := 21) hx hb hts (wqs inW_X8) hown hK.1 hC.1 (b - b) sg_gModel rfl 1 (by decide) (hts _ (wq wt_649)) (fun _ h9 => h9) rfl dX8_letter_6 ?_
    refine lv_icmp_ge (tgt := 21) hx hb dX8_letter_9 (by decide) (fun hc => ?_) (fun hc => ?_)
    · replace h := (if_pos hc).symm.trans h
      refine lv_iconst (v := (-1)) hx hb dX8_letter_21 (by decide) ?_
      exact hret _ _ _ _ _ h hC hS dX8_letter_22
    · replace h := (if_neg hc).symm.trans h
      refine lv_aload_n hx hb dX8_letter_12 rfl (lv_at hl 0 rfl) ?_
      refine va_get (D := D) (ci := 8) (v := .ref (b + 1)) (C := RX8) (T := TX8) (N := 21) hx hb hts (wqs inW_X8) hown hK.1 hC.1 (b - b) sg_gModel rfl 0 (by decide) (hts _ (wq wt_648)) (fun _ h9 => h9) rfl dX8_letter_13 ?_
      refine lv_iload_n hx hb dX8_letter_16 rfl (lv_at hl 1 rfl) ?_
      obtain ⟨hg, h⟩ := sg_gd h
      refine va_iald hx hb hK.1 hC.1 ((b + 1) - b) 0 sg_ga_text rfl (sg_in hg) dX8_letter_17 ?_
      refine lv_goto (tgt := 22) hx hb dX8_letter_18 (by decide) ?_
      exact hret _ _ _ _ _ h hC hS dX8_letter_22
set_option maxHeartbeats 4000000 in
set_option maxRecDepth 100000 in
theorem c_X8_letter (l : Launch) (D : va_G) (κ : Nat → ClassId) (b : Nat) (σ : Sg) (x1 : Int32) (rr : Int32)  (h : fn_X8_letter b σ x1 = some rr) : Met l yX8_letter wsX8_letter rm_X8_letter (va_Pc [.ref b, .int x1] (fun U => KK D κ U ∧ MW D κ b σ U.heap)) (va_Qi (fun (r : Int32) (u : Sg) => r = rr ∧ u = σ) (fun u t => MW D κ b u t.heap) (sg_A b 16)) 0 0 (sg_A b 16) := by
  refine Met.ofW (cc := cX8_letter) (maxL := 2) (ret := (some .int)) (by decide) rfl ?_
  intro p e s m args below meth c s₁ B hml hv
  obtain ⟨rfl, hK, hC⟩ := hv
  have hr := B.returns
  have hlocks := B.notSynchronized
  have hl := lv_entry ([.ref b, .int x1]) (n := 2) (Nat.le_of_ble_eq_true rfl)
  rw [lg_entry_eq]
  generalize (lg_sl ([.ref b, .int x1]) ++ List.replicate (2 - (lg_sl ([.ref b, .int x1])).length) Slot.unset).toArray = ls at hl ⊢
  have hl : lv_has ls 2 [(0, .ref b), (1, .int x1)] := hl
  exact w_X8_letter_B0 ⟨B.exec, B.bytes, hml, findClass_of_methodNamed B.named, atoms_spec (ws := wsX8_letter) B.pre, hK⟩ (fun v H locs pc ls hq hC hS hd => W.iret B.exec B.bytes hr (fun t ht hW => ⟨⟨v, _, rfl, ⟨Option.some.inj hq, rfl⟩, MW_e ht hC⟩, hS.F ht⟩) hS.2.2 hd) h  hl hC va_S.rf

-- RecordShelfModel.fail(II)V
theorem dX8_fail_0 : decode cX8_fail 0 = .ok (.aload_n 0, 1) := by decide +kernel
theorem dX8_fail_1 : decode cX8_fail 1 = .ok (.getfield 72, 3) := by decide +kernel
theorem dX8_fail_4 : decode cX8_fail 4 = .ok (.ifCond .ne 13, 3) := by decide +kernel
theorem dX8_fail_7 : decode cX8_fail 7 = .ok (.aload_n 0, 1) := by decide +kernel
theorem dX8_fail_8 : decode cX8_fail 8 = .ok (.iload_n 1, 1) := by decide +kernel
theorem dX8_fail_9 : decode cX8_fail 9 = .ok (.putfield 72, 3) := by decide +kernel
theorem dX8_fail_12 : decode cX8_fail 12 = .ok (.aload_n 0, 1) := by decide +kernel
theorem dX8_fail_13 : decode cX8_fail 13 = .ok (.iload_n 2, 1) := by decide +kernel
theorem dX8_fail_14 : decode cX8_fail 14 = .ok (.putfield 40, 3) := by decide +kernel
theorem dX8_fail_17 : decode cX8_fail 17 = .ok (.return_, 1) := by decide +kernel
def rm_X8_fail : Room := { frames := 0, cells := 0, slots := 0, locals := 0 }
def fn_X8_fail (b : Nat) (σ : Sg) (x1 : Int32) (x2 : Int32) : Option (Sg) :=
  (if (σ.1 b 12) = 0 then
  (sg_lt (sg_w σ b 12 x1) fun σ1 =>
  (sg_lt (sg_w σ1 b 13 x2) fun σ2 =>
  some σ2))
  else some σ)
set_option maxHeartbeats 4000000 in
set_option maxRecDepth 100000 in
theorem w_X8_fail_B0 {p : Program} {l : Launch} {e : Env} {s : State} {m : MethodId} {args : Array Value} {below : List Frame} {meth : Method} {c : Code} {Q : State → Prop} {D : va_G} {κ : Nat → ClassId} {b : Nat} {H0 : Heap} {rr : Sg} (hZ : sg_Z p c s m args D κ cX8_fail 3 RX8 wsX8_fail) (hret : ∀ (u : Sg) (H : Heap) (locs : List Loc) (pc : Nat) (ls : Array Slot), some u = some rr → MW D κ b u H → va_S (sg_A b 16) H0 H locs → decode cX8_fail pc = .ok (.return_, 1) → W p l e rm_X8_fail s m args below meth c H locs 0 0 Q (F0 m pc ls [])) : ∀ {σ : Sg} {x1 : Int32} {x2 : Int32} {H : Heap} {locs : List Loc} {ls : Array Slot}, fn_X8_fail b σ x1 x2 = some rr → lv_has ls 3 [(0, .ref b), (1, .int x1), (2, .int x2)] → MW D κ b σ H → va_S (sg_A b 16) H0 H locs → W p l e rm_X8_fail s m args below meth c H locs 0 0 Q (F0 m 0 ls []) := by
  obtain ⟨hx, hb, hml, hown, hts, hK⟩ := hZ
  intro σ x1 x2 H locs ls h hl hC hS
  unfold fn_X8_fail at h
  refine lv_aload_n hx hb dX8_fail_0 rfl (lv_at hl 0 rfl) ?_
  refine va_get (D := D) (ci := 8) (v := .int (σ.1 b 12)) (C := RX8) (T := TX8) (N := 21) hx hb hts (wqs inW_X8) hown hK.1 hC.1 (b - b) sg_gModel rfl 12 (by decide) (hts _ (wq wt_660)) (fun _ h9 => h9) rfl dX8_fail_1 ?_
  refine lv_if_ne (tgt := 17) hx hb dX8_fail_4 (by decide) (fun hc => ?_) (fun hc => ?_)
  · replace h := (if_neg hc).symm.trans h
    exact hret _ _ _ _ _ h hC hS dX8_fail_17
  · replace h := (if_pos hc).symm.trans h
    refine lv_aload_n hx hb dX8_fail_7 rfl (lv_at hl 0 rfl) ?_
    refine lv_iload_n hx hb dX8_fail_8 rfl (lv_at hl 1 rfl) ?_
    refine va_put (D := D) (ci := 8) (v := .int x1) (ty := .int) (C := RX8) (T := TX8) (N := 21) hx hb hts (wqs inW_X8) tyX8 tyX8_ok nmX8 hown hK.1 hC.1 sg_D hS (b - b) sg_gModel rfl 12 (by decide) (hts _ (wq wt_660)) (fun _ h9 => h9) rfl (by decide +kernel) rfl rfl (Nat.le_of_ble_eq_true rfl) dX8_fail_9 (fun H locs hP _ hS => ?_)
    obtain ⟨σ1, eσ1, h⟩ := sg_lte h
    have hC : MW D κ b σ1 H := eσ1 ▸ MW_put (k := 12) (v := x1) hC sg_aModel (sg_yModel _ _) hP
    refine lv_aload_n hx hb dX8_fail_12 rfl (lv_at hl 0 rfl) ?_
    refine lv_iload_n hx hb dX8_fail_13 rfl (lv_at hl 2 rfl) ?_
    refine va_put (D := D) (ci := 8) (v := .int x2) (ty := .int) (C := RX8) (T := TX8) (N := 21) hx hb hts (wqs inW_X8) tyX8 tyX8_ok nmX8 hown hK.1 hC.1 sg_D hS (b - b) sg_gModel rfl 13 (by decide) (hts _ (wq wt_661)) (fun _ h9 => h9) rfl (by decide +kernel) rfl rfl (Nat.le_of_ble_eq_true rfl) dX8_fail_14 (fun H locs hP _ hS => ?_)
    obtain ⟨σ2, eσ2, h⟩ := sg_lte h
    have hC : MW D κ b σ2 H := eσ2 ▸ MW_put (k := 13) (v := x2) hC sg_aModel (sg_yModel _ _) hP
    exact hret _ _ _ _ _ h hC hS dX8_fail_17
set_option maxHeartbeats 4000000 in
set_option maxRecDepth 100000 in
theorem c_X8_fail (l : Launch) (D : va_G) (κ : Nat → ClassId) (b : Nat) (σ : Sg) (x1 : Int32) (x2 : Int32) (rr : Sg)  (h : fn_X8_fail b σ x1 x2 = some rr) : Met l yX8_fail wsX8_fail rm_X8_fail (va_Pc [.ref b, .int x1, .int x2] (fun U => KK D κ U ∧ MW D κ b σ U.heap)) (va_Qv (fun u : Sg => u = rr) (fun u t => MW D κ b u t.heap) (sg_A b 16)) 0 0 (sg_A b 16) := by
  refine Met.ofW (cc := cX8_fail) (maxL := 3) (ret := none) (by decide) rfl ?_
  intro p e s m args below meth c s₁ B hml hv
  obtain ⟨rfl, hK, hC⟩ := hv
  have hr := B.returns
  have hlocks := B.notSynchronized
  have hl := lv_entry ([.ref b, .int x1, .int x2]) (n := 3) (Nat.le_of_ble_eq_true rfl)
  rw [lg_entry_eq]
  generalize (lg_sl ([.ref b, .int x1, .int x2]) ++ List.replicate (3 - (lg_sl ([.ref b, .int x1, .int x2])).length) Slot.unset).toArray = ls at hl ⊢
  have hl : lv_has ls 3 [(0, .ref b), (1, .int x1), (2, .int x2)] := hl
  exact w_X8_fail_B0 ⟨B.exec, B.bytes, hml, findClass_of_methodNamed B.named, atoms_spec (ws := wsX8_fail) B.pre, hK⟩ (fun u H locs pc ls hq hC hS hd => W.vret B.exec B.bytes hr (fun t ht hW => ⟨⟨_, rfl, Option.some.inj hq, MW_e ht hC⟩, hS.F ht⟩) hS.2.2 hd) h  hl hC va_S.rf

-- RecordShelfModel.digitOf(III)I
theorem dX8_digitOf_0 : decode cX8_digitOf 0 = .ok (.iload_n 0, 1) := by decide +kernel
theorem dX8_digitOf_1 : decode cX8_digitOf 1 = .ok (.istore_n 3, 1) := by decide +kernel
theorem dX8_digitOf_2 : decode cX8_digitOf 2 = .ok (.iload_n 2, 1) := by decide +kernel
theorem dX8_digitOf_3 : decode cX8_digitOf 3 = .ok (.iconst 1, 1) := by decide +kernel
theorem dX8_digitOf_4 : decode cX8_digitOf 4 = .ok (.iadd, 1) := by decide +kernel
theorem dX8_digitOf_5 : decode cX8_digitOf 5 = .ok (.istore 4, 2) := by decide +kernel
theorem dX8_digitOf_7 : decode cX8_digitOf 7 = .ok (.iload 4, 2) := by decide +kernel
theorem dX8_digitOf_9 : decode cX8_digitOf 9 = .ok (.iload_n 1, 1) := by decide +kernel
theorem dX8_digitOf_10 : decode cX8_digitOf 10 = .ok (.if_icmp .ge 14, 3) := by decide +kernel
theorem dX8_digitOf_13 : decode cX8_digitOf 13 = .ok (.iload_n 3, 1) := by decide +kernel
theorem dX8_digitOf_14 : decode cX8_digitOf 14 = .ok (.bipush 10, 2) := by decide +kernel
theorem dX8_digitOf_16 : decode cX8_digitOf 16 = .ok (.idiv, 1) := by decide +kernel
theorem dX8_digitOf_17 : decode cX8_digitOf 17 = .ok (.istore_n 3, 1) := by decide +kernel
theorem dX8_digitOf_18 : decode cX8_digitOf 18 = .ok (.iinc 4 1, 3) := by decide +kernel
theorem dX8_digitOf_21 : decode cX8_digitOf 21 = .ok (.goto (-14), 3) := by decide +kernel
theorem dX8_digitOf_24 : decode cX8_digitOf 24 = .ok (.iload_n 3, 1) := by decide +kernel
theorem dX8_digitOf_25 : decode cX8_digitOf 25 = .ok (.bipush 10, 2) := by decide +kernel
theorem dX8_digitOf_27 : decode cX8_digitOf 27 = .ok (.irem, 1) := by decide +kernel
theorem dX8_digitOf_28 : decode cX8_digitOf 28 = .ok (.ireturn, 1) := by decide +kernel
def rm_X8_digitOf : Room := { frames := 0, cells := 0, slots := 0, locals := 0 }
def fn_X8_digitOf_B7b (z7 : Int32 → Int32 → Int32 → Option (Int32)) (x1 : Int32) (x3 : Int32) (x4 : Int32) : Option (Int32) :=
  (if (x1 : Int32) ≤ x4 then
  some (x3 - x3 / 10 * 10)
  else (sg_lt ((x3 / 10) : Int32) fun v1 =>
  (sg_lt (x4 + 1 : Int32) fun v2 =>
  z7 x1 v1 v2)))
def fn_X8_digitOf_B7  : Nat → Int32 → Int32 → Int32 → Option (Int32)
  | 0 => fun _ _ _ => none
  | n + 1 => fun x1 x3 x4 => fn_X8_digitOf_B7b (fn_X8_digitOf_B7 n) x1 x3 x4
set_option maxHeartbeats 4000000 in
set_option maxRecDepth 100000 in
theorem w_X8_digitOf_B7b {p : Program} {l : Launch} {e : Env} {s : State} {m : MethodId} {args : Array Value} {below : List Frame} {meth : Method} {c : Code} {Q : State → Prop} {D : va_G} {κ : Nat → ClassId} {b : Nat} {H0 : Heap} {rr : Int32} {σ : Sg} (hZ : sg_Z p c s m args D κ cX8_digitOf 5 RX8 wsX8_digitOf) (hret : ∀ (v : Int32) (H : Heap) (locs : List Loc) (pc : Nat) (ls : Array Slot), some v = some rr → MW D κ b σ H → va_S (sg_A b 16) H0 H locs → decode cX8_digitOf pc = .ok (.ireturn, 1) → W p l e rm_X8_digitOf s m args below meth c H locs 0 0 Q (F0 m pc ls [.int v])) {z7 : Int32 → Int32 → Int32 → Option (Int32)} (hr7 : ∀ {x1 : Int32} {x3 : Int32} {x4 : Int32} {H : Heap} {locs : List Loc} {ls : Array Slot}, z7 x1 x3 x4 = some rr → lv_has ls 5 [(1, .int x1), (3, .int x3), (4, .int x4)] → MW D κ b σ H → va_S (sg_A b 16) H0 H locs → W p l e rm_X8_digitOf s m args below meth c H locs 0 0 Q (F0 m 7 ls [])) : ∀ {x1 : Int32} {x3 : Int32} {x4 : Int32} {H : Heap} {locs : List Loc} {ls : Array Slot}, fn_X8_digitOf_B7b z7 x1 x3 x4 = some rr → lv_has ls 5 [(1, .int x1), (3, .int x3), (4, .int x4)] → MW D κ b σ H → va_S (sg_A b 16) H0 H locs → W p l e rm_X8_digitOf s m args below meth c H locs 0 0 Q (F0 m 7 ls []) := by
  obtain ⟨hx, hb, hml, hown, hts, hK⟩ := hZ
  intro x1 x3 x4 H locs ls h hl hC hS
  unfold fn_X8_digitOf_B7b at h
  refine lv_iload hx hb dX8_digitOf_7 (lv_at hl 2 rfl) ?_
  refine lv_iload_n hx hb dX8_digitOf_9 rfl (lv_at hl 0 rfl) ?_
  refine lv_icmp_ge (tgt := 24) hx hb dX8_digitOf_10 (by decide) (fun hc => ?_) (fun hc => ?_)
  · replace h := (if_pos hc).symm.trans h
    refine lv_iload_n hx hb dX8_digitOf_24 rfl (lv_at hl 1 rfl) ?_
    refine lv_bipush (v := 10) hx hb dX8_digitOf_25 (by decide) ?_
    refine lv_irem hx hb dX8_digitOf_27 (by decide) ?_
    exact hret _ _ _ _ _ h hC hS dX8_digitOf_28
  · replace h := (if_neg hc).symm.trans h
    refine lv_iload_n hx hb dX8_digitOf_13 rfl (lv_at hl 1 rfl) ?_
    refine lv_bipush (v := 10) hx hb dX8_digitOf_14 (by decide) ?_
    refine lv_idiv hx hb dX8_digitOf_16 (by decide) ?_
    obtain ⟨v1, ev1, h⟩ := sg_lte h
    refine sg_topi ev1 ?_
    refine lv_istore_n (lv' := [(3, .int v1), (1, .int x1), (4, .int x4)]) hx hb dX8_digitOf_17 rfl hl (by decide) rfl (fun ls hl => ?_)
    obtain ⟨v2, ev2, h⟩ := sg_lte h
    refine lv_iinc (v := v2) (lv' := [(4, .int v2), (3, .int v1), (1, .int x1)]) (k := 2) hx hb dX8_digitOf_18 hl rfl (sg_inc (by decide) ev2) (by decide) rfl (fun ls hl => ?_)
    refine lv_goto (tgt := 7) hx hb dX8_digitOf_21 (by decide) ?_
    exact hr7 h (lv_sub hl [2, 1, 0] rfl) hC hS
set_option maxHeartbeats 4000000 in
theorem w_X8_digitOf_B7 {p : Program} {l : Launch} {e : Env} {s : State} {m : MethodId} {args : Array Value} {below : List Frame} {meth : Method} {c : Code} {Q : State → Prop} {D : va_G} {κ : Nat → ClassId} {b : Nat} {H0 : Heap} {rr : Int32} {σ : Sg} (hZ : sg_Z p c s m args D κ cX8_digitOf 5 RX8 wsX8_digitOf) (hret : ∀ (v : Int32) (H : Heap) (locs : List Loc) (pc : Nat) (ls : Array Slot), some v = some rr → MW D κ b σ H → va_S (sg_A b 16) H0 H locs → decode cX8_digitOf pc = .ok (.ireturn, 1) → W p l e rm_X8_digitOf s m args below meth c H locs 0 0 Q (F0 m pc ls [.int v])) : ∀ n : Nat, ∀ {x1 : Int32} {x3 : Int32} {x4 : Int32} {H : Heap} {locs : List Loc} {ls : Array Slot}, fn_X8_digitOf_B7 n x1 x3 x4 = some rr → lv_has ls 5 [(1, .int x1), (3, .int x3), (4, .int x4)] → MW D κ b σ H → va_S (sg_A b 16) H0 H locs → W p l e rm_X8_digitOf s m args below meth c H locs 0 0 Q (F0 m 7 ls []) := by
  intro n
  induction n with
  | zero => intro x1 x3 x4 H locs ls h hl hC hS; cases (show (none : Option (Int32)) = some rr from h)
  | succ n ih =>
    intro x1 x3 x4 H locs ls h hl hC hS
    exact w_X8_digitOf_B7b hZ hret ih (show fn_X8_digitOf_B7b (fn_X8_digitOf_B7 n) x1 x3 x4 = some rr from h)  hl hC hS
def fn_X8_digitOf (x0 : Int32) (x1 : Int32) (x2 : Int32) : Option (Int32) :=
  (sg_lt ((x2 + 1) : Int32) fun v1 =>
  fn_X8_digitOf_B7 sg_N x1 x0 v1)
set_option maxHeartbeats 4000000 in
set_option maxRecDepth 100000 in
theorem w_X8_digitOf_B0 {p : Program} {l : Launch} {e : Env} {s : State} {m : MethodId} {args : Array Value} {below : List Frame} {meth : Method} {c : Code} {Q : State → Prop} {D : va_G} {κ : Nat → ClassId} {b : Nat} {H0 : Heap} {rr : Int32} {σ : Sg} (hZ : sg_Z p c s m args D κ cX8_digitOf 5 RX8 wsX8_digitOf) (hret : ∀ (v : Int32) (H : Heap) (locs : List Loc) (pc : Nat) (ls : Array Slot), some v = some rr → MW D κ b σ H → va_S (sg_A b 16) H0 H locs → decode cX8_digitOf pc = .ok (.ireturn, 1) → W p l e rm_X8_digitOf s m args below meth c H locs 0 0 Q (F0 m pc ls [.int v])) : ∀ {x0 : Int32} {x1 : Int32} {x2 : Int32} {H : Heap} {locs : List Loc} {ls : Array Slot}, fn_X8_digitOf x0 x1 x2 = some rr → lv_has ls 5 [(0, .int x0), (1, .int x1), (2, .int x2)] → MW D κ b σ H → va_S (sg_A b 16) H0 H locs → W p l e rm_X8_digitOf s m args below meth c H locs 0 0 Q (F0 m 0 ls []) := by
  obtain ⟨hx, hb, hml, hown, hts, hK⟩ := hZ
  intro x0 x1 x2 H locs ls h hl hC hS
  unfold fn_X8_digitOf at h
  refine lv_iload_n hx hb dX8_digitOf_0 rfl (lv_at hl 0 rfl) ?_
  refine lv_istore_n (lv' := [(3, .int x0), (0, .int x0), (1, .int x1), (2, .int x2)]) hx hb dX8_digitOf_1 rfl hl (by decide) rfl (fun ls hl => ?_)
  refine lv_iload_n hx hb dX8_digitOf_2 rfl (lv_at hl 3 rfl) ?_
  refine lv_iconst (v := 1) hx hb dX8_digitOf_3 (by decide) ?_
  refine lv_iadd hx hb dX8_digitOf_4 ?_
  obtain ⟨v1, ev1, h⟩ := sg_lte h
  refine sg_topi ev1 ?_
  refine lv_istore (lv' := [(4, .int v1), (3, .int x0), (0, .int x0), (1, .int x1), (2, .int x2)]) hx hb dX8_digitOf_5 hl (by decide) rfl (fun ls hl => ?_)
  exact w_X8_digitOf_B7 ⟨hx, hb, hml, hown, hts, hK⟩ hret  sg_N h (lv_sub hl [3, 1, 0] rfl) hC hS
set_option maxHeartbeats 4000000 in
set_option maxRecDepth 100000 in
theorem c_X8_digitOf (l : Launch) (D : va_G) (κ : Nat → ClassId) (b : Nat) (σ : Sg) (x0 : Int32) (x1 : Int32) (x2 : Int32) (rr : Int32)  (h : fn_X8_digitOf x0 x1 x2 = some rr) : Met l yX8_digitOf wsX8_digitOf rm_X8_digitOf (va_Pc [.int x0, .int x1, .int x2] (fun U => KK D κ U ∧ MW D κ b σ U.heap)) (va_Qi (fun (r : Int32) (u : Sg) => r = rr ∧ u = σ) (fun u t => MW D κ b u t.heap) (sg_A b 16)) 0 0 (sg_A b 16) := by
  refine Met.ofW (cc := cX8_digitOf) (maxL := 5) (ret := (some .int)) (by decide) rfl ?_
  intro p e s m args below meth c s₁ B hml hv
  obtain ⟨rfl, hK, hC⟩ := hv
  have hr := B.returns
  have hlocks := B.notSynchronized
  have hl := lv_entry ([.int x0, .int x1, .int x2]) (n := 5) (Nat.le_of_ble_eq_true rfl)
  rw [lg_entry_eq]
  generalize (lg_sl ([.int x0, .int x1, .int x2]) ++ List.replicate (5 - (lg_sl ([.int x0, .int x1, .int x2])).length) Slot.unset).toArray = ls at hl ⊢
  have hl : lv_has ls 5 [(0, .int x0), (1, .int x1), (2, .int x2)] := hl
  exact w_X8_digitOf_B0 ⟨B.exec, B.bytes, hml, findClass_of_methodNamed B.named, atoms_spec (ws := wsX8_digitOf) B.pre, hK⟩ (fun v H locs pc ls hq hC hS hd => W.iret B.exec B.bytes hr (fun t ht hW => ⟨⟨v, _, rfl, ⟨Option.some.inj hq, rfl⟩, MW_e ht hC⟩, hS.F ht⟩) hS.2.2 hd) h  hl hC va_S.rf

-- RecordShelfModel.place()I
theorem dX8_place_0 : decode cX8_place 0 = .ok (.aload_n 0, 1) := by decide +kernel
theorem dX8_place_1 : decode cX8_place 1 = .ok (.getfield 40, 3) := by decide +kernel
theorem dX8_place_4 : decode cX8_place 4 = .ok (.ireturn, 1) := by decide +kernel
def rm_X8_place : Room := { frames := 0, cells := 0, slots := 0, locals := 0 }
def fn_X8_place (b : Nat) (σ : Sg) : Option (Int32) :=
  some (σ.1 b 13)
set_option maxHeartbeats 4000000 in
set_option maxRecDepth 100000 in
theorem w_X8_place_B0 {p : Program} {l : Launch} {e : Env} {s : State} {m : MethodId} {args : Array Value} {below : List Frame} {meth : Method} {c : Code} {Q : State → Prop} {D : va_G} {κ : Nat → ClassId} {b : Nat} {H0 : Heap} {rr : Int32} {σ : Sg} (hZ : sg_Z p c s m args D κ cX8_place 1 RX8 wsX8_place) (hret : ∀ (v : Int32) (H : Heap) (locs : List Loc) (pc : Nat) (ls : Array Slot), some v = some rr → MW D κ b σ H → va_S (sg_A b 16) H0 H locs → decode cX8_place pc = .ok (.ireturn, 1) → W p l e rm_X8_place s m args below meth c H locs 0 0 Q (F0 m pc ls [.int v])) : ∀ {H : Heap} {locs : List Loc} {ls : Array Slot}, fn_X8_place b σ = some rr → lv_has ls 1 [(0, .ref b)] → MW D κ b σ H → va_S (sg_A b 16) H0 H locs → W p l e rm_X8_place s m args below meth c H locs 0 0 Q (F0 m 0 ls []) := by
  obtain ⟨hx, hb, hml, hown, hts, hK⟩ := hZ
  intro H locs ls h hl hC hS
  unfold fn_X8_place at h
  refine lv_aload_n hx hb dX8_place_0 rfl (lv_at hl 0 rfl) ?_
  refine va_get (D := D) (ci := 8) (v := .int (σ.1 b 13)) (C := RX8) (T := TX8) (N := 21) hx hb hts (wqs inW_X8) hown hK.1 hC.1 (b - b) sg_gModel rfl 13 (by decide) (hts _ (wq wt_661)) (fun _ h9 => h9) rfl dX8_place_1 ?_
  exact hret _ _ _ _ _ h hC hS dX8_place_4
set_option maxHeartbeats 4000000 in
set_option maxRecDepth 100000 in
theorem c_X8_place (l : Launch) (D : va_G) (κ : Nat → ClassId) (b : Nat) (σ : Sg)  (rr : Int32)  (h : fn_X8_place b σ = some rr) : Met l yX8_place wsX8_place rm_X8_place (va_Pc [.ref b] (fun U => KK D κ U ∧ MW D κ b σ U.heap)) (va_Qi (fun (r : Int32) (u : Sg) => r = rr ∧ u = σ) (fun u t => MW D κ b u t.heap) (sg_A b 16)) 0 0 (sg_A b 16) := by
  refine Met.ofW (cc := cX8_place) (maxL := 1) (ret := (some .int)) (by decide) rfl ?_
  intro p e s m args below meth c s₁ B hml hv
  obtain ⟨rfl, hK, hC⟩ := hv
  have hr := B.returns
  have hlocks := B.notSynchronized
  have hl := lv_entry ([.ref b]) (n := 1) (Nat.le_of_ble_eq_true rfl)
  rw [lg_entry_eq]
  generalize (lg_sl ([.ref b]) ++ List.replicate (1 - (lg_sl ([.ref b])).length) Slot.unset).toArray = ls at hl ⊢
  have hl : lv_has ls 1 [(0, .ref b)] := hl
  exact w_X8_place_B0 ⟨B.exec, B.bytes, hml, findClass_of_methodNamed B.named, atoms_spec (ws := wsX8_place) B.pre, hK⟩ (fun v H locs pc ls hq hC hS hd => W.iret B.exec B.bytes hr (fun t ht hW => ⟨⟨v, _, rfl, ⟨Option.some.inj hq, rfl⟩, MW_e ht hC⟩, hS.F ht⟩) hS.2.2 hd) h  hl hC va_S.rf

-- RecordShelfModel.isRecord(I)Z
theorem dX8_isRecord_0 : decode cX8_isRecord 0 = .ok (.iload_n 1, 1) := by decide +kernel
theorem dX8_isRecord_1 : decode cX8_isRecord 1 = .ok (.ifCond .lt 15, 3) := by decide +kernel
theorem dX8_isRecord_4 : decode cX8_isRecord 4 = .ok (.iload_n 1, 1) := by decide +kernel
theorem dX8_isRecord_5 : decode cX8_isRecord 5 = .ok (.aload_n 0, 1) := by decide +kernel
theorem dX8_isRecord_6 : decode cX8_isRecord 6 = .ok (.getfield 109, 3) := by decide +kernel
theorem dX8_isRecord_9 : decode cX8_isRecord 9 = .ok (.if_icmp .ge 7, 3) := by decide +kernel
theorem dX8_isRecord_12 : decode cX8_isRecord 12 = .ok (.iconst 1, 1) := by decide +kernel
theorem dX8_isRecord_13 : decode cX8_isRecord 13 = .ok (.goto 4, 3) := by decide +kernel
theorem dX8_isRecord_16 : decode cX8_isRecord 16 = .ok (.iconst 0, 1) := by decide +kernel
theorem dX8_isRecord_17 : decode cX8_isRecord 17 = .ok (.ireturn, 1) := by decide +kernel
def rm_X8_isRecord : Room := { frames := 0, cells := 0, slots := 0, locals := 0 }
def fn_X8_isRecord (b : Nat) (σ : Sg) (x1 : Int32) : Option (Int32) :=
  (if x1 < 0 then
  some 0
  else (if ((σ.1 b 2) : Int32) ≤ x1 then
  some 0
  else some 1))
set_option maxHeartbeats 4000000 in
set_option maxRecDepth 100000 in
theorem w_X8_isRecord_B0 {p : Program} {l : Launch} {e : Env} {s : State} {m : MethodId} {args : Array Value} {below : List Frame} {meth : Method} {c : Code} {Q : State → Prop} {D : va_G} {κ : Nat → ClassId} {b : Nat} {H0 : Heap} {rr : Int32} {σ : Sg} (hZ : sg_Z p c s m args D κ cX8_isRecord 2 RX8 wsX8_isRecord) (hret : ∀ (v : Int32) (H : Heap) (locs : List Loc) (pc : Nat) (ls : Array Slot), some v = some rr → narrow .boolean (.int v) = .int v → MW D κ b σ H → va_S (sg_A b 16) H0 H locs → decode cX8_isRecord pc = .ok (.ireturn, 1) → W p l e rm_X8_isRecord s m args below meth c H locs 0 0 Q (F0 m pc ls [.int v])) : ∀ {x1 : Int32} {H : Heap} {locs : List Loc} {ls : Array Slot}, fn_X8_isRecord b σ x1 = some rr → lv_has ls 2 [(0, .ref b), (1, .int x1)] → MW D κ b σ H → va_S (sg_A b 16) H0 H locs → W p l e rm_X8_isRecord s m args below meth c H locs 0 0 Q (F0 m 0 ls []) := by
  obtain ⟨hx, hb, hml, hown, hts, hK⟩ := hZ
  intro x1 H locs ls h hl hC hS
  unfold fn_X8_isRecord at h
  refine lv_iload_n hx hb dX8_isRecord_0 rfl (lv_at hl 1 rfl) ?_
  refine lv_if_lt (tgt := 16) hx hb dX8_isRecord_1 (by decide) (fun hc => ?_) (fun hc => ?_)
  · replace h := (if_pos hc).symm.trans h
    refine lv_iconst (v := 0) hx hb dX8_isRecord_16 (by decide) ?_
    exact hret _ _ _ _ _ h (by decide) hC hS dX8_isRecord_17
  · replace h := (if_neg hc).symm.trans h
    refine lv_iload_n hx hb dX8_isRecord_4 rfl (lv_at hl 1 rfl) ?_
    refine lv_aload_n hx hb dX8_isRecord_5 rfl (lv_at hl 0 rfl) ?_
    refine va_get (D := D) (ci := 8) (v := .int (σ.1 b 2)) (C := RX8) (T := TX8) (N := 21) hx hb hts (wqs inW_X8) hown hK.1 hC.1 (b - b) sg_gModel rfl 2 (by decide) (hts _ (wq wt_650)) (fun _ h9 => h9) rfl dX8_isRecord_6 ?_
    refine lv_icmp_ge (tgt := 16) hx hb dX8_isRecord_9 (by decide) (fun hc => ?_) (fun hc => ?_)
    · replace h := (if_pos hc).symm.trans h
      refine lv_iconst (v := 0) hx hb dX8_isRecord_16 (by decide) ?_
      exact hret _ _ _ _ _ h (by decide) hC hS dX8_isRecord_17
    · replace h := (if_neg hc).symm.trans h
      refine lv_iconst (v := 1) hx hb dX8_isRecord_12 (by decide) ?_
      refine lv_goto (tgt := 17) hx hb dX8_isRecord_13 (by decide) ?_
      exact hret _ _ _ _ _ h (by decide) hC hS dX8_isRecord_17
set_option maxHeartbeats 4000000 in
set_option maxRecDepth 100000 in
theorem c_X8_isRecord (l : Launch) (D : va_G) (κ : Nat → ClassId) (b : Nat) (σ : Sg) (x1 : Int32) (rr : Int32)  (h : fn_X8_isRecord b σ x1 = some rr) : Met l yX8_isRecord wsX8_isRecord rm_X8_isRecord (va_Pc [.ref b, .int x1] (fun U => KK D κ U ∧ MW D κ b σ U.heap)) (va_Qi (fun (r : Int32) (u : Sg) => r = rr ∧ u = σ) (fun u t => MW D κ b u t.heap) (sg_A b 16)) 0 0 (sg_A b 16) := by
  refine Met.ofW (cc := cX8_isRecord) (maxL := 2) (ret := (some .boolean)) (by decide) rfl ?_
  intro p e s m args below meth c s₁ B hml hv
  obtain ⟨rfl, hK, hC⟩ := hv
  have hr := B.returns
  have hlocks := B.notSynchronized
  have hl := lv_entry ([.ref b, .int x1]) (n := 2) (Nat.le_of_ble_eq_true rfl)
  rw [lg_entry_eq]
  generalize (lg_sl ([.ref b, .int x1]) ++ List.replicate (2 - (lg_sl ([.ref b, .int x1])).length) Slot.unset).toArray = ls at hl ⊢
  have hl : lv_has ls 2 [(0, .ref b), (1, .int x1)] := hl
  exact w_X8_isRecord_B0 ⟨B.exec, B.bytes, hml, findClass_of_methodNamed B.named, atoms_spec (ws := wsX8_isRecord) B.pre, hK⟩ (fun v H locs pc ls hq hbo hC hS hd => W.zret B.exec B.bytes hr hbo (fun t ht hW => ⟨⟨v, _, rfl, ⟨Option.some.inj hq, rfl⟩, MW_e ht hC⟩, hS.F ht⟩) hS.2.2 hd) h  hl hC va_S.rf

-- RecordShelfModel.isField(II)Z
theorem dX8_isField_0 : decode cX8_isField 0 = .ok (.aload_n 0, 1) := by decide +kernel
theorem dX8_isField_1 : decode cX8_isField 1 = .ok (.iload_n 1, 1) := by decide +kernel
theorem dX8_isField_2 : decode cX8_isField 2 = .ok (.invokevirtual 125, 3) := by decide +kernel
theorem dX8_isField_5 : decode cX8_isField 5 = .ok (.ifCond .eq 21, 3) := by decide +kernel
theorem dX8_isField_8 : decode cX8_isField 8 = .ok (.iload_n 2, 1) := by decide +kernel
theorem dX8_isField_9 : decode cX8_isField 9 = .ok (.ifCond .lt 17, 3) := by decide +kernel
theorem dX8_isField_12 : decode cX8_isField 12 = .ok (.iload_n 2, 1) := by decide +kernel
theorem dX8_isField_13 : decode cX8_isField 13 = .ok (.aload_n 0, 1) := by decide +kernel
theorem dX8_isField_14 : decode cX8_isField 14 = .ok (.getfield 16, 3) := by decide +kernel
theorem dX8_isField_17 : decode cX8_isField 17 = .ok (.iload_n 1, 1) := by decide +kernel
theorem dX8_isField_18 : decode cX8_isField 18 = .ok (.iaload, 1) := by decide +kernel
theorem dX8_isField_19 : decode cX8_isField 19 = .ok (.if_icmp .ge 7, 3) := by decide +kernel
theorem dX8_isField_22 : decode cX8_isField 22 = .ok (.iconst 1, 1) := by decide +kernel
theorem dX8_isField_23 : decode cX8_isField 23 = .ok (.goto 4, 3) := by decide +kernel
theorem dX8_isField_26 : decode cX8_isField 26 = .ok (.iconst 0, 1) := by decide +kernel
theorem dX8_isField_27 : decode cX8_isField 27 = .ok (.ireturn, 1) := by decide +kernel
def rm_X8_isField : Room := { frames := 1, cells := 0, slots := 0, locals := 21 }
def fn_X8_isField (b : Nat) (σ : Sg) (x1 : Int32) (x2 : Int32) : Option (Int32) :=
  ((fn_X8_isRecord b σ x1).bind fun r1 =>
  (if r1 = 0 then
  some 0
  else (if x2 < 0 then
  some 0
  else (if sg_ib x1 6 then
  (if ((σ.1 (b + 3) (sg_x x1)) : Int32) ≤ x2 then
  some 0
  else some 1)
  else none))))
set_option maxHeartbeats 4000000 in
set_option maxRecDepth 100000 in
theorem w_X8_isField_B0 {p : Program} {l : Launch} {e : Env} {s : State} {m : MethodId} {args : Array Value} {below : List Frame} {meth : Method} {c : Code} {Q : State → Prop} {D : va_G} {κ : Nat → ClassId} {b : Nat} {H0 : Heap} {rr : Int32} {σ : Sg} (hZ : sg_Z p c s m args D κ cX8_isField 3 RX8 wsX8_isField) (hret : ∀ (v : Int32) (H : Heap) (locs : List Loc) (pc : Nat) (ls : Array Slot), some v = some rr → narrow .boolean (.int v) = .int v → MW D κ b σ H → va_S (sg_A b 16) H0 H locs → decode cX8_isField pc = .ok (.ireturn, 1) → W p l e rm_X8_isField s m args below meth c H locs 0 0 Q (F0 m pc ls [.int v])) : ∀ {x1 : Int32} {x2 : Int32} {H : Heap} {locs : List Loc} {ls : Array Slot}, fn_X8_isField b σ x1 x2 = some rr → lv_has ls 3 [(0, .ref b), (1, .int x1), (2, .int x2)] → MW D κ b σ H → va_S (sg_A b 16) H0 H locs → W p l e rm_X8_isField s m args below meth c H locs 0 0 Q (F0 m 0 ls []) := by
  obtain ⟨hx, hb, hml, hown, hts, hK⟩ := hZ
  intro x1 x2 H locs ls h hl hC hS
  unfold fn_X8_isField at h
  refine lv_aload_n hx hb dX8_isField_0 rfl (lv_at hl 0 rfl) ?_
  refine lv_iload_n hx hb dX8_isField_1 rfl (lv_at hl 1 rfl) ?_
  obtain ⟨r1, er1, h⟩ := Option.bind_eq_some_iff.mp h
  refine va_calli (va_runV (As := [.int x1]) (rest := []) ⟨hx, hb, hml, hown, hts⟩ (c_X8_isRecord l D κ b σ x1 _ er1) (cwV 1 hts (gwV wt_800 wt_802 wp_41 wt_9 wt_803) rfl rfl rfl (by decide +kernel) ⟨Nat.le_of_ble_eq_true rfl, Nat.le_of_ble_eq_true rfl⟩) (MW_preV hK hC sg_gModel rfl) rfl rfl hl.1 rfl (lv_room (Nat.le_of_ble_eq_true rfl)) dX8_isField_2 ⟨Nat.zero_le _, Nat.zero_le _⟩) hS (fun _ _ h => h) (fun _ h => h) (fun r u t H locs ht _ hp hB _ _ hS => ?_)
  refine sg_topi hp.1 ?_
  have hC : MW D κ b σ H := MW_b hB ht hp.2
  refine lv_if_eq (tgt := 26) hx hb dX8_isField_5 (by decide) (fun hc => ?_) (fun hc => ?_)
  · replace h := (if_pos hc).symm.trans h
    refine lv_iconst (v := 0) hx hb dX8_isField_26 (by decide) ?_
    exact hret _ _ _ _ _ h (by decide) hC hS dX8_isField_27
  · replace h := (if_neg hc).symm.trans h
    refine lv_iload_n hx hb dX8_isField_8 rfl (lv_at hl 2 rfl) ?_
    refine lv_if_lt (tgt := 26) hx hb dX8_isField_9 (by decide) (fun hc => ?_) (fun hc => ?_)
    · replace h := (if_pos hc).symm.trans h
      refine lv_iconst (v := 0) hx hb dX8_isField_26 (by decide) ?_
      exact hret _ _ _ _ _ h (by decide) hC hS dX8_isField_27
    · replace h := (if_neg hc).symm.trans h
      refine lv_iload_n hx hb dX8_isField_12 rfl (lv_at hl 2 rfl) ?_
      refine lv_aload_n hx hb dX8_isField_13 rfl (lv_at hl 0 rfl) ?_
      refine va_get (D := D) (ci := 8) (v := .ref (b + 3)) (C := RX8) (T := TX8) (N := 21) hx hb hts (wqs inW_X8) hown hK.1 hC.1 (b - b) sg_gModel rfl 4 (by decide) (hts _ (wq wt_652)) (fun _ h9 => h9) rfl dX8_isField_14 ?_
      refine lv_iload_n hx hb dX8_isField_17 rfl (lv_at hl 1 rfl) ?_
      obtain ⟨hg, h⟩ := sg_gd h
      refine va_iald hx hb hK.1 hC.1 ((b + 3) - b) 0 sg_ga_fieldsOf rfl (sg_in hg) dX8_isField_18 ?_
      refine lv_icmp_ge (tgt := 26) hx hb dX8_isField_19 (by decide) (fun hc => ?_) (fun hc => ?_)
      · replace h := (if_pos hc).symm.trans h
        refine lv_iconst (v := 0) hx hb dX8_isField_26 (by decide) ?_
        exact hret _ _ _ _ _ h (by decide) hC hS dX8_isField_27
      · replace h := (if_neg hc).symm.trans h
        refine lv_iconst (v := 1) hx hb dX8_isField_22 (by decide) ?_
        refine lv_goto (tgt := 27) hx hb dX8_isField_23 (by decide) ?_
        exact hret _ _ _ _ _ h (by decide) hC hS dX8_isField_27
set_option maxHeartbeats 4000000 in
set_option maxRecDepth 100000 in
theorem c_X8_isField (l : Launch) (D : va_G) (κ : Nat → ClassId) (b : Nat) (σ : Sg) (x1 : Int32) (x2 : Int32) (rr : Int32)  (h : fn_X8_isField b σ x1 x2 = some rr) : Met l yX8_isField wsX8_isField rm_X8_isField (va_Pc [.ref b, .int x1, .int x2] (fun U => KK D κ U ∧ MW D κ b σ U.heap)) (va_Qi (fun (r : Int32) (u : Sg) => r = rr ∧ u = σ) (fun u t => MW D κ b u t.heap) (sg_A b 16)) 0 0 (sg_A b 16) := by
  refine Met.ofW (cc := cX8_isField) (maxL := 3) (ret := (some .boolean)) (by decide) rfl ?_
  intro p e s m args below meth c s₁ B hml hv
  obtain ⟨rfl, hK, hC⟩ := hv
  have hr := B.returns
  have hlocks := B.notSynchronized
  have hl := lv_entry ([.ref b, .int x1, .int x2]) (n := 3) (Nat.le_of_ble_eq_true rfl)
  rw [lg_entry_eq]
  generalize (lg_sl ([.ref b, .int x1, .int x2]) ++ List.replicate (3 - (lg_sl ([.ref b, .int x1, .int x2])).length) Slot.unset).toArray = ls at hl ⊢
  have hl : lv_has ls 3 [(0, .ref b), (1, .int x1), (2, .int x2)] := hl
  exact w_X8_isField_B0 ⟨B.exec, B.bytes, hml, findClass_of_methodNamed B.named, atoms_spec (ws := wsX8_isField) B.pre, hK⟩ (fun v H locs pc ls hq hbo hC hS hd => W.zret B.exec B.bytes hr hbo (fun t ht hW => ⟨⟨v, _, rfl, ⟨Option.some.inj hq, rfl⟩, MW_e ht hC⟩, hS.F ht⟩) hS.2.2 hd) h  hl hC va_S.rf

-- RecordShelfModel.isSubfield(III)Z
theorem dX8_isSubfield_0 : decode cX8_isSubfield 0 = .ok (.aload_n 0, 1) := by decide +kernel
theorem dX8_isSubfield_1 : decode cX8_isSubfield 1 = .ok (.iload_n 1, 1) := by decide +kernel
theorem dX8_isSubfield_2 : decode cX8_isSubfield 2 = .ok (.iload_n 2, 1) := by decide +kernel
theorem dX8_isSubfield_3 : decode cX8_isSubfield 3 = .ok (.invokevirtual 128, 3) := by decide +kernel
theorem dX8_isSubfield_6 : decode cX8_isSubfield 6 = .ok (.ifCond .eq 26, 3) := by decide +kernel
theorem dX8_isSubfield_9 : decode cX8_isSubfield 9 = .ok (.iload_n 3, 1) := by decide +kernel
theorem dX8_isSubfield_10 : decode cX8_isSubfield 10 = .ok (.ifCond .lt 22, 3) := by decide +kernel
theorem dX8_isSubfield_13 : decode cX8_isSubfield 13 = .ok (.iload_n 3, 1) := by decide +kernel
theorem dX8_isSubfield_14 : decode cX8_isSubfield 14 = .ok (.aload_n 0, 1) := by decide +kernel
theorem dX8_isSubfield_15 : decode cX8_isSubfield 15 = .ok (.getfield 28, 3) := by decide +kernel
theorem dX8_isSubfield_18 : decode cX8_isSubfield 18 = .ok (.bipush 8, 2) := by decide +kernel
theorem dX8_isSubfield_20 : decode cX8_isSubfield 20 = .ok (.iload_n 1, 1) := by decide +kernel
theorem dX8_isSubfield_21 : decode cX8_isSubfield 21 = .ok (.imul, 1) := by decide +kernel
theorem dX8_isSubfield_22 : decode cX8_isSubfield 22 = .ok (.iload_n 2, 1) := by decide +kernel
theorem dX8_isSubfield_23 : decode cX8_isSubfield 23 = .ok (.iadd, 1) := by decide +kernel
theorem dX8_isSubfield_24 : decode cX8_isSubfield 24 = .ok (.iaload, 1) := by decide +kernel
theorem dX8_isSubfield_25 : decode cX8_isSubfield 25 = .ok (.if_icmp .ge 7, 3) := by decide +kernel
theorem dX8_isSubfield_28 : decode cX8_isSubfield 28 = .ok (.iconst 1, 1) := by decide +kernel
theorem dX8_isSubfield_29 : decode cX8_isSubfield 29 = .ok (.goto 4, 3) := by decide +kernel
theorem dX8_isSubfield_32 : decode cX8_isSubfield 32 = .ok (.iconst 0, 1) := by decide +kernel
theorem dX8_isSubfield_33 : decode cX8_isSubfield 33 = .ok (.ireturn, 1) := by decide +kernel
def rm_X8_isSubfield : Room := { frames := 2, cells := 0, slots := 0, locals := 43 }
def fn_X8_isSubfield (b : Nat) (σ : Sg) (x1 : Int32) (x2 : Int32) (x3 : Int32) : Option (Int32) :=
  ((fn_X8_isField b σ x1 x2).bind fun r1 =>
  (if r1 = 0 then
  some 0
  else (if x3 < 0 then
  some 0
  else (if sg_ib ((8 * x1) + x2) 48 then
  (if ((σ.1 (b + 7) (sg_x ((8 * x1) + x2))) : Int32) ≤ x3 then
  some 0
  else some 1)
  else none))))
set_option maxHeartbeats 4000000 in
set_option maxRecDepth 100000 in
theorem w_X8_isSubfield_B0 {p : Program} {l : Launch} {e : Env} {s : State} {m : MethodId} {args : Array Value} {below : List Frame} {meth : Method} {c : Code} {Q : State → Prop} {D : va_G} {κ : Nat → ClassId} {b : Nat} {H0 : Heap} {rr : Int32} {σ : Sg} (hZ : sg_Z p c s m args D κ cX8_isSubfield 4 RX8 wsX8_isSubfield) (hret : ∀ (v : Int32) (H : Heap) (locs : List Loc) (pc : Nat) (ls : Array Slot), some v = some rr → narrow .boolean (.int v) = .int v → MW D κ b σ H → va_S (sg_A b 16) H0 H locs → decode cX8_isSubfield pc = .ok (.ireturn, 1) → W p l e rm_X8_isSubfield s m args below meth c H locs 0 0 Q (F0 m pc ls [.int v])) : ∀ {x1 : Int32} {x2 : Int32} {x3 : Int32} {H : Heap} {locs : List Loc} {ls : Array Slot}, fn_X8_isSubfield b σ x1 x2 x3 = some rr → lv_has ls 4 [(0, .ref b), (1, .int x1), (2, .int x2), (3, .int x3)] → MW D κ b σ H → va_S (sg_A b 16) H0 H locs → W p l e rm_X8_isSubfield s m args below meth c H locs 0 0 Q (F0 m 0 ls []) := by
  obtain ⟨hx, hb, hml, hown, hts, hK⟩ := hZ
  intro x1 x2 x3 H locs ls h hl hC hS
  unfold fn_X8_isSubfield at h
  refine lv_aload_n hx hb dX8_isSubfield_0 rfl (lv_at hl 0 rfl) ?_
  refine lv_iload_n hx hb dX8_isSubfield_1 rfl (lv_at hl 1 rfl) ?_
  refine lv_iload_n hx hb dX8_isSubfield_2 rfl (lv_at hl 2 rfl) ?_
  obtain ⟨r1, er1, h⟩ := Option.bind_eq_some_iff.mp h
  refine va_calli (va_runV (As := [.int x1, .int x2]) (rest := []) ⟨hx, hb, hml, hown, hts⟩ (c_X8_isField l D κ b σ x1 x2 _ er1) (cwV 2 hts (gwV wt_808 wt_810 wp_42 wt_9 wt_811) rfl rfl rfl (by decide +kernel) ⟨Nat.le_of_ble_eq_true rfl, Nat.le_of_ble_eq_true rfl⟩) (MW_preV hK hC sg_gModel rfl) rfl rfl hl.1 rfl (lv_room (Nat.le_of_ble_eq_true rfl)) dX8_isSubfield_3 ⟨Nat.zero_le _, Nat.zero_le _⟩) hS (fun _ _ h => h) (fun _ h => h) (fun r u t H locs ht _ hp hB _ _ hS => ?_)
  refine sg_topi hp.1 ?_
  have hC : MW D κ b σ H := MW_b hB ht hp.2
  refine lv_if_eq (tgt := 32) hx hb dX8_isSubfield_6 (by decide) (fun hc => ?_) (fun hc => ?_)
  · replace h := (if_pos hc).symm.trans h
    refine lv_iconst (v := 0) hx hb dX8_isSubfield_32 (by decide) ?_
    exact hret _ _ _ _ _ h (by decide) hC hS dX8_isSubfield_33
  · replace h := (if_neg hc).symm.trans h
    refine lv_iload_n hx hb dX8_isSubfield_9 rfl (lv_at hl 3 rfl) ?_
    refine lv_if_lt (tgt := 32) hx hb dX8_isSubfield_10 (by decide) (fun hc => ?_) (fun hc => ?_)
    · replace h := (if_pos hc).symm.trans h
      refine lv_iconst (v := 0) hx hb dX8_isSubfield_32 (by decide) ?_
      exact hret _ _ _ _ _ h (by decide) hC hS dX8_isSubfield_33
    · replace h := (if_neg hc).symm.trans h
      refine lv_iload_n hx hb dX8_isSubfield_13 rfl (lv_at hl 3 rfl) ?_
      refine lv_aload_n hx hb dX8_isSubfield_14 rfl (lv_at hl 0 rfl) ?_
      refine va_get (D := D) (ci := 8) (v := .ref (b + 7)) (C := RX8) (T := TX8) (N := 21) hx hb hts (wqs inW_X8) hown hK.1 hC.1 (b - b) sg_gModel rfl 8 (by decide) (hts _ (wq wt_656)) (fun _ h9 => h9) rfl dX8_isSubfield_15 ?_
      refine lv_bipush (v := 8) hx hb dX8_isSubfield_18 (by decide) ?_
      refine lv_iload_n hx hb dX8_isSubfield_20 rfl (lv_at hl 1 rfl) ?_
      refine lv_imul hx hb dX8_isSubfield_21 ?_
      refine lv_iload_n hx hb dX8_isSubfield_22 rfl (lv_at hl 2 rfl) ?_
      refine lv_iadd hx hb dX8_isSubfield_23 ?_
      obtain ⟨hg, h⟩ := sg_gd h
      refine va_iald hx hb hK.1 hC.1 ((b + 7) - b) 0 sg_ga_subfields rfl (sg_in hg) dX8_isSubfield_24 ?_
      refine lv_icmp_ge (tgt := 32) hx hb dX8_isSubfield_25 (by decide) (fun hc => ?_) (fun hc => ?_)
      · replace h := (if_pos hc).symm.trans h
        refine lv_iconst (v := 0) hx hb dX8_isSubfield_32 (by decide) ?_
        exact hret _ _ _ _ _ h (by decide) hC hS dX8_isSubfield_33
      · replace h := (if_neg hc).symm.trans h
        refine lv_iconst (v := 1) hx hb dX8_isSubfield_28 (by decide) ?_
        refine lv_goto (tgt := 33) hx hb dX8_isSubfield_29 (by decide) ?_
        exact hret _ _ _ _ _ h (by decide) hC hS dX8_isSubfield_33
set_option maxHeartbeats 4000000 in
set_option maxRecDepth 100000 in
theorem c_X8_isSubfield (l : Launch) (D : va_G) (κ : Nat → ClassId) (b : Nat) (σ : Sg) (x1 : Int32) (x2 : Int32) (x3 : Int32) (rr : Int32)  (h : fn_X8_isSubfield b σ x1 x2 x3 = some rr) : Met l yX8_isSubfield wsX8_isSubfield rm_X8_isSubfield (va_Pc [.ref b, .int x1, .int x2, .int x3] (fun U => KK D κ U ∧ MW D κ b σ U.heap)) (va_Qi (fun (r : Int32) (u : Sg) => r = rr ∧ u = σ) (fun u t => MW D κ b u t.heap) (sg_A b 16)) 0 0 (sg_A b 16) := by
  refine Met.ofW (cc := cX8_isSubfield) (maxL := 4) (ret := (some .boolean)) (by decide) rfl ?_
  intro p e s m args below meth c s₁ B hml hv
  obtain ⟨rfl, hK, hC⟩ := hv
  have hr := B.returns
  have hlocks := B.notSynchronized
  have hl := lv_entry ([.ref b, .int x1, .int x2, .int x3]) (n := 4) (Nat.le_of_ble_eq_true rfl)
  rw [lg_entry_eq]
  generalize (lg_sl ([.ref b, .int x1, .int x2, .int x3]) ++ List.replicate (4 - (lg_sl ([.ref b, .int x1, .int x2, .int x3])).length) Slot.unset).toArray = ls at hl ⊢
  have hl : lv_has ls 4 [(0, .ref b), (1, .int x1), (2, .int x2), (3, .int x3)] := hl
  exact w_X8_isSubfield_B0 ⟨B.exec, B.bytes, hml, findClass_of_methodNamed B.named, atoms_spec (ws := wsX8_isSubfield) B.pre, hK⟩ (fun v H locs pc ls hq hbo hC hS hd => W.zret B.exec B.bytes hr hbo (fun t ht hW => ⟨⟨v, _, rfl, ⟨Option.some.inj hq, rfl⟩, MW_e ht hC⟩, hS.F ht⟩) hS.2.2 hd) h  hl hC va_S.rf

-- RecordShelfModel.many(II)I
theorem dX8_many_0 : decode cX8_many 0 = .ok (.iload_n 2, 1) := by decide +kernel
theorem dX8_many_1 : decode cX8_many 1 = .ok (.ifCond .ge 22, 3) := by decide +kernel
theorem dX8_many_4 : decode cX8_many 4 = .ok (.aload_n 0, 1) := by decide +kernel
theorem dX8_many_5 : decode cX8_many 5 = .ok (.iload_n 1, 1) := by decide +kernel
theorem dX8_many_6 : decode cX8_many 6 = .ok (.invokevirtual 125, 3) := by decide +kernel
theorem dX8_many_9 : decode cX8_many 9 = .ok (.ifCond .eq 12, 3) := by decide +kernel
theorem dX8_many_12 : decode cX8_many 12 = .ok (.aload_n 0, 1) := by decide +kernel
theorem dX8_many_13 : decode cX8_many 13 = .ok (.getfield 16, 3) := by decide +kernel
theorem dX8_many_16 : decode cX8_many 16 = .ok (.iload_n 1, 1) := by decide +kernel
theorem dX8_many_17 : decode cX8_many 17 = .ok (.iaload, 1) := by decide +kernel
theorem dX8_many_18 : decode cX8_many 18 = .ok (.goto 4, 3) := by decide +kernel
theorem dX8_many_21 : decode cX8_many 21 = .ok (.iconst (-1), 1) := by decide +kernel
theorem dX8_many_22 : decode cX8_many 22 = .ok (.ireturn, 1) := by decide +kernel
theorem dX8_many_23 : decode cX8_many 23 = .ok (.aload_n 0, 1) := by decide +kernel
theorem dX8_many_24 : decode cX8_many 24 = .ok (.iload_n 1, 1) := by decide +kernel
theorem dX8_many_25 : decode cX8_many 25 = .ok (.iload_n 2, 1) := by decide +kernel
theorem dX8_many_26 : decode cX8_many 26 = .ok (.invokevirtual 128, 3) := by decide +kernel
theorem dX8_many_29 : decode cX8_many 29 = .ok (.ifCond .eq 17, 3) := by decide +kernel
theorem dX8_many_32 : decode cX8_many 32 = .ok (.aload_n 0, 1) := by decide +kernel
theorem dX8_many_33 : decode cX8_many 33 = .ok (.getfield 28, 3) := by decide +kernel
theorem dX8_many_36 : decode cX8_many 36 = .ok (.bipush 8, 2) := by decide +kernel
theorem dX8_many_38 : decode cX8_many 38 = .ok (.iload_n 1, 1) := by decide +kernel
theorem dX8_many_39 : decode cX8_many 39 = .ok (.imul, 1) := by decide +kernel
theorem dX8_many_40 : decode cX8_many 40 = .ok (.iload_n 2, 1) := by decide +kernel
theorem dX8_many_41 : decode cX8_many 41 = .ok (.iadd, 1) := by decide +kernel
theorem dX8_many_42 : decode cX8_many 42 = .ok (.iaload, 1) := by decide +kernel
theorem dX8_many_43 : decode cX8_many 43 = .ok (.goto 4, 3) := by decide +kernel
theorem dX8_many_46 : decode cX8_many 46 = .ok (.iconst (-1), 1) := by decide +kernel
theorem dX8_many_47 : decode cX8_many 47 = .ok (.ireturn, 1) := by decide +kernel
def rm_X8_many : Room := { frames := 2, cells := 0, slots := 0, locals := 43 }
def fn_X8_many (b : Nat) (σ : Sg) (x1 : Int32) (x2 : Int32) : Option (Int32) :=
  (if (0 : Int32) ≤ x2 then
  ((fn_X8_isField b σ x1 x2).bind fun r1 =>
  (if r1 = 0 then
  some (-1)
  else (if sg_ib ((8 * x1) + x2) 48 then
  some (σ.1 (b + 7) (sg_x ((8 * x1) + x2)))
  else none)))
  else ((fn_X8_isRecord b σ x1).bind fun r2 =>
  (if r2 = 0 then
  some (-1)
  else (if sg_ib x1 6 then
  some (σ.1 (b + 3) (sg_x x1))
  else none))))
set_option maxHeartbeats 4000000 in
set_option maxRecDepth 100000 in
theorem w_X8_many_B0 {p : Program} {l : Launch} {e : Env} {s : State} {m : MethodId} {args : Array Value} {below : List Frame} {meth : Method} {c : Code} {Q : State → Prop} {D : va_G} {κ : Nat → ClassId} {b : Nat} {H0 : Heap} {rr : Int32} {σ : Sg} (hZ : sg_Z p c s m args D κ cX8_many 3 RX8 wsX8_many) (hret : ∀ (v : Int32) (H : Heap) (locs : List Loc) (pc : Nat) (ls : Array Slot), some v = some rr → MW D κ b σ H → va_S (sg_A b 16) H0 H locs → decode cX8_many pc = .ok (.ireturn, 1) → W p l e rm_X8_many s m args below meth c H locs 0 0 Q (F0 m pc ls [.int v])) : ∀ {x1 : Int32} {x2 : Int32} {H : Heap} {locs : List Loc} {ls : Array Slot}, fn_X8_many b σ x1 x2 = some rr → lv_has ls 3 [(0, .ref b), (1, .int x1), (2, .int x2)] → MW D κ b σ H → va_S (sg_A b 16) H0 H locs → W p l e rm_X8_many s m args below meth c H locs 0 0 Q (F0 m 0 ls []) := by
  obtain ⟨hx, hb, hml, hown, hts, hK⟩ := hZ
  intro x1 x2 H locs ls h hl hC hS
  unfold fn_X8_many at h
  refine lv_iload_n hx hb dX8_many_0 rfl (lv_at hl 2 rfl) ?_
  refine lv_if_ge (tgt := 23) hx hb dX8_many_1 (by decide) (fun hc => ?_) (fun hc => ?_)
  · replace h := (if_pos hc).symm.trans h
    refine lv_aload_n hx hb dX8_many_23 rfl (lv_at hl 0 rfl) ?_
    refine lv_iload_n hx hb dX8_many_24 rfl (lv_at hl 1 rfl) ?_
    refine lv_iload_n hx hb dX8_many_25 rfl (lv_at hl 2 rfl) ?_
    obtain ⟨r1, er1, h⟩ := Option.bind_eq_some_iff.mp h
    refine va_calli (va_runV (As := [.int x1, .int x2]) (rest := []) ⟨hx, hb, hml, hown, hts⟩ (c_X8_isField l D κ b σ x1 x2 _ er1) (cwV 2 hts (gwV wt_808 wt_810 wp_42 wt_9 wt_811) rfl rfl rfl (by decide +kernel) ⟨Nat.le_of_ble_eq_true rfl, Nat.le_of_ble_eq_true rfl⟩) (MW_preV hK hC sg_gModel rfl) rfl rfl hl.1 rfl (lv_room (Nat.le_of_ble_eq_true rfl)) dX8_many_26 ⟨Nat.zero_le _, Nat.zero_le _⟩) hS (fun _ _ h => h) (fun _ h => h) (fun r u t H locs ht _ hp hB _ _ hS => ?_)
    refine sg_topi hp.1 ?_
    have hC : MW D κ b σ H := MW_b hB ht hp.2
    refine lv_if_eq (tgt := 46) hx hb dX8_many_29 (by decide) (fun hc => ?_) (fun hc => ?_)
    · replace h := (if_pos hc).symm.trans h
      refine lv_iconst (v := (-1)) hx hb dX8_many_46 (by decide) ?_
      exact hret _ _ _ _ _ h hC hS dX8_many_47
    · replace h := (if_neg hc).symm.trans h
      refine lv_aload_n hx hb dX8_many_32 rfl (lv_at hl 0 rfl) ?_
      refine va_get (D := D) (ci := 8) (v := .ref (b + 7)) (C := RX8) (T := TX8) (N := 21) hx hb hts (wqs inW_X8) hown hK.1 hC.1 (b - b) sg_gModel rfl 8 (by decide) (hts _ (wq wt_656)) (fun _ h9 => h9) rfl dX8_many_33 ?_
      refine lv_bipush (v := 8) hx hb dX8_many_36 (by decide) ?_
      refine lv_iload_n hx hb dX8_many_38 rfl (lv_at hl 1 rfl) ?_
      refine lv_imul hx hb dX8_many_39 ?_
      refine lv_iload_n hx hb dX8_many_40 rfl (lv_at hl 2 rfl) ?_
      refine lv_iadd hx hb dX8_many_41 ?_
      obtain ⟨hg, h⟩ := sg_gd h
      refine va_iald hx hb hK.1 hC.1 ((b + 7) - b) 0 sg_ga_subfields rfl (sg_in hg) dX8_many_42 ?_
      refine lv_goto (tgt := 47) hx hb dX8_many_43 (by decide) ?_
      exact hret _ _ _ _ _ h hC hS dX8_many_47
  · replace h := (if_neg hc).symm.trans h
    refine lv_aload_n hx hb dX8_many_4 rfl (lv_at hl 0 rfl) ?_
    refine lv_iload_n hx hb dX8_many_5 rfl (lv_at hl 1 rfl) ?_
    obtain ⟨r2, er2, h⟩ := Option.bind_eq_some_iff.mp h
    refine va_calli (va_runV (As := [.int x1]) (rest := []) ⟨hx, hb, hml, hown, hts⟩ (c_X8_isRecord l D κ b σ x1 _ er2) (cwV 1 hts (gwV wt_800 wt_802 wp_41 wt_9 wt_803) rfl rfl rfl (by decide +kernel) ⟨Nat.le_of_ble_eq_true rfl, Nat.le_of_ble_eq_true rfl⟩) (MW_preV hK hC sg_gModel rfl) rfl rfl hl.1 rfl (lv_room (Nat.le_of_ble_eq_true rfl)) dX8_many_6 ⟨Nat.zero_le _, Nat.zero_le _⟩) hS (fun _ _ h => h) (fun _ h => h) (fun r u t H locs ht _ hp hB _ _ hS => ?_)
    refine sg_topi hp.1 ?_
    have hC : MW D κ b σ H := MW_b hB ht hp.2
    refine lv_if_eq (tgt := 21) hx hb dX8_many_9 (by decide) (fun hc => ?_) (fun hc => ?_)
    · replace h := (if_pos hc).symm.trans h
      refine lv_iconst (v := (-1)) hx hb dX8_many_21 (by decide) ?_
      exact hret _ _ _ _ _ h hC hS dX8_many_22
    · replace h := (if_neg hc).symm.trans h
      refine lv_aload_n hx hb dX8_many_12 rfl (lv_at hl 0 rfl) ?_
      refine va_get (D := D) (ci := 8) (v := .ref (b + 3)) (C := RX8) (T := TX8) (N := 21) hx hb hts (wqs inW_X8) hown hK.1 hC.1 (b - b) sg_gModel rfl 4 (by decide) (hts _ (wq wt_652)) (fun _ h9 => h9) rfl dX8_many_13 ?_
      refine lv_iload_n hx hb dX8_many_16 rfl (lv_at hl 1 rfl) ?_
      obtain ⟨hg, h⟩ := sg_gd h
      refine va_iald hx hb hK.1 hC.1 ((b + 3) - b) 0 sg_ga_fieldsOf rfl (sg_in hg) dX8_many_17 ?_
      refine lv_goto (tgt := 22) hx hb dX8_many_18 (by decide) ?_
      exact hret _ _ _ _ _ h hC hS dX8_many_22
set_option maxHeartbeats 4000000 in
set_option maxRecDepth 100000 in
theorem c_X8_many (l : Launch) (D : va_G) (κ : Nat → ClassId) (b : Nat) (σ : Sg) (x1 : Int32) (x2 : Int32) (rr : Int32)  (h : fn_X8_many b σ x1 x2 = some rr) : Met l yX8_many wsX8_many rm_X8_many (va_Pc [.ref b, .int x1, .int x2] (fun U => KK D κ U ∧ MW D κ b σ U.heap)) (va_Qi (fun (r : Int32) (u : Sg) => r = rr ∧ u = σ) (fun u t => MW D κ b u t.heap) (sg_A b 16)) 0 0 (sg_A b 16) := by
  refine Met.ofW (cc := cX8_many) (maxL := 3) (ret := (some .int)) (by decide) rfl ?_
  intro p e s m args below meth c s₁ B hml hv
  obtain ⟨rfl, hK, hC⟩ := hv
  have hr := B.returns
  have hlocks := B.notSynchronized
  have hl := lv_entry ([.ref b, .int x1, .int x2]) (n := 3) (Nat.le_of_ble_eq_true rfl)
  rw [lg_entry_eq]
  generalize (lg_sl ([.ref b, .int x1, .int x2]) ++ List.replicate (3 - (lg_sl ([.ref b, .int x1, .int x2])).length) Slot.unset).toArray = ls at hl ⊢
  have hl : lv_has ls 3 [(0, .ref b), (1, .int x1), (2, .int x2)] := hl
  exact w_X8_many_B0 ⟨B.exec, B.bytes, hml, findClass_of_methodNamed B.named, atoms_spec (ws := wsX8_many) B.pre, hK⟩ (fun v H locs pc ls hq hC hS hd => W.iret B.exec B.bytes hr (fun t ht hW => ⟨⟨v, _, rfl, ⟨Option.some.inj hq, rfl⟩, MW_e ht hC⟩, hS.F ht⟩) hS.2.2 hd) h  hl hC va_S.rf

-- RecordShelfModel.mark(III)I
theorem dX8_mark_0 : decode cX8_mark 0 = .ok (.aload_n 0, 1) := by decide +kernel
theorem dX8_mark_1 : decode cX8_mark 1 = .ok (.iload_n 1, 1) := by decide +kernel
theorem dX8_mark_2 : decode cX8_mark 2 = .ok (.iload_n 2, 1) := by decide +kernel
theorem dX8_mark_3 : decode cX8_mark 3 = .ok (.invokevirtual 128, 3) := by decide +kernel
theorem dX8_mark_6 : decode cX8_mark 6 = .ok (.ifCond .eq 12, 3) := by decide +kernel
theorem dX8_mark_9 : decode cX8_mark 9 = .ok (.iload_n 3, 1) := by decide +kernel
theorem dX8_mark_10 : decode cX8_mark 10 = .ok (.ifCond .lt 8, 3) := by decide +kernel
theorem dX8_mark_13 : decode cX8_mark 13 = .ok (.iload_n 3, 1) := by decide +kernel
theorem dX8_mark_14 : decode cX8_mark 14 = .ok (.iconst 2, 1) := by decide +kernel
theorem dX8_mark_15 : decode cX8_mark 15 = .ok (.if_icmp .le 5, 3) := by decide +kernel
theorem dX8_mark_18 : decode cX8_mark 18 = .ok (.iconst (-1), 1) := by decide +kernel
theorem dX8_mark_19 : decode cX8_mark 19 = .ok (.ireturn, 1) := by decide +kernel
theorem dX8_mark_20 : decode cX8_mark 20 = .ok (.bipush 8, 2) := by decide +kernel
theorem dX8_mark_22 : decode cX8_mark 22 = .ok (.iload_n 1, 1) := by decide +kernel
theorem dX8_mark_23 : decode cX8_mark 23 = .ok (.imul, 1) := by decide +kernel
theorem dX8_mark_24 : decode cX8_mark 24 = .ok (.iload_n 2, 1) := by decide +kernel
theorem dX8_mark_25 : decode cX8_mark 25 = .ok (.iadd, 1) := by decide +kernel
theorem dX8_mark_26 : decode cX8_mark 26 = .ok (.istore 4, 2) := by decide +kernel
theorem dX8_mark_28 : decode cX8_mark 28 = .ok (.iload_n 3, 1) := by decide +kernel
theorem dX8_mark_29 : decode cX8_mark 29 = .ok (.ifCond .ne 13, 3) := by decide +kernel
theorem dX8_mark_32 : decode cX8_mark 32 = .ok (.aload_n 0, 1) := by decide +kernel
theorem dX8_mark_33 : decode cX8_mark 33 = .ok (.getfield 19, 3) := by decide +kernel
theorem dX8_mark_36 : decode cX8_mark 36 = .ok (.iload 4, 2) := by decide +kernel
theorem dX8_mark_38 : decode cX8_mark 38 = .ok (.iaload, 1) := by decide +kernel
theorem dX8_mark_39 : decode cX8_mark 39 = .ok (.goto 25, 3) := by decide +kernel
theorem dX8_mark_42 : decode cX8_mark 42 = .ok (.iload_n 3, 1) := by decide +kernel
theorem dX8_mark_43 : decode cX8_mark 43 = .ok (.iconst 1, 1) := by decide +kernel
theorem dX8_mark_44 : decode cX8_mark 44 = .ok (.if_icmp .ne 13, 3) := by decide +kernel
theorem dX8_mark_47 : decode cX8_mark 47 = .ok (.aload_n 0, 1) := by decide +kernel
theorem dX8_mark_48 : decode cX8_mark 48 = .ok (.getfield 22, 3) := by decide +kernel
theorem dX8_mark_51 : decode cX8_mark 51 = .ok (.iload 4, 2) := by decide +kernel
theorem dX8_mark_53 : decode cX8_mark 53 = .ok (.iaload, 1) := by decide +kernel
theorem dX8_mark_54 : decode cX8_mark 54 = .ok (.goto 10, 3) := by decide +kernel
theorem dX8_mark_57 : decode cX8_mark 57 = .ok (.aload_n 0, 1) := by decide +kernel
theorem dX8_mark_58 : decode cX8_mark 58 = .ok (.getfield 25, 3) := by decide +kernel
theorem dX8_mark_61 : decode cX8_mark 61 = .ok (.iload 4, 2) := by decide +kernel
theorem dX8_mark_63 : decode cX8_mark 63 = .ok (.iaload, 1) := by decide +kernel
theorem dX8_mark_64 : decode cX8_mark 64 = .ok (.ireturn, 1) := by decide +kernel
def rm_X8_mark : Room := { frames := 2, cells := 0, slots := 0, locals := 43 }
def fn_X8_mark (b : Nat) (σ : Sg) (x1 : Int32) (x2 : Int32) (x3 : Int32) : Option (Int32) :=
  ((fn_X8_isField b σ x1 x2).bind fun r1 =>
  (if r1 = 0 then
  some (-1)
  else (if x3 < 0 then
  some (-1)
  else (if x3 ≤ 2 then
  (sg_lt (((8 * x1) + x2) : Int32) fun v2 =>
  (if x3 = 0 then
  (if sg_ib v2 48 then
  some (σ.1 (b + 4) (sg_x v2))
  else none)
  else (if x3 = 1 then
  (if sg_ib v2 48 then
  some (σ.1 (b + 5) (sg_x v2))
  else none)
  else (if sg_ib v2 48 then
  some (σ.1 (b + 6) (sg_x v2))
  else none))))
  else some (-1)))))
set_option maxHeartbeats 4000000 in
set_option maxRecDepth 100000 in
theorem w_X8_mark_B0 {p : Program} {l : Launch} {e : Env} {s : State} {m : MethodId} {args : Array Value} {below : List Frame} {meth : Method} {c : Code} {Q : State → Prop} {D : va_G} {κ : Nat → ClassId} {b : Nat} {H0 : Heap} {rr : Int32} {σ : Sg} (hZ : sg_Z p c s m args D κ cX8_mark 5 RX8 wsX8_mark) (hret : ∀ (v : Int32) (H : Heap) (locs : List Loc) (pc : Nat) (ls : Array Slot), some v = some rr → MW D κ b σ H → va_S (sg_A b 16) H0 H locs → decode cX8_mark pc = .ok (.ireturn, 1) → W p l e rm_X8_mark s m args below meth c H locs 0 0 Q (F0 m pc ls [.int v])) : ∀ {x1 : Int32} {x2 : Int32} {x3 : Int32} {H : Heap} {locs : List Loc} {ls : Array Slot}, fn_X8_mark b σ x1 x2 x3 = some rr → lv_has ls 5 [(0, .ref b), (1, .int x1), (2, .int x2), (3, .int x3)] → MW D κ b σ H → va_S (sg_A b 16) H0 H locs → W p l e rm_X8_mark s m args below meth c H locs 0 0 Q (F0 m 0 ls []) := by
  obtain ⟨hx, hb, hml, hown, hts, hK⟩ := hZ
  intro x1 x2 x3 H locs ls h hl hC hS
  unfold fn_X8_mark at h
  refine lv_aload_n hx hb dX8_mark_0 rfl (lv_at hl 0 rfl) ?_
  refine lv_iload_n hx hb dX8_mark_1 rfl (lv_at hl 1 rfl) ?_
  refine lv_iload_n hx hb dX8_mark_2 rfl (lv_at hl 2 rfl) ?_
  obtain ⟨r1, er1, h⟩ := Option.bind_eq_some_iff.mp h
  refine va_calli (va_runV (As := [.int x1, .int x2]) (rest := []) ⟨hx, hb, hml, hown, hts⟩ (c_X8_isField l D κ b σ x1 x2 _ er1) (cwV 2 hts (gwV wt_808 wt_810 wp_42 wt_9 wt_811) rfl rfl rfl (by decide +kernel) ⟨Nat.le_of_ble_eq_true rfl, Nat.le_of_ble_eq_true rfl⟩) (MW_preV hK hC sg_gModel rfl) rfl rfl hl.1 rfl (lv_room (Nat.le_of_ble_eq_true rfl)) dX8_mark_3 ⟨Nat.zero_le _, Nat.zero_le _⟩) hS (fun _ _ h => h) (fun _ h => h) (fun r u t H locs ht _ hp hB _ _ hS => ?_)
  refine sg_topi hp.1 ?_
  have hC : MW D κ b σ H := MW_b hB ht hp.2
  refine lv_if_eq (tgt := 18) hx hb dX8_mark_6 (by decide) (fun hc => ?_) (fun hc => ?_)
  · replace h := (if_pos hc).symm.trans h
    refine lv_iconst (v := (-1)) hx hb dX8_mark_18 (by decide) ?_
    exact hret _ _ _ _ _ h hC hS dX8_mark_19
  · replace h := (if_neg hc).symm.trans h
    refine lv_iload_n hx hb dX8_mark_9 rfl (lv_at hl 3 rfl) ?_
    refine lv_if_lt (tgt := 18) hx hb dX8_mark_10 (by decide) (fun hc => ?_) (fun hc => ?_)
    · replace h := (if_pos hc).symm.trans h
      refine lv_iconst (v := (-1)) hx hb dX8_mark_18 (by decide) ?_
      exact hret _ _ _ _ _ h hC hS dX8_mark_19
    · replace h := (if_neg hc).symm.trans h
      refine lv_iload_n hx hb dX8_mark_13 rfl (lv_at hl 3 rfl) ?_
      refine lv_iconst (v := 2) hx hb dX8_mark_14 (by decide) ?_
      refine lv_icmp_le (tgt := 20) hx hb dX8_mark_15 (by decide) (fun hc => ?_) (fun hc => ?_)
      · replace h := (if_pos hc).symm.trans h
        refine lv_bipush (v := 8) hx hb dX8_mark_20 (by decide) ?_
        refine lv_iload_n hx hb dX8_mark_22 rfl (lv_at hl 1 rfl) ?_
        refine lv_imul hx hb dX8_mark_23 ?_
        refine lv_iload_n hx hb dX8_mark_24 rfl (lv_at hl 2 rfl) ?_
        refine lv_iadd hx hb dX8_mark_25 ?_
        obtain ⟨v2, ev2, h⟩ := sg_lte h
        refine sg_topi ev2 ?_
        refine lv_istore (lv' := [(4, .int v2), (0, .ref b), (1, .int x1), (2, .int x2), (3, .int x3)]) hx hb dX8_mark_26 hl (by decide) rfl (fun ls hl => ?_)
        refine lv_iload_n hx hb dX8_mark_28 rfl (lv_at hl 4 rfl) ?_
        refine lv_if_ne (tgt := 42) hx hb dX8_mark_29 (by decide) (fun hc => ?_) (fun hc => ?_)
        · replace h := (if_neg hc).symm.trans h
          refine lv_iload_n hx hb dX8_mark_42 rfl (lv_at hl 4 rfl) ?_
          refine lv_iconst (v := 1) hx hb dX8_mark_43 (by decide) ?_
          refine lv_icmp_ne (tgt := 57) hx hb dX8_mark_44 (by decide) (fun hc => ?_) (fun hc => ?_)
          · replace h := (if_neg hc).symm.trans h
            refine lv_aload_n hx hb dX8_mark_57 rfl (lv_at hl 1 rfl) ?_
            refine va_get (D := D) (ci := 8) (v := .ref (b + 6)) (C := RX8) (T := TX8) (N := 21) hx hb hts (wqs inW_X8) hown hK.1 hC.1 (b - b) sg_gModel rfl 7 (by decide) (hts _ (wq wt_655)) (fun _ h9 => h9) rfl dX8_mark_58 ?_
            refine lv_iload hx hb dX8_mark_61 (lv_at hl 0 rfl) ?_
            obtain ⟨hg, h⟩ := sg_gd h
            refine va_iald hx hb hK.1 hC.1 ((b + 6) - b) 0 sg_ga_seconds rfl (sg_in hg) dX8_mark_63 ?_
            exact hret _ _ _ _ _ h hC hS dX8_mark_64
          · replace h := (if_pos hc).symm.trans h
            refine lv_aload_n hx hb dX8_mark_47 rfl (lv_at hl 1 rfl) ?_
            refine va_get (D := D) (ci := 8) (v := .ref (b + 5)) (C := RX8) (T := TX8) (N := 21) hx hb hts (wqs inW_X8) hown hK.1 hC.1 (b - b) sg_gModel rfl 6 (by decide) (hts _ (wq wt_654)) (fun _ h9 => h9) rfl dX8_mark_48 ?_
            refine lv_iload hx hb dX8_mark_51 (lv_at hl 0 rfl) ?_
            obtain ⟨hg, h⟩ := sg_gd h
            refine va_iald hx hb hK.1 hC.1 ((b + 5) - b) 0 sg_ga_firsts rfl (sg_in hg) dX8_mark_53 ?_
            refine lv_goto (tgt := 64) hx hb dX8_mark_54 (by decide) ?_
            exact hret _ _ _ _ _ h hC hS dX8_mark_64
        · replace h := (if_pos hc).symm.trans h
          refine lv_aload_n hx hb dX8_mark_32 rfl (lv_at hl 1 rfl) ?_
          refine va_get (D := D) (ci := 8) (v := .ref (b + 4)) (C := RX8) (T := TX8) (N := 21) hx hb hts (wqs inW_X8) hown hK.1 hC.1 (b - b) sg_gModel rfl 5 (by decide) (hts _ (wq wt_653)) (fun _ h9 => h9) rfl dX8_mark_33 ?_
          refine lv_iload hx hb dX8_mark_36 (lv_at hl 0 rfl) ?_
          obtain ⟨hg, h⟩ := sg_gd h
          refine va_iald hx hb hK.1 hC.1 ((b + 4) - b) 0 sg_ga_tags rfl (sg_in hg) dX8_mark_38 ?_
          refine lv_goto (tgt := 64) hx hb dX8_mark_39 (by decide) ?_
          exact hret _ _ _ _ _ h hC hS dX8_mark_64
      · replace h := (if_neg hc).symm.trans h
        refine lv_iconst (v := (-1)) hx hb dX8_mark_18 (by decide) ?_
        exact hret _ _ _ _ _ h hC hS dX8_mark_19
set_option maxHeartbeats 4000000 in
set_option maxRecDepth 100000 in
theorem c_X8_mark (l : Launch) (D : va_G) (κ : Nat → ClassId) (b : Nat) (σ : Sg) (x1 : Int32) (x2 : Int32) (x3 : Int32) (rr : Int32)  (h : fn_X8_mark b σ x1 x2 x3 = some rr) : Met l yX8_mark wsX8_mark rm_X8_mark (va_Pc [.ref b, .int x1, .int x2, .int x3] (fun U => KK D κ U ∧ MW D κ b σ U.heap)) (va_Qi (fun (r : Int32) (u : Sg) => r = rr ∧ u = σ) (fun u t => MW D κ b u t.heap) (sg_A b 16)) 0 0 (sg_A b 16) := by
  refine Met.ofW (cc := cX8_mark) (maxL := 5) (ret := (some .int)) (by decide) rfl ?_
  intro p e s m args below meth c s₁ B hml hv
  obtain ⟨rfl, hK, hC⟩ := hv
  have hr := B.returns
  have hlocks := B.notSynchronized
  have hl := lv_entry ([.ref b, .int x1, .int x2, .int x3]) (n := 5) (Nat.le_of_ble_eq_true rfl)
  rw [lg_entry_eq]
  generalize (lg_sl ([.ref b, .int x1, .int x2, .int x3]) ++ List.replicate (5 - (lg_sl ([.ref b, .int x1, .int x2, .int x3])).length) Slot.unset).toArray = ls at hl ⊢
  have hl : lv_has ls 5 [(0, .ref b), (1, .int x1), (2, .int x2), (3, .int x3)] := hl
  exact w_X8_mark_B0 ⟨B.exec, B.bytes, hml, findClass_of_methodNamed B.named, atoms_spec (ws := wsX8_mark) B.pre, hK⟩ (fun v H locs pc ls hq hC hS hd => W.iret B.exec B.bytes hr (fun t ht hW => ⟨⟨v, _, rfl, ⟨Option.some.inj hq, rfl⟩, MW_e ht hC⟩, hS.F ht⟩) hS.2.2 hd) h  hl hC va_S.rf

-- RecordShelfModel.shown(IIII)I
theorem dX8_shown_0 : decode cX8_shown 0 = .ok (.aload_n 0, 1) := by decide +kernel
theorem dX8_shown_1 : decode cX8_shown 1 = .ok (.iload_n 1, 1) := by decide +kernel
theorem dX8_shown_2 : decode cX8_shown 2 = .ok (.iload_n 2, 1) := by decide +kernel
theorem dX8_shown_3 : decode cX8_shown 3 = .ok (.iload_n 3, 1) := by decide +kernel
theorem dX8_shown_4 : decode cX8_shown 4 = .ok (.invokevirtual 132, 3) := by decide +kernel
theorem dX8_shown_7 : decode cX8_shown 7 = .ok (.ifCond .ne 5, 3) := by decide +kernel
theorem dX8_shown_10 : decode cX8_shown 10 = .ok (.iconst (-1), 1) := by decide +kernel
theorem dX8_shown_11 : decode cX8_shown 11 = .ok (.ireturn, 1) := by decide +kernel
theorem dX8_shown_12 : decode cX8_shown 12 = .ok (.iconst 4, 1) := by decide +kernel
theorem dX8_shown_13 : decode cX8_shown 13 = .ok (.bipush 8, 2) := by decide +kernel
theorem dX8_shown_15 : decode cX8_shown 15 = .ok (.iload_n 1, 1) := by decide +kernel
theorem dX8_shown_16 : decode cX8_shown 16 = .ok (.imul, 1) := by decide +kernel
theorem dX8_shown_17 : decode cX8_shown 17 = .ok (.iload_n 2, 1) := by decide +kernel
theorem dX8_shown_18 : decode cX8_shown 18 = .ok (.iadd, 1) := by decide +kernel
theorem dX8_shown_19 : decode cX8_shown 19 = .ok (.imul, 1) := by decide +kernel
theorem dX8_shown_20 : decode cX8_shown 20 = .ok (.iload_n 3, 1) := by decide +kernel
theorem dX8_shown_21 : decode cX8_shown 21 = .ok (.iadd, 1) := by decide +kernel
theorem dX8_shown_22 : decode cX8_shown 22 = .ok (.istore 5, 2) := by decide +kernel
theorem dX8_shown_24 : decode cX8_shown 24 = .ok (.iload 4, 2) := by decide +kernel
theorem dX8_shown_26 : decode cX8_shown 26 = .ok (.iconst (-1), 1) := by decide +kernel
theorem dX8_shown_27 : decode cX8_shown 27 = .ok (.if_icmp .ne 13, 3) := by decide +kernel
theorem dX8_shown_30 : decode cX8_shown 30 = .ok (.aload_n 0, 1) := by decide +kernel
theorem dX8_shown_31 : decode cX8_shown 31 = .ok (.getfield 31, 3) := by decide +kernel
theorem dX8_shown_34 : decode cX8_shown 34 = .ok (.iload 5, 2) := by decide +kernel
theorem dX8_shown_36 : decode cX8_shown 36 = .ok (.iaload, 1) := by decide +kernel
theorem dX8_shown_37 : decode cX8_shown 37 = .ok (.goto 37, 3) := by decide +kernel
theorem dX8_shown_40 : decode cX8_shown 40 = .ok (.iload 4, 2) := by decide +kernel
theorem dX8_shown_42 : decode cX8_shown 42 = .ok (.ifCond .lt 31, 3) := by decide +kernel
theorem dX8_shown_45 : decode cX8_shown 45 = .ok (.iload 4, 2) := by decide +kernel
theorem dX8_shown_47 : decode cX8_shown 47 = .ok (.aload_n 0, 1) := by decide +kernel
theorem dX8_shown_48 : decode cX8_shown 48 = .ok (.getfield 34, 3) := by decide +kernel
theorem dX8_shown_51 : decode cX8_shown 51 = .ok (.iload 5, 2) := by decide +kernel
theorem dX8_shown_53 : decode cX8_shown 53 = .ok (.iaload, 1) := by decide +kernel
theorem dX8_shown_54 : decode cX8_shown 54 = .ok (.if_icmp .ge 19, 3) := by decide +kernel
theorem dX8_shown_57 : decode cX8_shown 57 = .ok (.aload_n 0, 1) := by decide +kernel
theorem dX8_shown_58 : decode cX8_shown 58 = .ok (.getfield 37, 3) := by decide +kernel
theorem dX8_shown_61 : decode cX8_shown 61 = .ok (.bipush 20, 2) := by decide +kernel
theorem dX8_shown_63 : decode cX8_shown 63 = .ok (.iload 5, 2) := by decide +kernel
theorem dX8_shown_65 : decode cX8_shown 65 = .ok (.imul, 1) := by decide +kernel
theorem dX8_shown_66 : decode cX8_shown 66 = .ok (.iload 4, 2) := by decide +kernel
theorem dX8_shown_68 : decode cX8_shown 68 = .ok (.iadd, 1) := by decide +kernel
theorem dX8_shown_69 : decode cX8_shown 69 = .ok (.iaload, 1) := by decide +kernel
theorem dX8_shown_70 : decode cX8_shown 70 = .ok (.goto 4, 3) := by decide +kernel
theorem dX8_shown_73 : decode cX8_shown 73 = .ok (.iconst (-1), 1) := by decide +kernel
theorem dX8_shown_74 : decode cX8_shown 74 = .ok (.ireturn, 1) := by decide +kernel
def rm_X8_shown : Room := { frames := 3, cells := 0, slots := 0, locals := 66 }
def fn_X8_shown (b : Nat) (σ : Sg) (x1 : Int32) (x2 : Int32) (x3 : Int32) (x4 : Int32) : Option (Int32) :=
  ((fn_X8_isSubfield b σ x1 x2 x3).bind fun r1 =>
  (if r1 = 0 then
  some (-1)
  else (sg_lt (((4 * ((8 * x1) + x2)) + x3) : Int32) fun v2 =>
  (if x4 = (-1) then
  (if sg_ib v2 192 then
  some (σ.1 (b + 8) (sg_x v2))
  else none)
  else (if x4 < 0 then
  some (-1)
  else (if sg_ib v2 192 then
  (if ((σ.1 (b + 9) (sg_x v2)) : Int32) ≤ x4 then
  some (-1)
  else (if sg_ib ((20 * v2) + x4) 3840 then
  some (σ.1 (b + 10) (sg_x ((20 * v2) + x4)))
  else none))
  else none))))))
set_option maxHeartbeats 4000000 in
set_option maxRecDepth 100000 in
theorem w_X8_shown_B0 {p : Program} {l : Launch} {e : Env} {s : State} {m : MethodId} {args : Array Value} {below : List Frame} {meth : Method} {c : Code} {Q : State → Prop} {D : va_G} {κ : Nat → ClassId} {b : Nat} {H0 : Heap} {rr : Int32} {σ : Sg} (hZ : sg_Z p c s m args D κ cX8_shown 6 RX8 wsX8_shown) (hret : ∀ (v : Int32) (H : Heap) (locs : List Loc) (pc : Nat) (ls : Array Slot), some v = some rr → MW D κ b σ H → va_S (sg_A b 16) H0 H locs → decode cX8_shown pc = .ok (.ireturn, 1) → W p l e rm_X8_shown s m args below meth c H locs 0 0 Q (F0 m pc ls [.int v])) : ∀ {x1 : Int32} {x2 : Int32} {x3 : Int32} {x4 : Int32} {H : Heap} {locs : List Loc} {ls : Array Slot}, fn_X8_shown b σ x1 x2 x3 x4 = some rr → lv_has ls 6 [(0, .ref b), (1, .int x1), (2, .int x2), (3, .int x3), (4, .int x4)] → MW D κ b σ H → va_S (sg_A b 16) H0 H locs → W p l e rm_X8_shown s m args below meth c H locs 0 0 Q (F0 m 0 ls []) := by
  obtain ⟨hx, hb, hml, hown, hts, hK⟩ := hZ
  intro x1 x2 x3 x4 H locs ls h hl hC hS
  unfold fn_X8_shown at h
  refine lv_aload_n hx hb dX8_shown_0 rfl (lv_at hl 0 rfl) ?_
  refine lv_iload_n hx hb dX8_shown_1 rfl (lv_at hl 1 rfl) ?_
  refine lv_iload_n hx hb dX8_shown_2 rfl (lv_at hl 2 rfl) ?_
  refine lv_iload_n hx hb dX8_shown_3 rfl (lv_at hl 3 rfl) ?_
  obtain ⟨r1, er1, h⟩ := Option.bind_eq_some_iff.mp h
  refine va_calli (va_runV (As := [.int x1, .int x2, .int x3]) (rest := []) ⟨hx, hb, hml, hown, hts⟩ (c_X8_isSubfield l D κ b σ x1 x2 x3 _ er1) (cwV 3 hts (gwV wt_816 wt_818 wp_43 wt_9 wt_819) rfl rfl rfl (by decide +kernel) ⟨Nat.le_of_ble_eq_true rfl, Nat.le_of_ble_eq_true rfl⟩) (MW_preV hK hC sg_gModel rfl) rfl rfl hl.1 rfl (lv_room (Nat.le_of_ble_eq_true rfl)) dX8_shown_4 ⟨Nat.zero_le _, Nat.zero_le _⟩) hS (fun _ _ h => h) (fun _ h => h) (fun r u t H locs ht _ hp hB _ _ hS => ?_)
  refine sg_topi hp.1 ?_
  have hC : MW D κ b σ H := MW_b hB ht hp.2
  refine lv_if_ne (tgt := 12) hx hb dX8_shown_7 (by decide) (fun hc => ?_) (fun hc => ?_)
  · replace h := (if_neg hc).symm.trans h
    refine lv_iconst (v := 4) hx hb dX8_shown_12 (by decide) ?_
    refine lv_bipush (v := 8) hx hb dX8_shown_13 (by decide) ?_
    refine lv_iload_n hx hb dX8_shown_15 rfl (lv_at hl 1 rfl) ?_
    refine lv_imul hx hb dX8_shown_16 ?_
    refine lv_iload_n hx hb dX8_shown_17 rfl (lv_at hl 2 rfl) ?_
    refine lv_iadd hx hb dX8_shown_18 ?_
    refine lv_imul hx hb dX8_shown_19 ?_
    refine lv_iload_n hx hb dX8_shown_20 rfl (lv_at hl 3 rfl) ?_
    refine lv_iadd hx hb dX8_shown_21 ?_
    obtain ⟨v2, ev2, h⟩ := sg_lte h
    refine sg_topi ev2 ?_
    refine lv_istore (lv' := [(5, .int v2), (0, .ref b), (1, .int x1), (2, .int x2), (3, .int x3), (4, .int x4)]) hx hb dX8_shown_22 hl (by decide) rfl (fun ls hl => ?_)
    refine lv_iload hx hb dX8_shown_24 (lv_at hl 5 rfl) ?_
    refine lv_iconst (v := (-1)) hx hb dX8_shown_26 (by decide) ?_
    refine lv_icmp_ne (tgt := 40) hx hb dX8_shown_27 (by decide) (fun hc => ?_) (fun hc => ?_)
    · replace h := (if_neg hc).symm.trans h
      refine lv_iload hx hb dX8_shown_40 (lv_at hl 5 rfl) ?_
      refine lv_if_lt (tgt := 73) hx hb dX8_shown_42 (by decide) (fun hc => ?_) (fun hc => ?_)
      · replace h := (if_pos hc).symm.trans h
        refine lv_iconst (v := (-1)) hx hb dX8_shown_73 (by decide) ?_
        exact hret _ _ _ _ _ h hC hS dX8_shown_74
      · replace h := (if_neg hc).symm.trans h
        refine lv_iload hx hb dX8_shown_45 (lv_at hl 5 rfl) ?_
        refine lv_aload_n hx hb dX8_shown_47 rfl (lv_at hl 1 rfl) ?_
        refine va_get (D := D) (ci := 8) (v := .ref (b + 9)) (C := RX8) (T := TX8) (N := 21) hx hb hts (wqs inW_X8) hown hK.1 hC.1 (b - b) sg_gModel rfl 10 (by decide) (hts _ (wq wt_658)) (fun _ h9 => h9) rfl dX8_shown_48 ?_
        refine lv_iload hx hb dX8_shown_51 (lv_at hl 0 rfl) ?_
        obtain ⟨hg, h⟩ := sg_gd h
        refine va_iald hx hb hK.1 hC.1 ((b + 9) - b) 0 sg_ga_sizes rfl (sg_in hg) dX8_shown_53 ?_
        refine lv_icmp_ge (tgt := 73) hx hb dX8_shown_54 (by decide) (fun hc => ?_) (fun hc => ?_)
        · replace h := (if_pos hc).symm.trans h
          refine lv_iconst (v := (-1)) hx hb dX8_shown_73 (by decide) ?_
          exact hret _ _ _ _ _ h hC hS dX8_shown_74
        · replace h := (if_neg hc).symm.trans h
          refine lv_aload_n hx hb dX8_shown_57 rfl (lv_at hl 1 rfl) ?_
          refine va_get (D := D) (ci := 8) (v := .ref (b + 10)) (C := RX8) (T := TX8) (N := 21) hx hb hts (wqs inW_X8) hown hK.1 hC.1 (b - b) sg_gModel rfl 11 (by decide) (hts _ (wq wt_659)) (fun _ h9 => h9) rfl dX8_shown_58 ?_
          refine lv_bipush (v := 20) hx hb dX8_shown_61 (by decide) ?_
          refine lv_iload hx hb dX8_shown_63 (lv_at hl 0 rfl) ?_
          refine lv_imul hx hb dX8_shown_65 ?_
          refine lv_iload hx hb dX8_shown_66 (lv_at hl 5 rfl) ?_
          refine lv_iadd hx hb dX8_shown_68 ?_
          obtain ⟨hg, h⟩ := sg_gd h
          refine va_iald hx hb hK.1 hC.1 ((b + 10) - b) 0 sg_ga_characters rfl (sg_in hg) dX8_shown_69 ?_
          refine lv_goto (tgt := 74) hx hb dX8_shown_70 (by decide) ?_
          exact hret _ _ _ _ _ h hC hS dX8_shown_74
    · replace h := (if_pos hc).symm.trans h
      refine lv_aload_n hx hb dX8_shown_30 rfl (lv_at hl 1 rfl) ?_
      refine va_get (D := D) (ci := 8) (v := .ref (b + 8)) (C := RX8) (T := TX8) (N := 21) hx hb hts (wqs inW_X8) hown hK.1 hC.1 (b - b) sg_gModel rfl 9 (by decide) (hts _ (wq wt_657)) (fun _ h9 => h9) rfl dX8_shown_31 ?_
      refine lv_iload hx hb dX8_shown_34 (lv_at hl 0 rfl) ?_
      obtain ⟨hg, h⟩ := sg_gd h
      refine va_iald hx hb hK.1 hC.1 ((b + 8) - b) 0 sg_ga_codes rfl (sg_in hg) dX8_shown_36 ?_
      refine lv_goto (tgt := 74) hx hb dX8_shown_37 (by decide) ?_
      exact hret _ _ _ _ _ h hC hS dX8_shown_74
  · replace h := (if_pos hc).symm.trans h
    refine lv_iconst (v := (-1)) hx hb dX8_shown_10 (by decide) ?_
    exact hret _ _ _ _ _ h hC hS dX8_shown_11
set_option maxHeartbeats 4000000 in
set_option maxRecDepth 100000 in
theorem c_X8_shown (l : Launch) (D : va_G) (κ : Nat → ClassId) (b : Nat) (σ : Sg) (x1 : Int32) (x2 : Int32) (x3 : Int32) (x4 : Int32) (rr : Int32)  (h : fn_X8_shown b σ x1 x2 x3 x4 = some rr) : Met l yX8_shown wsX8_shown rm_X8_shown (va_Pc [.ref b, .int x1, .int x2, .int x3, .int x4] (fun U => KK D κ U ∧ MW D κ b σ U.heap)) (va_Qi (fun (r : Int32) (u : Sg) => r = rr ∧ u = σ) (fun u t => MW D κ b u t.heap) (sg_A b 16)) 0 0 (sg_A b 16) := by
  refine Met.ofW (cc := cX8_shown) (maxL := 6) (ret := (some .int)) (by decide) rfl ?_
  intro p e s m args below meth c s₁ B hml hv
  obtain ⟨rfl, hK, hC⟩ := hv
  have hr := B.returns
  have hlocks := B.notSynchronized
  have hl := lv_entry ([.ref b, .int x1, .int x2, .int x3, .int x4]) (n := 6) (Nat.le_of_ble_eq_true rfl)
  rw [lg_entry_eq]
  generalize (lg_sl ([.ref b, .int x1, .int x2, .int x3, .int x4]) ++ List.replicate (6 - (lg_sl ([.ref b, .int x1, .int x2, .int x3, .int x4])).length) Slot.unset).toArray = ls at hl ⊢
  have hl : lv_has ls 6 [(0, .ref b), (1, .int x1), (2, .int x2), (3, .int x3), (4, .int x4)] := hl
  exact w_X8_shown_B0 ⟨B.exec, B.bytes, hml, findClass_of_methodNamed B.named, atoms_spec (ws := wsX8_shown) B.pre, hK⟩ (fun v H locs pc ls hq hC hS hd => W.iret B.exec B.bytes hr (fun t ht hW => ⟨⟨v, _, rfl, ⟨Option.some.inj hq, rfl⟩, MW_e ht hC⟩, hS.F ht⟩) hS.2.2 hd) h  hl hC va_S.rf

-- RecordShelfModel.heading(II)I
theorem dX8_heading_0 : decode cX8_heading 0 = .ok (.iload_n 1, 1) := by decide +kernel
theorem dX8_heading_1 : decode cX8_heading 1 = .ok (.ifCond .lt 20, 3) := by decide +kernel
theorem dX8_heading_4 : decode cX8_heading 4 = .ok (.iload_n 1, 1) := by decide +kernel
theorem dX8_heading_5 : decode cX8_heading 5 = .ok (.aload_n 0, 1) := by decide +kernel
theorem dX8_heading_6 : decode cX8_heading 6 = .ok (.getfield 152, 3) := by decide +kernel
theorem dX8_heading_9 : decode cX8_heading 9 = .ok (.if_icmp .ge 12, 3) := by decide +kernel
theorem dX8_heading_12 : decode cX8_heading 12 = .ok (.iload_n 2, 1) := by decide +kernel
theorem dX8_heading_13 : decode cX8_heading 13 = .ok (.ifCond .lt 8, 3) := by decide +kernel
theorem dX8_heading_16 : decode cX8_heading 16 = .ok (.iload_n 2, 1) := by decide +kernel
theorem dX8_heading_17 : decode cX8_heading 17 = .ok (.iconst 2, 1) := by decide +kernel
theorem dX8_heading_18 : decode cX8_heading 18 = .ok (.if_icmp .le 5, 3) := by decide +kernel
theorem dX8_heading_21 : decode cX8_heading 21 = .ok (.iconst (-1), 1) := by decide +kernel
theorem dX8_heading_22 : decode cX8_heading 22 = .ok (.ireturn, 1) := by decide +kernel
theorem dX8_heading_23 : decode cX8_heading 23 = .ok (.aload_n 0, 1) := by decide +kernel
theorem dX8_heading_24 : decode cX8_heading 24 = .ok (.getfield 47, 3) := by decide +kernel
theorem dX8_heading_27 : decode cX8_heading 27 = .ok (.iload_n 1, 1) := by decide +kernel
theorem dX8_heading_28 : decode cX8_heading 28 = .ok (.iaload, 1) := by decide +kernel
theorem dX8_heading_29 : decode cX8_heading 29 = .ok (.istore_n 3, 1) := by decide +kernel
theorem dX8_heading_30 : decode cX8_heading 30 = .ok (.iload_n 2, 1) := by decide +kernel
theorem dX8_heading_31 : decode cX8_heading 31 = .ok (.ifCond .ne 10, 3) := by decide +kernel
theorem dX8_heading_34 : decode cX8_heading 34 = .ok (.iload_n 3, 1) := by decide +kernel
theorem dX8_heading_35 : decode cX8_heading 35 = .ok (.bipush 32, 2) := by decide +kernel
theorem dX8_heading_37 : decode cX8_heading 37 = .ok (.idiv, 1) := by decide +kernel
theorem dX8_heading_38 : decode cX8_heading 38 = .ok (.goto 20, 3) := by decide +kernel
theorem dX8_heading_41 : decode cX8_heading 41 = .ok (.iload_n 2, 1) := by decide +kernel
theorem dX8_heading_42 : decode cX8_heading 42 = .ok (.iconst 1, 1) := by decide +kernel
theorem dX8_heading_43 : decode cX8_heading 43 = .ok (.if_icmp .ne 12, 3) := by decide +kernel
theorem dX8_heading_46 : decode cX8_heading 46 = .ok (.iload_n 3, 1) := by decide +kernel
theorem dX8_heading_47 : decode cX8_heading 47 = .ok (.iconst 4, 1) := by decide +kernel
theorem dX8_heading_48 : decode cX8_heading 48 = .ok (.idiv, 1) := by decide +kernel
theorem dX8_heading_49 : decode cX8_heading 49 = .ok (.bipush 8, 2) := by decide +kernel
theorem dX8_heading_51 : decode cX8_heading 51 = .ok (.irem, 1) := by decide +kernel
theorem dX8_heading_52 : decode cX8_heading 52 = .ok (.goto 6, 3) := by decide +kernel
theorem dX8_heading_55 : decode cX8_heading 55 = .ok (.iload_n 3, 1) := by decide +kernel
theorem dX8_heading_56 : decode cX8_heading 56 = .ok (.iconst 4, 1) := by decide +kernel
theorem dX8_heading_57 : decode cX8_heading 57 = .ok (.irem, 1) := by decide +kernel
theorem dX8_heading_58 : decode cX8_heading 58 = .ok (.ireturn, 1) := by decide +kernel
def rm_X8_heading : Room := { frames := 0, cells := 0, slots := 0, locals := 0 }
def fn_X8_heading (b : Nat) (σ : Sg) (x1 : Int32) (x2 : Int32) : Option (Int32) :=
  (if x1 < 0 then
  some (-1)
  else (if ((σ.1 b 15) : Int32) ≤ x1 then
  some (-1)
  else (if x2 < 0 then
  some (-1)
  else (if x2 ≤ 2 then
  (if sg_ib x1 192 then
  (sg_lt ((σ.1 (b + 12) (sg_x x1)) : Int32) fun v1 =>
  (if x2 = 0 then
  some (v1 / 32)
  else (if x2 = 1 then
  some ((v1 / 4) - (v1 / 4) / 8 * 8)
  else some (v1 - v1 / 4 * 4))))
  else none)
  else some (-1)))))
set_option maxHeartbeats 4000000 in
set_option maxRecDepth 100000 in
theorem w_X8_heading_B0 {p : Program} {l : Launch} {e : Env} {s : State} {m : MethodId} {args : Array Value} {below : List Frame} {meth : Method} {c : Code} {Q : State → Prop} {D : va_G} {κ : Nat → ClassId} {b : Nat} {H0 : Heap} {rr : Int32} {σ : Sg} (hZ : sg_Z p c s m args D κ cX8_heading 4 RX8 wsX8_heading) (hret : ∀ (v : Int32) (H : Heap) (locs : List Loc) (pc : Nat) (ls : Array Slot), some v = some rr → MW D κ b σ H → va_S (sg_A b 16) H0 H locs → decode cX8_heading pc = .ok (.ireturn, 1) → W p l e rm_X8_heading s m args below meth c H locs 0 0 Q (F0 m pc ls [.int v])) : ∀ {x1 : Int32} {x2 : Int32} {H : Heap} {locs : List Loc} {ls : Array Slot}, fn_X8_heading b σ x1 x2 = some rr → lv_has ls 4 [(0, .ref b), (1, .int x1), (2, .int x2)] → MW D κ b σ H → va_S (sg_A b 16) H0 H locs → W p l e rm_X8_heading s m args below meth c H locs 0 0 Q (F0 m 0 ls []) := by
  obtain ⟨hx, hb, hml, hown, hts, hK⟩ := hZ
  intro x1 x2 H locs ls h hl hC hS
  unfold fn_X8_heading at h
  refine lv_iload_n hx hb dX8_heading_0 rfl (lv_at hl 1 rfl) ?_
  refine lv_if_lt (tgt := 21) hx hb dX8_heading_1 (by decide) (fun hc => ?_) (fun hc => ?_)
  · replace h := (if_pos hc).symm.trans h
    refine lv_iconst (v := (-1)) hx hb dX8_heading_21 (by decide) ?_
    exact hret _ _ _ _ _ h hC hS dX8_heading_22
  · replace h := (if_neg hc).symm.trans h
    refine lv_iload_n hx hb dX8_heading_4 rfl (lv_at hl 1 rfl) ?_
    refine lv_aload_n hx hb dX8_heading_5 rfl (lv_at hl 0 rfl) ?_
    refine va_get (D := D) (ci := 8) (v := .int (σ.1 b 15)) (C := RX8) (T := TX8) (N := 21) hx hb hts (wqs inW_X8) hown hK.1 hC.1 (b - b) sg_gModel rfl 15 (by decide) (hts _ (wq wt_663)) (fun _ h9 => h9) rfl dX8_heading_6 ?_
    refine lv_icmp_ge (tgt := 21) hx hb dX8_heading_9 (by decide) (fun hc => ?_) (fun hc => ?_)
    · replace h := (if_pos hc).symm.trans h
      refine lv_iconst (v := (-1)) hx hb dX8_heading_21 (by decide) ?_
      exact hret _ _ _ _ _ h hC hS dX8_heading_22
    · replace h := (if_neg hc).symm.trans h
      refine lv_iload_n hx hb dX8_heading_12 rfl (lv_at hl 2 rfl) ?_
      refine lv_if_lt (tgt := 21) hx hb dX8_heading_13 (by decide) (fun hc => ?_) (fun hc => ?_)
      · replace h := (if_pos hc).symm.trans h
        refine lv_iconst (v := (-1)) hx hb dX8_heading_21 (by decide) ?_
        exact hret _ _ _ _ _ h hC hS dX8_heading_22
      · replace h := (if_neg hc).symm.trans h
        refine lv_iload_n hx hb dX8_heading_16 rfl (lv_at hl 2 rfl) ?_
        refine lv_iconst (v := 2) hx hb dX8_heading_17 (by decide) ?_
        refine lv_icmp_le (tgt := 23) hx hb dX8_heading_18 (by decide) (fun hc => ?_) (fun hc => ?_)
        · replace h := (if_pos hc).symm.trans h
          refine lv_aload_n hx hb dX8_heading_23 rfl (lv_at hl 0 rfl) ?_
          refine va_get (D := D) (ci := 8) (v := .ref (b + 12)) (C := RX8) (T := TX8) (N := 21) hx hb hts (wqs inW_X8) hown hK.1 hC.1 (b - b) sg_gModel rfl 16 (by decide) (hts _ (wq wt_664)) (fun _ h9 => h9) rfl dX8_heading_24 ?_
          refine lv_iload_n hx hb dX8_heading_27 rfl (lv_at hl 1 rfl) ?_
          obtain ⟨hg, h⟩ := sg_gd h
          refine va_iald hx hb hK.1 hC.1 ((b + 12) - b) 0 sg_ga_headings rfl (sg_in hg) dX8_heading_28 ?_
          obtain ⟨v1, ev1, h⟩ := sg_lte h
          refine sg_topi ev1 ?_
          refine lv_istore_n (lv' := [(3, .int v1), (0, .ref b), (1, .int x1), (2, .int x2)]) hx hb dX8_heading_29 rfl hl (by decide) rfl (fun ls hl => ?_)
          refine lv_iload_n hx hb dX8_heading_30 rfl (lv_at hl 3 rfl) ?_
          refine lv_if_ne (tgt := 41) hx hb dX8_heading_31 (by decide) (fun hc => ?_) (fun hc => ?_)
          · replace h := (if_neg hc).symm.trans h
            refine lv_iload_n hx hb dX8_heading_41 rfl (lv_at hl 3 rfl) ?_
            refine lv_iconst (v := 1) hx hb dX8_heading_42 (by decide) ?_
            refine lv_icmp_ne (tgt := 55) hx hb dX8_heading_43 (by decide) (fun hc => ?_) (fun hc => ?_)
            · replace h := (if_neg hc).symm.trans h
              refine lv_iload_n hx hb dX8_heading_55 rfl (lv_at hl 0 rfl) ?_
              refine lv_iconst (v := 4) hx hb dX8_heading_56 (by decide) ?_
              refine lv_irem hx hb dX8_heading_57 (by decide) ?_
              exact hret _ _ _ _ _ h hC hS dX8_heading_58
            · replace h := (if_pos hc).symm.trans h
              refine lv_iload_n hx hb dX8_heading_46 rfl (lv_at hl 0 rfl) ?_
              refine lv_iconst (v := 4) hx hb dX8_heading_47 (by decide) ?_
              refine lv_idiv hx hb dX8_heading_48 (by decide) ?_
              refine lv_bipush (v := 8) hx hb dX8_heading_49 (by decide) ?_
              refine lv_irem hx hb dX8_heading_51 (by decide) ?_
              refine lv_goto (tgt := 58) hx hb dX8_heading_52 (by decide) ?_
              exact hret _ _ _ _ _ h hC hS dX8_heading_58
          · replace h := (if_pos hc).symm.trans h
            refine lv_iload_n hx hb dX8_heading_34 rfl (lv_at hl 0 rfl) ?_
            refine lv_bipush (v := 32) hx hb dX8_heading_35 (by decide) ?_
            refine lv_idiv hx hb dX8_heading_37 (by decide) ?_
            refine lv_goto (tgt := 58) hx hb dX8_heading_38 (by decide) ?_
            exact hret _ _ _ _ _ h hC hS dX8_heading_58
        · replace h := (if_neg hc).symm.trans h
          refine lv_iconst (v := (-1)) hx hb dX8_heading_21 (by decide) ?_
          exact hret _ _ _ _ _ h hC hS dX8_heading_22
set_option maxHeartbeats 4000000 in
set_option maxRecDepth 100000 in
theorem c_X8_heading (l : Launch) (D : va_G) (κ : Nat → ClassId) (b : Nat) (σ : Sg) (x1 : Int32) (x2 : Int32) (rr : Int32)  (h : fn_X8_heading b σ x1 x2 = some rr) : Met l yX8_heading wsX8_heading rm_X8_heading (va_Pc [.ref b, .int x1, .int x2] (fun U => KK D κ U ∧ MW D κ b σ U.heap)) (va_Qi (fun (r : Int32) (u : Sg) => r = rr ∧ u = σ) (fun u t => MW D κ b u t.heap) (sg_A b 16)) 0 0 (sg_A b 16) := by
  refine Met.ofW (cc := cX8_heading) (maxL := 4) (ret := (some .int)) (by decide) rfl ?_
  intro p e s m args below meth c s₁ B hml hv
  obtain ⟨rfl, hK, hC⟩ := hv
  have hr := B.returns
  have hlocks := B.notSynchronized
  have hl := lv_entry ([.ref b, .int x1, .int x2]) (n := 4) (Nat.le_of_ble_eq_true rfl)
  rw [lg_entry_eq]
  generalize (lg_sl ([.ref b, .int x1, .int x2]) ++ List.replicate (4 - (lg_sl ([.ref b, .int x1, .int x2])).length) Slot.unset).toArray = ls at hl ⊢
  have hl : lv_has ls 4 [(0, .ref b), (1, .int x1), (2, .int x2)] := hl
  exact w_X8_heading_B0 ⟨B.exec, B.bytes, hml, findClass_of_methodNamed B.named, atoms_spec (ws := wsX8_heading) B.pre, hK⟩ (fun v H locs pc ls hq hC hS hd => W.iret B.exec B.bytes hr (fun t ht hW => ⟨⟨v, _, rfl, ⟨Option.some.inj hq, rfl⟩, MW_e ht hC⟩, hS.F ht⟩) hS.2.2 hd) h  hl hC va_S.rf
