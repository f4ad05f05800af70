-- RecordShelf$Subfield.hasCode(C)Z
theorem dX5_hasCode_0 : decode cX5_hasCode 0 = .ok (.iload_n 1, 1) := by decide +kernel
theorem dX5_hasCode_1 : decode cX5_hasCode 1 = .ok (.bipush 42, 2) := by decide +kernel
theorem dX5_hasCode_3 : decode cX5_hasCode 3 = .ok (.if_icmp .eq 11, 3) := by decide +kernel
theorem dX5_hasCode_6 : decode cX5_hasCode 6 = .ok (.iload_n 1, 1) := by decide +kernel
theorem dX5_hasCode_7 : decode cX5_hasCode 7 = .ok (.aload_n 0, 1) := by decide +kernel
theorem dX5_hasCode_8 : decode cX5_hasCode 8 = .ok (.getfield 24, 3) := by decide +kernel
theorem dX5_hasCode_11 : decode cX5_hasCode 11 = .ok (.if_icmp .ne 7, 3) := by decide +kernel
theorem dX5_hasCode_14 : decode cX5_hasCode 14 = .ok (.iconst 1, 1) := by decide +kernel
theorem dX5_hasCode_15 : decode cX5_hasCode 15 = .ok (.goto 4, 3) := by decide +kernel
theorem dX5_hasCode_18 : decode cX5_hasCode 18 = .ok (.iconst 0, 1) := by decide +kernel
theorem dX5_hasCode_19 : decode cX5_hasCode 19 = .ok (.ireturn, 1) := by decide +kernel
def rm_X5_hasCode : Room := { frames := 0, cells := 0, slots := 0, locals := 0 }
def fn_X5_hasCode_B14 (b : Nat) (σ : Sg) : Option (Int32) :=
  some 1
set_option maxHeartbeats 4000000 in
set_option maxRecDepth 100000 in
theorem w_X5_hasCode_B14 {p : Program} {l : Launch} {e : Env} {s : State} {m : MethodId} {args : Array Value} {below : List Frame} {meth : Method} {c : Code} {Q : State → Prop} {D : va_G} {κ : Nat → ClassId} {b : Nat} {H0 : Heap} {rr : Int32} {σ : Sg} (hZ : sg_Z p c s m args D κ cX5_hasCode 2 RX5 wsX5_hasCode) (hret : ∀ (v : Int32) (H : Heap) (locs : List Loc) (pc : Nat) (ls : Array Slot), some v = some rr → narrow .boolean (.int v) = .int v → CW D κ b σ H → va_S (sg_A b 892) H0 H locs → decode cX5_hasCode pc = .ok (.ireturn, 1) → W p l e rm_X5_hasCode s m args below meth c H locs 0 0 Q (F0 m pc ls [.int v])) : ∀ {H : Heap} {locs : List Loc} {ls : Array Slot}, fn_X5_hasCode_B14 b σ = some rr → lv_has ls 2 [] → CW D κ b σ H → va_S (sg_A b 892) H0 H locs → W p l e rm_X5_hasCode s m args below meth c H locs 0 0 Q (F0 m 14 ls []) := by
  obtain ⟨hx, hb, hml, hown, hts, hK⟩ := hZ
  intro H locs ls h hl hC hS
  unfold fn_X5_hasCode_B14 at h
  refine lv_iconst (v := 1) hx hb dX5_hasCode_14 (by decide) ?_
  refine lv_goto (tgt := 19) hx hb dX5_hasCode_15 (by decide) ?_
  exact hret _ _ _ _ _ h (by decide) hC hS dX5_hasCode_19
def fn_X5_hasCode (b : Nat) (σ : Sg) (x0 : Nat) (x1 : Int32) : Option (Int32) :=
  (if x1 = 42 then
  fn_X5_hasCode_B14 b σ
  else (if x1 = (σ.1 x0 3) then
  fn_X5_hasCode_B14 b σ
  else some 0))
set_option maxHeartbeats 4000000 in
set_option maxRecDepth 100000 in
theorem w_X5_hasCode_B0 {p : Program} {l : Launch} {e : Env} {s : State} {m : MethodId} {args : Array Value} {below : List Frame} {meth : Method} {c : Code} {Q : State → Prop} {D : va_G} {κ : Nat → ClassId} {b : Nat} {H0 : Heap} {rr : Int32} {σ : Sg} (hZ : sg_Z p c s m args D κ cX5_hasCode 2 RX5 wsX5_hasCode) (hret : ∀ (v : Int32) (H : Heap) (locs : List Loc) (pc : Nat) (ls : Array Slot), some v = some rr → narrow .boolean (.int v) = .int v → CW D κ b σ H → va_S (sg_A b 892) H0 H locs → decode cX5_hasCode pc = .ok (.ireturn, 1) → W p l e rm_X5_hasCode s m args below meth c H locs 0 0 Q (F0 m pc ls [.int v])) : ∀ {x0 : Nat} {x1 : Int32} {H : Heap} {locs : List Loc} {ls : Array Slot}, fn_X5_hasCode b σ x0 x1 = some rr → is_Sub b x0 → lv_has ls 2 [(0, .ref x0), (1, .int x1)] → CW D κ b σ H → va_S (sg_A b 892) H0 H locs → W p l e rm_X5_hasCode s m args below meth c H locs 0 0 Q (F0 m 0 ls []) := by
  obtain ⟨hx, hb, hml, hown, hts, hK⟩ := hZ
  intro x0 x1 H locs ls h hx0 hl hC hS
  unfold fn_X5_hasCode at h
  refine lv_iload_n hx hb dX5_hasCode_0 rfl (lv_at hl 1 rfl) ?_
  refine lv_bipush (v := 42) hx hb dX5_hasCode_1 (by decide) ?_
  refine lv_icmp_eq (tgt := 14) hx hb dX5_hasCode_3 (by decide) (fun hc => ?_) (fun hc => ?_)
  · replace h := (if_pos hc).symm.trans h
    exact w_X5_hasCode_B14 ⟨hx, hb, hml, hown, hts, hK⟩ hret  h (lv_sub hl [] rfl) hC hS
  · replace h := (if_neg hc).symm.trans h
    refine lv_iload_n hx hb dX5_hasCode_6 rfl (lv_at hl 1 rfl) ?_
    refine lv_aload_n hx hb dX5_hasCode_7 rfl (lv_at hl 0 rfl) ?_
    refine va_get (D := D) (ci := 5) (v := .int (σ.1 x0 3)) (C := RX5) (T := TX5) (N := 4) hx hb hts (wqs inW_X5) hown hK.1 hC.1 (x0 - b) (sg_gSub hx0) rfl 3 (by decide) (hts _ (wq wt_136)) (fun _ h9 => h9) rfl dX5_hasCode_8 ?_
    refine lv_icmp_ne (tgt := 18) hx hb dX5_hasCode_11 (by decide) (fun hc => ?_) (fun hc => ?_)
    · replace h := (if_neg hc).symm.trans h
      refine lv_iconst (v := 0) hx hb dX5_hasCode_18 (by decide) ?_
      exact hret _ _ _ _ _ h (by decide) hC hS dX5_hasCode_19
    · replace h := (if_pos hc).symm.trans h
      exact w_X5_hasCode_B14 ⟨hx, hb, hml, hown, hts, hK⟩ hret  h (lv_sub hl [] rfl) hC hS
set_option maxHeartbeats 4000000 in
set_option maxRecDepth 100000 in
theorem c_X5_hasCode (l : Launch) (D : va_G) (κ : Nat → ClassId) (b : Nat) (σ : Sg) (x0 : Nat) (x1 : Int32) (rr : Int32) (hx0 : is_Sub b x0) (h : fn_X5_hasCode b σ x0 x1 = some rr) : Met l yX5_hasCode wsX5_hasCode rm_X5_hasCode (va_Pc [.ref x0, .int x1] (fun U => KK D κ U ∧ CW D κ b σ U.heap)) (va_Qi (fun (r : Int32) (u : Sg) => r = rr ∧ u = σ) (fun u t => CW D κ b u t.heap) (sg_A b 892)) 0 0 (sg_A b 892) := by
  refine Met.ofW (cc := cX5_hasCode) (maxL := 2) (ret := (some .boolean)) (by decide) rfl ?_
  intro p e s m args below meth c s₁ B hml hv
  obtain ⟨rfl, hK, hC⟩ := hv
  have hr := B.returns
  have hlocks := B.notSynchronized
  have hl := lv_entry ([.ref x0, .int x1]) (n := 2) (Nat.le_of_ble_eq_true rfl)
  rw [lg_entry_eq]
  generalize (lg_sl ([.ref x0, .int x1]) ++ List.replicate (2 - (lg_sl ([.ref x0, .int x1])).length) Slot.unset).toArray = ls at hl ⊢
  have hl : lv_has ls 2 [(0, .ref x0), (1, .int x1)] := hl
  exact w_X5_hasCode_B0 ⟨B.exec, B.bytes, hml, findClass_of_methodNamed B.named, atoms_spec (ws := wsX5_hasCode) B.pre, hK⟩ (fun v H locs pc ls hq hbo hC hS hd => W.zret B.exec B.bytes hr hbo (fun t ht hW => ⟨⟨v, _, rfl, ⟨Option.some.inj hq, rfl⟩, CW_e ht hC⟩, hS.F ht⟩) hS.2.2 hd) h hx0 hl hC va_S.rf

-- RecordShelf$Subfield.putLetters(LRecordShelf$Text;)V
theorem dX5_putLetters_0 : decode cX5_putLetters 0 = .ok (.iconst 0, 1) := by decide +kernel
theorem dX5_putLetters_1 : decode cX5_putLetters 1 = .ok (.istore_n 2, 1) := by decide +kernel
theorem dX5_putLetters_2 : decode cX5_putLetters 2 = .ok (.iload_n 2, 1) := by decide +kernel
theorem dX5_putLetters_3 : decode cX5_putLetters 3 = .ok (.aload_n 0, 1) := by decide +kernel
theorem dX5_putLetters_4 : decode cX5_putLetters 4 = .ok (.getfield 28, 3) := by decide +kernel
theorem dX5_putLetters_7 : decode cX5_putLetters 7 = .ok (.if_icmp .ge 19, 3) := by decide +kernel
theorem dX5_putLetters_10 : decode cX5_putLetters 10 = .ok (.aload_n 1, 1) := by decide +kernel
theorem dX5_putLetters_11 : decode cX5_putLetters 11 = .ok (.aload_n 0, 1) := by decide +kernel
theorem dX5_putLetters_12 : decode cX5_putLetters 12 = .ok (.getfield 9, 3) := by decide +kernel
theorem dX5_putLetters_15 : decode cX5_putLetters 15 = .ok (.iload_n 2, 1) := by decide +kernel
theorem dX5_putLetters_16 : decode cX5_putLetters 16 = .ok (.caload, 1) := by decide +kernel
theorem dX5_putLetters_17 : decode cX5_putLetters 17 = .ok (.invokevirtual 43, 3) := by decide +kernel
theorem dX5_putLetters_20 : decode cX5_putLetters 20 = .ok (.iinc 2 1, 3) := by decide +kernel
theorem dX5_putLetters_23 : decode cX5_putLetters 23 = .ok (.goto (-21), 3) := by decide +kernel
theorem dX5_putLetters_26 : decode cX5_putLetters 26 = .ok (.return_, 1) := by decide +kernel
def rm_X5_putLetters : Room := { frames := 1, cells := 0, slots := 0, locals := 21 }
def fn_X5_putLetters_B2b (b : Nat) (z2 : Sg → Nat → Int32 → Option (Sg)) (σ : Sg) (x0 : Nat) (x2 : Int32) : Option (Sg) :=
  (if ((σ.1 x0 2) : Int32) ≤ x2 then
  some σ
  else (if sg_ib x2 20 then
  ((fn_X6_add b σ (σ.1 (x0 + 1) (sg_x x2))).bind fun r1 =>
  (sg_lt (x2 + 1 : Int32) fun v2 =>
  z2 r1 x0 v2))
  else none))
def fn_X5_putLetters_B2 (b : Nat) : Nat → Sg → Nat → Int32 → Option (Sg)
  | 0 => fun _ _ _ => none
  | n + 1 => fun σ x0 x2 => fn_X5_putLetters_B2b b (fn_X5_putLetters_B2 b n) σ x0 x2
set_option maxHeartbeats 4000000 in
set_option maxRecDepth 100000 in
theorem w_X5_putLetters_B2b {p : Program} {l : Launch} {e : Env} {s : State} {m : MethodId} {args : Array Value} {below : List Frame} {meth : Method} {c : Code} {Q : State → Prop} {D : va_G} {κ : Nat → ClassId} {b : Nat} {H0 : Heap} {rr : Sg} (hZ : sg_Z p c s m args D κ cX5_putLetters 3 RX5 wsX5_putLetters) (hret : ∀ (u : Sg) (H : Heap) (locs : List Loc) (pc : Nat) (ls : Array Slot), some u = some rr → CW D κ b u H → va_S (sg_A b 892) H0 H locs → decode cX5_putLetters pc = .ok (.return_, 1) → W p l e rm_X5_putLetters s m args below meth c H locs 0 0 Q (F0 m pc ls [])) {z2 : Sg → Nat → Int32 → Option (Sg)} (hr2 : ∀ {σ : Sg} {x0 : Nat} {x2 : Int32} {H : Heap} {locs : List Loc} {ls : Array Slot}, z2 σ x0 x2 = some rr → is_Sub b x0 → lv_has ls 3 [(0, .ref x0), (1, .ref (b + 2)), (2, .int x2)] → CW D κ b σ H → va_S (sg_A b 892) H0 H locs → W p l e rm_X5_putLetters s m args below meth c H locs 0 0 Q (F0 m 2 ls [])) : ∀ {σ : Sg} {x0 : Nat} {x2 : Int32} {H : Heap} {locs : List Loc} {ls : Array Slot}, fn_X5_putLetters_B2b b z2 σ x0 x2 = some rr → is_Sub b x0 → lv_has ls 3 [(0, .ref x0), (1, .ref (b + 2)), (2, .int x2)] → CW D κ b σ H → va_S (sg_A b 892) H0 H locs → W p l e rm_X5_putLetters s m args below meth c H locs 0 0 Q (F0 m 2 ls []) := by
  obtain ⟨hx, hb, hml, hown, hts, hK⟩ := hZ
  intro σ x0 x2 H locs ls h hx0 hl hC hS
  unfold fn_X5_putLetters_B2b at h
  refine lv_iload_n hx hb dX5_putLetters_2 rfl (lv_at hl 2 rfl) ?_
  refine lv_aload_n hx hb dX5_putLetters_3 rfl (lv_at hl 0 rfl) ?_
  refine va_get (D := D) (ci := 5) (v := .int (σ.1 x0 2)) (C := RX5) (T := TX5) (N := 4) hx hb hts (wqs inW_X5) hown hK.1 hC.1 (x0 - b) (sg_gSub hx0) rfl 2 (by decide) (hts _ (wq wt_133)) (fun _ h9 => h9) rfl dX5_putLetters_4 ?_
  refine lv_icmp_ge (tgt := 26) hx hb dX5_putLetters_7 (by decide) (fun hc => ?_) (fun hc => ?_)
  · replace h := (if_pos hc).symm.trans h
    exact hret _ _ _ _ _ h hC hS dX5_putLetters_26
  · replace h := (if_neg hc).symm.trans h
    refine lv_aload_n hx hb dX5_putLetters_10 rfl (lv_at hl 1 rfl) ?_
    refine lv_aload_n hx hb dX5_putLetters_11 rfl (lv_at hl 0 rfl) ?_
    refine va_get (D := D) (ci := 5) (v := .ref (x0 + 1)) (C := RX5) (T := TX5) (N := 4) hx hb hts (wqs inW_X5) hown hK.1 hC.1 (x0 - b) (sg_gSub hx0) rfl 0 (by decide) (hts _ (wq wt_129)) (fun _ h9 => h9) rfl dX5_putLetters_12 ?_
    refine lv_iload_n hx hb dX5_putLetters_15 rfl (lv_at hl 2 rfl) ?_
    obtain ⟨hg, h⟩ := sg_gd h
    refine va_cald hx hb hK.1 hC.1 ((x0 + 1) - b) 1 (sg_gsletters hx0) rfl (sg_in hg) dX5_putLetters_16 ?_
    obtain ⟨r1, er1, h⟩ := Option.bind_eq_some_iff.mp h
    refine va_callv (va_runV (As := [.int (σ.1 (x0 + 1) (sg_x x2))]) (rest := []) ⟨hx, hb, hml, hown, hts⟩ (c_X6_add l D κ b σ (σ.1 (x0 + 1) (sg_x x2)) _ er1) (cwV 1 hts (gwV wt_536 wt_222 wt_223 wt_3 wt_224) rfl rfl rfl (by decide +kernel) ⟨Nat.le_of_ble_eq_true rfl, Nat.le_of_ble_eq_true rfl⟩) (CW_preV hK hC sg_gText rfl) rfl rfl hl.1 rfl (lv_room (Nat.le_of_ble_eq_true rfl)) dX5_putLetters_17 ⟨Nat.zero_le _, Nat.zero_le _⟩) hS (fun _ _ h => h) (fun _ h => h) (fun u t H locs ht _ hp hB _ _ hS => ?_)
    have hC : CW D κ b r1 H := CW_b hB ht hp
    obtain ⟨v2, ev2, h⟩ := sg_lte h
    refine lv_iinc (v := v2) (lv' := [(2, .int v2), (0, .ref x0), (1, .ref (b + 2))]) (k := 2) hx hb dX5_putLetters_20 hl rfl (sg_inc (by decide) ev2) (by decide) rfl (fun ls hl => ?_)
    refine lv_goto (tgt := 2) hx hb dX5_putLetters_23 (by decide) ?_
    exact hr2 h hx0 (lv_sub hl [1, 2, 0] rfl) hC hS
set_option maxHeartbeats 4000000 in
theorem w_X5_putLetters_B2 {p : Program} {l : Launch} {e : Env} {s : State} {m : MethodId} {args : Array Value} {below : List Frame} {meth : Method} {c : Code} {Q : State → Prop} {D : va_G} {κ : Nat → ClassId} {b : Nat} {H0 : Heap} {rr : Sg} (hZ : sg_Z p c s m args D κ cX5_putLetters 3 RX5 wsX5_putLetters) (hret : ∀ (u : Sg) (H : Heap) (locs : List Loc) (pc : Nat) (ls : Array Slot), some u = some rr → CW D κ b u H → va_S (sg_A b 892) H0 H locs → decode cX5_putLetters pc = .ok (.return_, 1) → W p l e rm_X5_putLetters s m args below meth c H locs 0 0 Q (F0 m pc ls [])) : ∀ n : Nat, ∀ {σ : Sg} {x0 : Nat} {x2 : Int32} {H : Heap} {locs : List Loc} {ls : Array Slot}, fn_X5_putLetters_B2 b n σ x0 x2 = some rr → is_Sub b x0 → lv_has ls 3 [(0, .ref x0), (1, .ref (b + 2)), (2, .int x2)] → CW D κ b σ H → va_S (sg_A b 892) H0 H locs → W p l e rm_X5_putLetters s m args below meth c H locs 0 0 Q (F0 m 2 ls []) := by
  intro n
  induction n with
  | zero => intro σ x0 x2 H locs ls h hx0 hl hC hS; cases (show (none : Option (Sg)) = some rr from h)
  | succ n ih =>
    intro σ x0 x2 H locs ls h hx0 hl hC hS
    exact w_X5_putLetters_B2b hZ hret ih (show fn_X5_putLetters_B2b b (fn_X5_putLetters_B2 b n) σ x0 x2 = some rr from h) hx0 hl hC hS
def fn_X5_putLetters (b : Nat) (σ : Sg) (x0 : Nat) : Option (Sg) :=
  fn_X5_putLetters_B2 b sg_N σ x0 0
set_option maxHeartbeats 4000000 in
set_option maxRecDepth 100000 in
theorem w_X5_putLetters_B0 {p : Program} {l : Launch} {e : Env} {s : State} {m : MethodId} {args : Array Value} {below : List Frame} {meth : Method} {c : Code} {Q : State → Prop} {D : va_G} {κ : Nat → ClassId} {b : Nat} {H0 : Heap} {rr : Sg} (hZ : sg_Z p c s m args D κ cX5_putLetters 3 RX5 wsX5_putLetters) (hret : ∀ (u : Sg) (H : Heap) (locs : List Loc) (pc : Nat) (ls : Array Slot), some u = some rr → CW D κ b u H → va_S (sg_A b 892) H0 H locs → decode cX5_putLetters pc = .ok (.return_, 1) → W p l e rm_X5_putLetters s m args below meth c H locs 0 0 Q (F0 m pc ls [])) : ∀ {σ : Sg} {x0 : Nat} {H : Heap} {locs : List Loc} {ls : Array Slot}, fn_X5_putLetters b σ x0 = some rr → is_Sub b x0 → lv_has ls 3 [(0, .ref x0), (1, .ref (b + 2))] → CW D κ b σ H → va_S (sg_A b 892) H0 H locs → W p l e rm_X5_putLetters s m args below meth c H locs 0 0 Q (F0 m 0 ls []) := by
  obtain ⟨hx, hb, hml, hown, hts, hK⟩ := hZ
  intro σ x0 H locs ls h hx0 hl hC hS
  unfold fn_X5_putLetters at h
  refine lv_iconst (v := 0) hx hb dX5_putLetters_0 (by decide) ?_
  refine lv_istore_n (lv' := [(2, .int 0), (0, .ref x0), (1, .ref (b + 2))]) hx hb dX5_putLetters_1 rfl hl (by decide) rfl (fun ls hl => ?_)
  exact w_X5_putLetters_B2 ⟨hx, hb, hml, hown, hts, hK⟩ hret  sg_N h hx0 (lv_sub hl [1, 2, 0] rfl) hC hS
set_option maxHeartbeats 4000000 in
set_option maxRecDepth 100000 in
theorem c_X5_putLetters (l : Launch) (D : va_G) (κ : Nat → ClassId) (b : Nat) (σ : Sg) (x0 : Nat) (rr : Sg) (hx0 : is_Sub b x0) (h : fn_X5_putLetters b σ x0 = some rr) : Met l yX5_putLetters wsX5_putLetters rm_X5_putLetters (va_Pc [.ref x0, .ref (b + 2)] (fun U => KK D κ U ∧ CW D κ b σ U.heap)) (va_Qv (fun u : Sg => u = rr) (fun u t => CW D κ b u t.heap) (sg_A b 892)) 0 0 (sg_A b 892) := by
  refine Met.ofW (cc := cX5_putLetters) (maxL := 3) (ret := none) (by decide) rfl ?_
  intro p e s m args below meth c s₁ B hml hv
  obtain ⟨rfl, hK, hC⟩ := hv
  have hr := B.returns
  have hlocks := B.notSynchronized
  have hl := lv_entry ([.ref x0, .ref (b + 2)]) (n := 3) (Nat.le_of_ble_eq_true rfl)
  rw [lg_entry_eq]
  generalize (lg_sl ([.ref x0, .ref (b + 2)]) ++ List.replicate (3 - (lg_sl ([.ref x0, .ref (b + 2)])).length) Slot.unset).toArray = ls at hl ⊢
  have hl : lv_has ls 3 [(0, .ref x0), (1, .ref (b + 2))] := hl
  exact w_X5_putLetters_B0 ⟨B.exec, B.bytes, hml, findClass_of_methodNamed B.named, atoms_spec (ws := wsX5_putLetters) B.pre, hK⟩ (fun u H locs pc ls hq hC hS hd => W.vret B.exec B.bytes hr (fun t ht hW => ⟨⟨_, rfl, Option.some.inj hq, CW_e ht hC⟩, hS.F ht⟩) hS.2.2 hd) h hx0 hl hC va_S.rf

-- RecordShelf$Subfield.begin(C)V
theorem dX5_begin_0 : decode cX5_begin 0 = .ok (.aload_n 0, 1) := by decide +kernel
theorem dX5_begin_1 : decode cX5_begin 1 = .ok (.iload_n 1, 1) := by decide +kernel
theorem dX5_begin_2 : decode cX5_begin 2 = .ok (.putfield 24, 3) := by decide +kernel
theorem dX5_begin_5 : decode cX5_begin 5 = .ok (.aload_n 0, 1) := by decide +kernel
theorem dX5_begin_6 : decode cX5_begin 6 = .ok (.iconst 0, 1) := by decide +kernel
theorem dX5_begin_7 : decode cX5_begin 7 = .ok (.putfield 28, 3) := by decide +kernel
theorem dX5_begin_10 : decode cX5_begin 10 = .ok (.aload_n 0, 1) := by decide +kernel
theorem dX5_begin_11 : decode cX5_begin 11 = .ok (.getfield 20, 3) := by decide +kernel
theorem dX5_begin_14 : decode cX5_begin 14 = .ok (.invokevirtual 32, 3) := by decide +kernel
theorem dX5_begin_17 : decode cX5_begin 17 = .ok (.return_, 1) := by decide +kernel
def rm_X5_begin : Room := { frames := 1, cells := 0, slots := 0, locals := 20 }
def fn_X5_begin (b : Nat) (σ : Sg) (x0 : Nat) (x1 : Int32) : Option (Sg) :=
  (if sg_ic x1 then
  (sg_lt (sg_w σ x0 3 x1) fun σ1 =>
  (sg_lt (sg_w σ1 x0 2 0) fun σ2 =>
  ((fn_X3_clear b σ2 (x0 + 2)).bind fun r3 =>
  some r3)))
  else none)
set_option maxHeartbeats 4000000 in
set_option maxRecDepth 100000 in
theorem w_X5_begin_B0 {p : Program} {l : Launch} {e : Env} {s : State} {m : MethodId} {args : Array Value} {below : List Frame} {meth : Method} {c : Code} {Q : State → Prop} {D : va_G} {κ : Nat → ClassId} {b : Nat} {H0 : Heap} {rr : Sg} (hZ : sg_Z p c s m args D κ cX5_begin 2 RX5 wsX5_begin) (hret : ∀ (u : Sg) (H : Heap) (locs : List Loc) (pc : Nat) (ls : Array Slot), some u = some rr → CW D κ b u H → va_S (sg_A b 892) H0 H locs → decode cX5_begin pc = .ok (.return_, 1) → W p l e rm_X5_begin s m args below meth c H locs 0 0 Q (F0 m pc ls [])) : ∀ {σ : Sg} {x0 : Nat} {x1 : Int32} {H : Heap} {locs : List Loc} {ls : Array Slot}, fn_X5_begin b σ x0 x1 = some rr → is_Sub b x0 → lv_has ls 2 [(0, .ref x0), (1, .int x1)] → CW D κ b σ H → va_S (sg_A b 892) H0 H locs → W p l e rm_X5_begin s m args below meth c H locs 0 0 Q (F0 m 0 ls []) := by
  obtain ⟨hx, hb, hml, hown, hts, hK⟩ := hZ
  intro σ x0 x1 H locs ls h hx0 hl hC hS
  unfold fn_X5_begin at h
  refine lv_aload_n hx hb dX5_begin_0 rfl (lv_at hl 0 rfl) ?_
  refine lv_iload_n hx hb dX5_begin_1 rfl (lv_at hl 1 rfl) ?_
  obtain ⟨hg, h⟩ := sg_gd h
  refine va_put (D := D) (ci := 5) (v := .int x1) (ty := .char) (C := RX5) (T := TX5) (N := 4) hx hb hts (wqs inW_X5) tyX5 tyX5_ok nmX5 hown hK.1 hC.1 sg_D hS (x0 - b) (sg_gSub hx0) rfl 3 (by decide) (hts _ (wq wt_136)) (fun _ h9 => h9) rfl (by decide +kernel) (sg_cn hg) (sg_cf hg) (Nat.le_of_ble_eq_true rfl) dX5_begin_2 (fun H locs hP _ hS => ?_)
  obtain ⟨σ1, eσ1, h⟩ := sg_lte h
  have hC : CW D κ b σ1 H := eσ1 ▸ CW_put (k := 3) (v := x1) hC (sg_aSub hx0) (sg_ySub hx0 _ _) hP
  refine lv_aload_n hx hb dX5_begin_5 rfl (lv_at hl 0 rfl) ?_
  refine lv_iconst (v := 0) hx hb dX5_begin_6 (by decide) ?_
  refine va_put (D := D) (ci := 5) (v := .int 0) (ty := .int) (C := RX5) (T := TX5) (N := 4) hx hb hts (wqs inW_X5) tyX5 tyX5_ok nmX5 hown hK.1 hC.1 sg_D hS (x0 - b) (sg_gSub hx0) rfl 2 (by decide) (hts _ (wq wt_133)) (fun _ h9 => h9) rfl (by decide +kernel) rfl rfl (Nat.le_of_ble_eq_true rfl) dX5_begin_7 (fun H locs hP _ hS => ?_)
  obtain ⟨σ2, eσ2, h⟩ := sg_lte h
  have hC : CW D κ b σ2 H := eσ2 ▸ CW_put (k := 2) (v := 0) hC (sg_aSub hx0) (sg_ySub hx0 _ _) hP
  refine lv_aload_n hx hb dX5_begin_10 rfl (lv_at hl 0 rfl) ?_
  refine va_get (D := D) (ci := 5) (v := .ref (x0 + 2)) (C := RX5) (T := TX5) (N := 4) hx hb hts (wqs inW_X5) hown hK.1 hC.1 (x0 - b) (sg_gSub hx0) rfl 1 (by decide) (hts _ (wq wt_130)) (fun _ h9 => h9) rfl dX5_begin_11 ?_
  obtain ⟨r3, er3, h⟩ := Option.bind_eq_some_iff.mp h
  refine va_callv (va_runV (As := []) (rest := []) ⟨hx, hb, hml, hown, hts⟩ (c_X3_clear l D κ b σ2 (x0 + 2) _ (sg_kO hx0) er3) (cwV 0 hts (gwV wt_382 wt_383 wt_384 wt_5 wt_385) rfl rfl rfl (by decide +kernel) ⟨Nat.le_of_ble_eq_true rfl, Nat.le_of_ble_eq_true rfl⟩) (CW_preV hK hC (sg_gKey (sg_kO hx0)) rfl) rfl rfl hl.1 rfl (lv_room (Nat.le_of_ble_eq_true rfl)) dX5_begin_14 ⟨Nat.zero_le _, Nat.zero_le _⟩) hS (fun _ _ h => h) (fun _ h => h) (fun u t H locs ht _ hp hB _ _ hS => ?_)
  have hC : CW D κ b r3 H := CW_b hB ht hp
  exact hret _ _ _ _ _ h hC hS dX5_begin_17
set_option maxHeartbeats 4000000 in
set_option maxRecDepth 100000 in
theorem c_X5_begin (l : Launch) (D : va_G) (κ : Nat → ClassId) (b : Nat) (σ : Sg) (x0 : Nat) (x1 : Int32) (rr : Sg) (hx0 : is_Sub b x0) (h : fn_X5_begin b σ x0 x1 = some rr) : Met l yX5_begin wsX5_begin rm_X5_begin (va_Pc [.ref x0, .int x1] (fun U => KK D κ U ∧ CW D κ b σ U.heap)) (va_Qv (fun u : Sg => u = rr) (fun u t => CW D κ b u t.heap) (sg_A b 892)) 0 0 (sg_A b 892) := by
  refine Met.ofW (cc := cX5_begin) (maxL := 2) (ret := none) (by decide) rfl ?_
  intro p e s m args below meth c s₁ B hml hv
  obtain ⟨rfl, hK, hC⟩ := hv
  have hr := B.returns
  have hlocks := B.notSynchronized
  have hl := lv_entry ([.ref x0, .int x1]) (n := 2) (Nat.le_of_ble_eq_true rfl)
  rw [lg_entry_eq]
  generalize (lg_sl ([.ref x0, .int x1]) ++ List.replicate (2 - (lg_sl ([.ref x0, .int x1])).length) Slot.unset).toArray = ls at hl ⊢
  have hl : lv_has ls 2 [(0, .ref x0), (1, .int x1)] := hl
  exact w_X5_begin_B0 ⟨B.exec, B.bytes, hml, findClass_of_methodNamed B.named, atoms_spec (ws := wsX5_begin) B.pre, hK⟩ (fun u H locs pc ls hq hC hS hd => W.vret B.exec B.bytes hr (fun t ht hW => ⟨⟨_, rfl, Option.some.inj hq, CW_e ht hC⟩, hS.F ht⟩) hS.2.2 hd) h hx0 hl hC va_S.rf

-- RecordShelf$Subfield.isFull()Z
theorem dX5_isFull_0 : decode cX5_isFull 0 = .ok (.aload_n 0, 1) := by decide +kernel
theorem dX5_isFull_1 : decode cX5_isFull 1 = .ok (.getfield 28, 3) := by decide +kernel
theorem dX5_isFull_4 : decode cX5_isFull 4 = .ok (.aload_n 0, 1) := by decide +kernel
theorem dX5_isFull_5 : decode cX5_isFull 5 = .ok (.getfield 9, 3) := by decide +kernel
theorem dX5_isFull_8 : decode cX5_isFull 8 = .ok (.arraylength, 1) := by decide +kernel
theorem dX5_isFull_9 : decode cX5_isFull 9 = .ok (.if_icmp .lt 7, 3) := by decide +kernel
theorem dX5_isFull_12 : decode cX5_isFull 12 = .ok (.iconst 1, 1) := by decide +kernel
theorem dX5_isFull_13 : decode cX5_isFull 13 = .ok (.goto 4, 3) := by decide +kernel
theorem dX5_isFull_16 : decode cX5_isFull 16 = .ok (.iconst 0, 1) := by decide +kernel
theorem dX5_isFull_17 : decode cX5_isFull 17 = .ok (.ireturn, 1) := by decide +kernel
def rm_X5_isFull : Room := { frames := 0, cells := 0, slots := 0, locals := 0 }
def fn_X5_isFull (b : Nat) (σ : Sg) (x0 : Nat) : Option (Int32) :=
  (if (σ.1 x0 2) < 20 then
  some 0
  else some 1)
set_option maxHeartbeats 4000000 in
set_option maxRecDepth 100000 in
theorem w_X5_isFull_B0 {p : Program} {l : Launch} {e : Env} {s : State} {m : MethodId} {args : Array Value} {below : List Frame} {meth : Method} {c : Code} {Q : State → Prop} {D : va_G} {κ : Nat → ClassId} {b : Nat} {H0 : Heap} {rr : Int32} {σ : Sg} (hZ : sg_Z p c s m args D κ cX5_isFull 1 RX5 wsX5_isFull) (hret : ∀ (v : Int32) (H : Heap) (locs : List Loc) (pc : Nat) (ls : Array Slot), some v = some rr → narrow .boolean (.int v) = .int v → CW D κ b σ H → va_S (sg_A b 892) H0 H locs → decode cX5_isFull pc = .ok (.ireturn, 1) → W p l e rm_X5_isFull s m args below meth c H locs 0 0 Q (F0 m pc ls [.int v])) : ∀ {x0 : Nat} {H : Heap} {locs : List Loc} {ls : Array Slot}, fn_X5_isFull b σ x0 = some rr → is_Sub b x0 → lv_has ls 1 [(0, .ref x0)] → CW D κ b σ H → va_S (sg_A b 892) H0 H locs → W p l e rm_X5_isFull s m args below meth c H locs 0 0 Q (F0 m 0 ls []) := by
  obtain ⟨hx, hb, hml, hown, hts, hK⟩ := hZ
  intro x0 H locs ls h hx0 hl hC hS
  unfold fn_X5_isFull at h
  refine lv_aload_n hx hb dX5_isFull_0 rfl (lv_at hl 0 rfl) ?_
  refine va_get (D := D) (ci := 5) (v := .int (σ.1 x0 2)) (C := RX5) (T := TX5) (N := 4) hx hb hts (wqs inW_X5) hown hK.1 hC.1 (x0 - b) (sg_gSub hx0) rfl 2 (by decide) (hts _ (wq wt_133)) (fun _ h9 => h9) rfl dX5_isFull_1 ?_
  refine lv_aload_n hx hb dX5_isFull_4 rfl (lv_at hl 0 rfl) ?_
  refine va_get (D := D) (ci := 5) (v := .ref (x0 + 1)) (C := RX5) (T := TX5) (N := 4) hx hb hts (wqs inW_X5) hown hK.1 hC.1 (x0 - b) (sg_gSub hx0) rfl 0 (by decide) (hts _ (wq wt_129)) (fun _ h9 => h9) rfl dX5_isFull_5 ?_
  refine va_alen (v := 20) hx hb hK.1 hC.1 ((x0 + 1) - b) 1 (sg_gsletters hx0) rfl rfl dX5_isFull_8 ?_
  refine lv_icmp_lt (tgt := 16) hx hb dX5_isFull_9 (by decide) (fun hc => ?_) (fun hc => ?_)
  · replace h := (if_pos hc).symm.trans h
    refine lv_iconst (v := 0) hx hb dX5_isFull_16 (by decide) ?_
    exact hret _ _ _ _ _ h (by decide) hC hS dX5_isFull_17
  · replace h := (if_neg hc).symm.trans h
    refine lv_iconst (v := 1) hx hb dX5_isFull_12 (by decide) ?_
    refine lv_goto (tgt := 17) hx hb dX5_isFull_13 (by decide) ?_
    exact hret _ _ _ _ _ h (by decide) hC hS dX5_isFull_17
set_option maxHeartbeats 4000000 in
set_option maxRecDepth 100000 in
theorem c_X5_isFull (l : Launch) (D : va_G) (κ : Nat → ClassId) (b : Nat) (σ : Sg) (x0 : Nat) (rr : Int32) (hx0 : is_Sub b x0) (h : fn_X5_isFull b σ x0 = some rr) : Met l yX5_isFull wsX5_isFull rm_X5_isFull (va_Pc [.ref x0] (fun U => KK D κ U ∧ CW D κ b σ U.heap)) (va_Qi (fun (r : Int32) (u : Sg) => r = rr ∧ u = σ) (fun u t => CW D κ b u t.heap) (sg_A b 892)) 0 0 (sg_A b 892) := by
  refine Met.ofW (cc := cX5_isFull) (maxL := 1) (ret := (some .boolean)) (by decide) rfl ?_
  intro p e s m args below meth c s₁ B hml hv
  obtain ⟨rfl, hK, hC⟩ := hv
  have hr := B.returns
  have hlocks := B.notSynchronized
  have hl := lv_entry ([.ref x0]) (n := 1) (Nat.le_of_ble_eq_true rfl)
  rw [lg_entry_eq]
  generalize (lg_sl ([.ref x0]) ++ List.replicate (1 - (lg_sl ([.ref x0])).length) Slot.unset).toArray = ls at hl ⊢
  have hl : lv_has ls 1 [(0, .ref x0)] := hl
  exact w_X5_isFull_B0 ⟨B.exec, B.bytes, hml, findClass_of_methodNamed B.named, atoms_spec (ws := wsX5_isFull) B.pre, hK⟩ (fun v H locs pc ls hq hbo hC hS hd => W.zret B.exec B.bytes hr hbo (fun t ht hW => ⟨⟨v, _, rfl, ⟨Option.some.inj hq, rfl⟩, CW_e ht hC⟩, hS.F ht⟩) hS.2.2 hd) h hx0 hl hC va_S.rf

-- RecordShelf$Subfield.add(C)V
theorem dX5_add_0 : decode cX5_add 0 = .ok (.aload_n 0, 1) := by decide +kernel
theorem dX5_add_1 : decode cX5_add 1 = .ok (.invokevirtual 35, 3) := by decide +kernel
theorem dX5_add_4 : decode cX5_add 4 = .ok (.ifCond .ne 31, 3) := by decide +kernel
theorem dX5_add_7 : decode cX5_add 7 = .ok (.aload_n 0, 1) := by decide +kernel
theorem dX5_add_8 : decode cX5_add 8 = .ok (.getfield 9, 3) := by decide +kernel
theorem dX5_add_11 : decode cX5_add 11 = .ok (.aload_n 0, 1) := by decide +kernel
theorem dX5_add_12 : decode cX5_add 12 = .ok (.getfield 28, 3) := by decide +kernel
theorem dX5_add_15 : decode cX5_add 15 = .ok (.iload_n 1, 1) := by decide +kernel
theorem dX5_add_16 : decode cX5_add 16 = .ok (.castore, 1) := by decide +kernel
theorem dX5_add_17 : decode cX5_add 17 = .ok (.aload_n 0, 1) := by decide +kernel
theorem dX5_add_18 : decode cX5_add 18 = .ok (.dup, 1) := by decide +kernel
theorem dX5_add_19 : decode cX5_add 19 = .ok (.getfield 28, 3) := by decide +kernel
theorem dX5_add_22 : decode cX5_add 22 = .ok (.iconst 1, 1) := by decide +kernel
theorem dX5_add_23 : decode cX5_add 23 = .ok (.iadd, 1) := by decide +kernel
theorem dX5_add_24 : decode cX5_add 24 = .ok (.putfield 28, 3) := by decide +kernel
theorem dX5_add_27 : decode cX5_add 27 = .ok (.aload_n 0, 1) := by decide +kernel
theorem dX5_add_28 : decode cX5_add 28 = .ok (.getfield 20, 3) := by decide +kernel
theorem dX5_add_31 : decode cX5_add 31 = .ok (.iload_n 1, 1) := by decide +kernel
theorem dX5_add_32 : decode cX5_add 32 = .ok (.invokevirtual 39, 3) := by decide +kernel
theorem dX5_add_35 : decode cX5_add 35 = .ok (.return_, 1) := by decide +kernel
def rm_X5_add : Room := { frames := 2, cells := 0, slots := 0, locals := 43 }
def fn_X5_add (b : Nat) (σ : Sg) (x0 : Nat) (x1 : Int32) : Option (Sg) :=
  ((fn_X5_isFull b σ x0).bind fun r1 =>
  (if r1 = 0 then
  (if sg_ib (σ.1 x0 2) 20 then
  (sg_lt (sg_w σ (x0 + 1) (sg_x (σ.1 x0 2)) (vp_nar .char x1)) fun σ2 =>
  (sg_lt (sg_w σ2 x0 2 ((σ2.1 x0 2) + 1)) fun σ3 =>
  ((fn_X3_take b σ3 (x0 + 2) x1).bind fun r4 =>
  some r4)))
  else none)
  else some σ))
set_option maxHeartbeats 4000000 in
set_option maxRecDepth 100000 in
theorem w_X5_add_B0 {p : Program} {l : Launch} {e : Env} {s : State} {m : MethodId} {args : Array Value} {below : List Frame} {meth : Method} {c : Code} {Q : State → Prop} {D : va_G} {κ : Nat → ClassId} {b : Nat} {H0 : Heap} {rr : Sg} (hZ : sg_Z p c s m args D κ cX5_add 2 RX5 wsX5_add) (hret : ∀ (u : Sg) (H : Heap) (locs : List Loc) (pc : Nat) (ls : Array Slot), some u = some rr → CW D κ b u H → va_S (sg_A b 892) H0 H locs → decode cX5_add pc = .ok (.return_, 1) → W p l e rm_X5_add s m args below meth c H locs 0 0 Q (F0 m pc ls [])) : ∀ {σ : Sg} {x0 : Nat} {x1 : Int32} {H : Heap} {locs : List Loc} {ls : Array Slot}, fn_X5_add b σ x0 x1 = some rr → is_Sub b x0 → lv_has ls 2 [(0, .ref x0), (1, .int x1)] → CW D κ b σ H → va_S (sg_A b 892) H0 H locs → W p l e rm_X5_add s m args below meth c H locs 0 0 Q (F0 m 0 ls []) := by
  obtain ⟨hx, hb, hml, hown, hts, hK⟩ := hZ
  intro σ x0 x1 H locs ls h hx0 hl hC hS
  unfold fn_X5_add at h
  refine lv_aload_n hx hb dX5_add_0 rfl (lv_at hl 0 rfl) ?_
  obtain ⟨r1, er1, h⟩ := Option.bind_eq_some_iff.mp h
  refine va_calli (va_runV (As := []) (rest := []) ⟨hx, hb, hml, hown, hts⟩ (c_X5_isFull l D κ b σ x0 _ hx0 er1) (cwV 0 hts (gwV wt_398 wt_391 wt_392 wt_8 wt_393) rfl rfl rfl (by decide +kernel) ⟨Nat.le_of_ble_eq_true rfl, Nat.le_of_ble_eq_true rfl⟩) (CW_preV hK hC (sg_gSub hx0) rfl) rfl rfl hl.1 rfl (lv_room (Nat.le_of_ble_eq_true rfl)) dX5_add_1 ⟨Nat.zero_le _, Nat.zero_le _⟩) hS (fun _ _ h => h) (fun _ h => h) (fun r u t H locs ht _ hp hB _ _ hS => ?_)
  refine sg_topi hp.1 ?_
  have hC : CW D κ b σ H := CW_b hB ht hp.2
  refine lv_if_ne (tgt := 35) hx hb dX5_add_4 (by decide) (fun hc => ?_) (fun hc => ?_)
  · replace h := (if_neg hc).symm.trans h
    exact hret _ _ _ _ _ h hC hS dX5_add_35
  · replace h := (if_pos hc).symm.trans h
    refine lv_aload_n hx hb dX5_add_7 rfl (lv_at hl 0 rfl) ?_
    refine va_get (D := D) (ci := 5) (v := .ref (x0 + 1)) (C := RX5) (T := TX5) (N := 4) hx hb hts (wqs inW_X5) hown hK.1 hC.1 (x0 - b) (sg_gSub hx0) rfl 0 (by decide) (hts _ (wq wt_129)) (fun _ h9 => h9) rfl dX5_add_8 ?_
    refine lv_aload_n hx hb dX5_add_11 rfl (lv_at hl 0 rfl) ?_
    refine va_get (D := D) (ci := 5) (v := .int (σ.1 x0 2)) (C := RX5) (T := TX5) (N := 4) hx hb hts (wqs inW_X5) hown hK.1 hC.1 (x0 - b) (sg_gSub hx0) rfl 2 (by decide) (hts _ (wq wt_133)) (fun _ h9 => h9) rfl dX5_add_12 ?_
    refine lv_iload_n hx hb dX5_add_15 rfl (lv_at hl 1 rfl) ?_
    obtain ⟨hg, h⟩ := sg_gd h
    refine va_cast hx hb hK.1 hC.1 sg_D hS ((x0 + 1) - b) 1 (sg_gsletters hx0) rfl (sg_in hg) dX5_add_16 (fun H locs hP _ hS => ?_)
    obtain ⟨σ2, eσ2, h⟩ := sg_lte h
    have hC : CW D κ b σ2 H := eσ2 ▸ CW_put (k := sg_x (σ.1 x0 2)) (v := (vp_nar .char x1)) hC (sg_asletters hx0) (sg_ysletters hx0 _ _) hP
    refine lv_aload_n hx hb dX5_add_17 rfl (lv_at hl 0 rfl) ?_
    refine lv_dup hx hb dX5_add_18 rfl ?_
    refine va_get (D := D) (ci := 5) (v := .int (σ2.1 x0 2)) (C := RX5) (T := TX5) (N := 4) hx hb hts (wqs inW_X5) hown hK.1 hC.1 (x0 - b) (sg_gSub hx0) rfl 2 (by decide) (hts _ (wq wt_133)) (fun _ h9 => h9) rfl dX5_add_19 ?_
    refine lv_iconst (v := 1) hx hb dX5_add_22 (by decide) ?_
    refine lv_iadd hx hb dX5_add_23 ?_
    refine va_put (D := D) (ci := 5) (v := .int ((σ2.1 x0 2) + 1)) (ty := .int) (C := RX5) (T := TX5) (N := 4) hx hb hts (wqs inW_X5) tyX5 tyX5_ok nmX5 hown hK.1 hC.1 sg_D hS (x0 - b) (sg_gSub hx0) rfl 2 (by decide) (hts _ (wq wt_133)) (fun _ h9 => h9) rfl (by decide +kernel) rfl rfl (Nat.le_of_ble_eq_true rfl) dX5_add_24 (fun H locs hP _ hS => ?_)
    obtain ⟨σ3, eσ3, h⟩ := sg_lte h
    have hC : CW D κ b σ3 H := eσ3 ▸ CW_put (k := 2) (v := ((σ2.1 x0 2) + 1)) hC (sg_aSub hx0) (sg_ySub hx0 _ _) hP
    refine lv_aload_n hx hb dX5_add_27 rfl (lv_at hl 0 rfl) ?_
    refine va_get (D := D) (ci := 5) (v := .ref (x0 + 2)) (C := RX5) (T := TX5) (N := 4) hx hb hts (wqs inW_X5) hown hK.1 hC.1 (x0 - b) (sg_gSub hx0) rfl 1 (by decide) (hts _ (wq wt_130)) (fun _ h9 => h9) rfl dX5_add_28 ?_
    refine lv_iload_n hx hb dX5_add_31 rfl (lv_at hl 1 rfl) ?_
    obtain ⟨r4, er4, h⟩ := Option.bind_eq_some_iff.mp h
    refine va_callv (va_runV (As := [.int x1]) (rest := []) ⟨hx, hb, hml, hown, hts⟩ (c_X3_take l D κ b σ3 (x0 + 2) x1 _ (sg_kO hx0) er4) (cwV 1 hts (gwV wt_399 wt_400 wt_401 wt_5 wt_402) rfl rfl rfl (by decide +kernel) ⟨Nat.le_of_ble_eq_true rfl, Nat.le_of_ble_eq_true rfl⟩) (CW_preV hK hC (sg_gKey (sg_kO hx0)) rfl) rfl rfl hl.1 rfl (lv_room (Nat.le_of_ble_eq_true rfl)) dX5_add_32 ⟨Nat.zero_le _, Nat.zero_le _⟩) hS (fun _ _ h => h) (fun _ h => h) (fun u t H locs ht _ hp hB _ _ hS => ?_)
    have hC : CW D κ b r4 H := CW_b hB ht hp
    exact hret _ _ _ _ _ h hC hS dX5_add_35
set_option maxHeartbeats 4000000 in
set_option maxRecDepth 100000 in
theorem c_X5_add (l : Launch) (D : va_G) (κ : Nat → ClassId) (b : Nat) (σ : Sg) (x0 : Nat) (x1 : Int32) (rr : Sg) (hx0 : is_Sub b x0) (h : fn_X5_add b σ x0 x1 = some rr) : Met l yX5_add wsX5_add rm_X5_add (va_Pc [.ref x0, .int x1] (fun U => KK D κ U ∧ CW D κ b σ U.heap)) (va_Qv (fun u : Sg => u = rr) (fun u t => CW D κ b u t.heap) (sg_A b 892)) 0 0 (sg_A b 892) := by
  refine Met.ofW (cc := cX5_add) (maxL := 2) (ret := none) (by decide) rfl ?_
  intro p e s m args below meth c s₁ B hml hv
  obtain ⟨rfl, hK, hC⟩ := hv
  have hr := B.returns
  have hlocks := B.notSynchronized
  have hl := lv_entry ([.ref x0, .int x1]) (n := 2) (Nat.le_of_ble_eq_true rfl)
  rw [lg_entry_eq]
  generalize (lg_sl ([.ref x0, .int x1]) ++ List.replicate (2 - (lg_sl ([.ref x0, .int x1])).length) Slot.unset).toArray = ls at hl ⊢
  have hl : lv_has ls 2 [(0, .ref x0), (1, .int x1)] := hl
  exact w_X5_add_B0 ⟨B.exec, B.bytes, hml, findClass_of_methodNamed B.named, atoms_spec (ws := wsX5_add) B.pre, hK⟩ (fun u H locs pc ls hq hC hS hd => W.vret B.exec B.bytes hr (fun t ht hW => ⟨⟨_, rfl, Option.some.inj hq, CW_e ht hC⟩, hS.F ht⟩) hS.2.2 hd) h hx0 hl hC va_S.rf

-- RecordShelf$Subfield.codeAt(I)I
theorem dX5_codeAt_0 : decode cX5_codeAt 0 = .ok (.iload_n 1, 1) := by decide +kernel
theorem dX5_codeAt_1 : decode cX5_codeAt 1 = .ok (.ifCond .lt 20, 3) := by decide +kernel
theorem dX5_codeAt_4 : decode cX5_codeAt 4 = .ok (.iload_n 1, 1) := by decide +kernel
theorem dX5_codeAt_5 : decode cX5_codeAt 5 = .ok (.aload_n 0, 1) := by decide +kernel
theorem dX5_codeAt_6 : decode cX5_codeAt 6 = .ok (.getfield 28, 3) := by decide +kernel
theorem dX5_codeAt_9 : decode cX5_codeAt 9 = .ok (.if_icmp .ge 12, 3) := by decide +kernel
theorem dX5_codeAt_12 : decode cX5_codeAt 12 = .ok (.aload_n 0, 1) := by decide +kernel
theorem dX5_codeAt_13 : decode cX5_codeAt 13 = .ok (.getfield 9, 3) := by decide +kernel
theorem dX5_codeAt_16 : decode cX5_codeAt 16 = .ok (.iload_n 1, 1) := by decide +kernel
theorem dX5_codeAt_17 : decode cX5_codeAt 17 = .ok (.caload, 1) := by decide +kernel
theorem dX5_codeAt_18 : decode cX5_codeAt 18 = .ok (.goto 4, 3) := by decide +kernel
theorem dX5_codeAt_21 : decode cX5_codeAt 21 = .ok (.iconst (-1), 1) := by decide +kernel
theorem dX5_codeAt_22 : decode cX5_codeAt 22 = .ok (.ireturn, 1) := by decide +kernel
def rm_X5_codeAt : Room := { frames := 0, cells := 0, slots := 0, locals := 0 }
def fn_X5_codeAt (b : Nat) (σ : Sg) (x0 : Nat) (x1 : Int32) : Option (Int32) :=
  (if x1 < 0 then
  some (-1)
  else (if ((σ.1 x0 2) : Int32) ≤ x1 then
  some (-1)
  else (if sg_ib x1 20 then
  some (σ.1 (x0 + 1) (sg_x x1))
  else none)))
set_option maxHeartbeats 4000000 in
set_option maxRecDepth 100000 in
theorem w_X5_codeAt_B0 {p : Program} {l : Launch} {e : Env} {s : State} {m : MethodId} {args : Array Value} {below : List Frame} {meth : Method} {c : Code} {Q : State → Prop} {D : va_G} {κ : Nat → ClassId} {b : Nat} {H0 : Heap} {rr : Int32} {σ : Sg} (hZ : sg_Z p c s m args D κ cX5_codeAt 2 RX5 wsX5_codeAt) (hret : ∀ (v : Int32) (H : Heap) (locs : List Loc) (pc : Nat) (ls : Array Slot), some v = some rr → CW D κ b σ H → va_S (sg_A b 892) H0 H locs → decode cX5_codeAt pc = .ok (.ireturn, 1) → W p l e rm_X5_codeAt s m args below meth c H locs 0 0 Q (F0 m pc ls [.int v])) : ∀ {x0 : Nat} {x1 : Int32} {H : Heap} {locs : List Loc} {ls : Array Slot}, fn_X5_codeAt b σ x0 x1 = some rr → is_Sub b x0 → lv_has ls 2 [(0, .ref x0), (1, .int x1)] → CW D κ b σ H → va_S (sg_A b 892) H0 H locs → W p l e rm_X5_codeAt s m args below meth c H locs 0 0 Q (F0 m 0 ls []) := by
  obtain ⟨hx, hb, hml, hown, hts, hK⟩ := hZ
  intro x0 x1 H locs ls h hx0 hl hC hS
  unfold fn_X5_codeAt at h
  refine lv_iload_n hx hb dX5_codeAt_0 rfl (lv_at hl 1 rfl) ?_
  refine lv_if_lt (tgt := 21) hx hb dX5_codeAt_1 (by decide) (fun hc => ?_) (fun hc => ?_)
  · replace h := (if_pos hc).symm.trans h
    refine lv_iconst (v := (-1)) hx hb dX5_codeAt_21 (by decide) ?_
    exact hret _ _ _ _ _ h hC hS dX5_codeAt_22
  · replace h := (if_neg hc).symm.trans h
    refine lv_iload_n hx hb dX5_codeAt_4 rfl (lv_at hl 1 rfl) ?_
    refine lv_aload_n hx hb dX5_codeAt_5 rfl (lv_at hl 0 rfl) ?_
    refine va_get (D := D) (ci := 5) (v := .int (σ.1 x0 2)) (C := RX5) (T := TX5) (N := 4) hx hb hts (wqs inW_X5) hown hK.1 hC.1 (x0 - b) (sg_gSub hx0) rfl 2 (by decide) (hts _ (wq wt_133)) (fun _ h9 => h9) rfl dX5_codeAt_6 ?_
    refine lv_icmp_ge (tgt := 21) hx hb dX5_codeAt_9 (by decide) (fun hc => ?_) (fun hc => ?_)
    · replace h := (if_pos hc).symm.trans h
      refine lv_iconst (v := (-1)) hx hb dX5_codeAt_21 (by decide) ?_
      exact hret _ _ _ _ _ h hC hS dX5_codeAt_22
    · replace h := (if_neg hc).symm.trans h
      refine lv_aload_n hx hb dX5_codeAt_12 rfl (lv_at hl 0 rfl) ?_
      refine va_get (D := D) (ci := 5) (v := .ref (x0 + 1)) (C := RX5) (T := TX5) (N := 4) hx hb hts (wqs inW_X5) hown hK.1 hC.1 (x0 - b) (sg_gSub hx0) rfl 0 (by decide) (hts _ (wq wt_129)) (fun _ h9 => h9) rfl dX5_codeAt_13 ?_
      refine lv_iload_n hx hb dX5_codeAt_16 rfl (lv_at hl 1 rfl) ?_
      obtain ⟨hg, h⟩ := sg_gd h
      refine va_cald hx hb hK.1 hC.1 ((x0 + 1) - b) 1 (sg_gsletters hx0) rfl (sg_in hg) dX5_codeAt_17 ?_
      refine lv_goto (tgt := 22) hx hb dX5_codeAt_18 (by decide) ?_
      exact hret _ _ _ _ _ h hC hS dX5_codeAt_22
set_option maxHeartbeats 4000000 in
set_option maxRecDepth 100000 in
theorem c_X5_codeAt (l : Launch) (D : va_G) (κ : Nat → ClassId) (b : Nat) (σ : Sg) (x0 : Nat) (x1 : Int32) (rr : Int32) (hx0 : is_Sub b x0) (h : fn_X5_codeAt b σ x0 x1 = some rr) : Met l yX5_codeAt wsX5_codeAt rm_X5_codeAt (va_Pc [.ref x0, .int x1] (fun U => KK D κ U ∧ CW D κ b σ U.heap)) (va_Qi (fun (r : Int32) (u : Sg) => r = rr ∧ u = σ) (fun u t => CW D κ b u t.heap) (sg_A b 892)) 0 0 (sg_A b 892) := by
  refine Met.ofW (cc := cX5_codeAt) (maxL := 2) (ret := (some .int)) (by decide) rfl ?_
  intro p e s m args below meth c s₁ B hml hv
  obtain ⟨rfl, hK, hC⟩ := hv
  have hr := B.returns
  have hlocks := B.notSynchronized
  have hl := lv_entry ([.ref x0, .int x1]) (n := 2) (Nat.le_of_ble_eq_true rfl)
  rw [lg_entry_eq]
  generalize (lg_sl ([.ref x0, .int x1]) ++ List.replicate (2 - (lg_sl ([.ref x0, .int x1])).length) Slot.unset).toArray = ls at hl ⊢
  have hl : lv_has ls 2 [(0, .ref x0), (1, .int x1)] := hl
  exact w_X5_codeAt_B0 ⟨B.exec, B.bytes, hml, findClass_of_methodNamed B.named, atoms_spec (ws := wsX5_codeAt) B.pre, hK⟩ (fun v H locs pc ls hq hC hS hd => W.iret B.exec B.bytes hr (fun t ht hW => ⟨⟨v, _, rfl, ⟨Option.some.inj hq, rfl⟩, CW_e ht hC⟩, hS.F ht⟩) hS.2.2 hd) h hx0 hl hC va_S.rf
