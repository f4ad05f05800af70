-- RecordShelfModel.folded(I)I
theorem dX8_folded_0 : decode cX8_folded 0 = .ok (.iload_n 0, 1) := by decide +kernel
theorem dX8_folded_1 : decode cX8_folded 1 = .ok (.bipush 65, 2) := by decide +kernel
theorem dX8_folded_3 : decode cX8_folded 3 = .ok (.if_icmp .lt 16, 3) := by decide +kernel
theorem dX8_folded_6 : decode cX8_folded 6 = .ok (.iload_n 0, 1) := by decide +kernel
theorem dX8_folded_7 : decode cX8_folded 7 = .ok (.bipush 90, 2) := by decide +kernel
theorem dX8_folded_9 : decode cX8_folded 9 = .ok (.if_icmp .gt 10, 3) := by decide +kernel
theorem dX8_folded_12 : decode cX8_folded 12 = .ok (.iload_n 0, 1) := by decide +kernel
theorem dX8_folded_13 : decode cX8_folded 13 = .ok (.bipush 32, 2) := by decide +kernel
theorem dX8_folded_15 : decode cX8_folded 15 = .ok (.iadd, 1) := by decide +kernel
theorem dX8_folded_16 : decode cX8_folded 16 = .ok (.goto 16, 3) := by decide +kernel
theorem dX8_folded_19 : decode cX8_folded 19 = .ok (.iload_n 0, 1) := by decide +kernel
theorem dX8_folded_20 : decode cX8_folded 20 = .ok (.invokestatic 102, 3) := by decide +kernel
theorem dX8_folded_23 : decode cX8_folded 23 = .ok (.ifCond .eq 7, 3) := by decide +kernel
theorem dX8_folded_26 : decode cX8_folded 26 = .ok (.iload_n 0, 1) := by decide +kernel
theorem dX8_folded_27 : decode cX8_folded 27 = .ok (.goto 5, 3) := by decide +kernel
theorem dX8_folded_30 : decode cX8_folded 30 = .ok (.bipush 32, 2) := by decide +kernel
theorem dX8_folded_32 : decode cX8_folded 32 = .ok (.ireturn, 1) := by decide +kernel
def rm_X8_folded : Room := { frames := 2, cells := 0, slots := 0, locals := 40 }
def fn_X8_folded_B19 (x0 : Int32) : Option (Int32) :=
  ((fn_X8_isCode x0).bind fun r1 =>
  (if r1 = 0 then
  some 32
  else some x0))
set_option maxHeartbeats 4000000 in
set_option maxRecDepth 100000 in
theorem w_X8_folded_B19 {p : Program} {l : Launch} {e : Env} {s : State} {m : MethodId} {args : Array Value} {below : List Frame} {meth : Method} {c : Code} {Q : State → Prop} {D : va_G} {κ : Nat → ClassId} {b : Nat} {H0 : Heap} {rr : Int32} {σ : Sg} (hZ : sg_Z p c s m args D κ cX8_folded 1 RX8 wsX8_folded) (hret : ∀ (v : Int32) (H : Heap) (locs : List Loc) (pc : Nat) (ls : Array Slot), some v = some rr → MW D κ b σ H → va_S (sg_A b 16) H0 H locs → decode cX8_folded pc = .ok (.ireturn, 1) → W p l e rm_X8_folded s m args below meth c H locs 0 0 Q (F0 m pc ls [.int v])) : ∀ {x0 : Int32} {H : Heap} {locs : List Loc} {ls : Array Slot}, fn_X8_folded_B19 x0 = some rr → lv_has ls 1 [(0, .int x0)] → MW D κ b σ H → va_S (sg_A b 16) H0 H locs → W p l e rm_X8_folded s m args below meth c H locs 0 0 Q (F0 m 19 ls []) := by
  obtain ⟨hx, hb, hml, hown, hts, hK⟩ := hZ
  intro x0 H locs ls h hl hC hS
  unfold fn_X8_folded_B19 at h
  refine lv_iload_n hx hb dX8_folded_19 rfl (lv_at hl 0 rfl) ?_
  obtain ⟨r1, er1, h⟩ := Option.bind_eq_some_iff.mp h
  refine va_calli (va_runS (As := [.int x0]) (rest := []) ⟨hx, hb, hml, hown, hts⟩ (c_X8_isCode l D κ b σ x0 _ er1) (va_cwS 1 hts (gwS wt_785 wt_786 wt_9 wt_787) rfl rfl rfl (by decide +kernel) ⟨Nat.le_of_ble_eq_true rfl, Nat.le_of_ble_eq_true rfl⟩) (MW_preS hK hC) rfl rfl hl.1 rfl (lv_room (Nat.le_of_ble_eq_true rfl)) dX8_folded_20 ⟨Nat.zero_le _, Nat.zero_le _⟩) hS (fun _ _ h => h) (fun _ h => h) (fun r u t H locs ht _ hp hB _ _ hS => ?_)
  refine sg_topi hp.1 ?_
  have hC : MW D κ b σ H := MW_b hB ht hp.2
  refine lv_if_eq (tgt := 30) hx hb dX8_folded_23 (by decide) (fun hc => ?_) (fun hc => ?_)
  · replace h := (if_pos hc).symm.trans h
    refine lv_bipush (v := 32) hx hb dX8_folded_30 (by decide) ?_
    exact hret _ _ _ _ _ h hC hS dX8_folded_32
  · replace h := (if_neg hc).symm.trans h
    refine lv_iload_n hx hb dX8_folded_26 rfl (lv_at hl 0 rfl) ?_
    refine lv_goto (tgt := 32) hx hb dX8_folded_27 (by decide) ?_
    exact hret _ _ _ _ _ h hC hS dX8_folded_32
def fn_X8_folded (x0 : Int32) : Option (Int32) :=
  (if x0 < 65 then
  fn_X8_folded_B19 x0
  else (if (90 : Int32) < x0 then
  fn_X8_folded_B19 x0
  else some (x0 + 32)))
set_option maxHeartbeats 4000000 in
set_option maxRecDepth 100000 in
theorem w_X8_folded_B0 {p : Program} {l : Launch} {e : Env} {s : State} {m : MethodId} {args : Array Value} {below : List Frame} {meth : Method} {c : Code} {Q : State → Prop} {D : va_G} {κ : Nat → ClassId} {b : Nat} {H0 : Heap} {rr : Int32} {σ : Sg} (hZ : sg_Z p c s m args D κ cX8_folded 1 RX8 wsX8_folded) (hret : ∀ (v : Int32) (H : Heap) (locs : List Loc) (pc : Nat) (ls : Array Slot), some v = some rr → MW D κ b σ H → va_S (sg_A b 16) H0 H locs → decode cX8_folded pc = .ok (.ireturn, 1) → W p l e rm_X8_folded s m args below meth c H locs 0 0 Q (F0 m pc ls [.int v])) : ∀ {x0 : Int32} {H : Heap} {locs : List Loc} {ls : Array Slot}, fn_X8_folded x0 = some rr → lv_has ls 1 [(0, .int x0)] → MW D κ b σ H → va_S (sg_A b 16) H0 H locs → W p l e rm_X8_folded s m args below meth c H locs 0 0 Q (F0 m 0 ls []) := by
  obtain ⟨hx, hb, hml, hown, hts, hK⟩ := hZ
  intro x0 H locs ls h hl hC hS
  unfold fn_X8_folded at h
  refine lv_iload_n hx hb dX8_folded_0 rfl (lv_at hl 0 rfl) ?_
  refine lv_bipush (v := 65) hx hb dX8_folded_1 (by decide) ?_
  refine lv_icmp_lt (tgt := 19) hx hb dX8_folded_3 (by decide) (fun hc => ?_) (fun hc => ?_)
  · replace h := (if_pos hc).symm.trans h
    exact w_X8_folded_B19 ⟨hx, hb, hml, hown, hts, hK⟩ hret  h (lv_sub hl [0] rfl) hC hS
  · replace h := (if_neg hc).symm.trans h
    refine lv_iload_n hx hb dX8_folded_6 rfl (lv_at hl 0 rfl) ?_
    refine lv_bipush (v := 90) hx hb dX8_folded_7 (by decide) ?_
    refine lv_icmp_gt (tgt := 19) hx hb dX8_folded_9 (by decide) (fun hc => ?_) (fun hc => ?_)
    · replace h := (if_pos hc).symm.trans h
      exact w_X8_folded_B19 ⟨hx, hb, hml, hown, hts, hK⟩ hret  h (lv_sub hl [0] rfl) hC hS
    · replace h := (if_neg hc).symm.trans h
      refine lv_iload_n hx hb dX8_folded_12 rfl (lv_at hl 0 rfl) ?_
      refine lv_bipush (v := 32) hx hb dX8_folded_13 (by decide) ?_
      refine lv_iadd hx hb dX8_folded_15 ?_
      refine lv_goto (tgt := 32) hx hb dX8_folded_16 (by decide) ?_
      exact hret _ _ _ _ _ h hC hS dX8_folded_32
set_option maxHeartbeats 4000000 in
set_option maxRecDepth 100000 in
theorem c_X8_folded (l : Launch) (D : va_G) (κ : Nat → ClassId) (b : Nat) (σ : Sg) (x0 : Int32) (rr : Int32)  (h : fn_X8_folded x0 = some rr) : Met l yX8_folded wsX8_folded rm_X8_folded (va_Pc [.int x0] (fun U => KK D κ U ∧ MW D κ b σ U.heap)) (va_Qi (fun (r : Int32) (u : Sg) => r = rr ∧ u = σ) (fun u t => MW D κ b u t.heap) (sg_A b 16)) 0 0 (sg_A b 16) := by
  refine Met.ofW (cc := cX8_folded) (maxL := 1) (ret := (some .int)) (by decide) rfl ?_
  intro p e s m args below meth c s₁ B hml hv
  obtain ⟨rfl, hK, hC⟩ := hv
  have hr := B.returns
  have hlocks := B.notSynchronized
  have hl := lv_entry ([.int x0]) (n := 1) (Nat.le_of_ble_eq_true rfl)
  rw [lg_entry_eq]
  generalize (lg_sl ([.int x0]) ++ List.replicate (1 - (lg_sl ([.int x0])).length) Slot.unset).toArray = ls at hl ⊢
  have hl : lv_has ls 1 [(0, .int x0)] := hl
  exact w_X8_folded_B0 ⟨B.exec, B.bytes, hml, findClass_of_methodNamed B.named, atoms_spec (ws := wsX8_folded) B.pre, hK⟩ (fun v H locs pc ls hq hC hS hd => W.iret B.exec B.bytes hr (fun t ht hW => ⟨⟨v, _, rfl, ⟨Option.some.inj hq, rfl⟩, MW_e ht hC⟩, hS.F ht⟩) hS.2.2 hd) h  hl hC va_S.rf

-- RecordShelfModel.makeKey(I)V
theorem dX8_makeKey_0 : decode cX8_makeKey 0 = .ok (.iconst 0, 1) := by decide +kernel
theorem dX8_makeKey_1 : decode cX8_makeKey 1 = .ok (.istore_n 2, 1) := by decide +kernel
theorem dX8_makeKey_2 : decode cX8_makeKey 2 = .ok (.iconst 0, 1) := by decide +kernel
theorem dX8_makeKey_3 : decode cX8_makeKey 3 = .ok (.istore_n 3, 1) := by decide +kernel
theorem dX8_makeKey_4 : decode cX8_makeKey 4 = .ok (.iload_n 3, 1) := by decide +kernel
theorem dX8_makeKey_5 : decode cX8_makeKey 5 = .ok (.aload_n 0, 1) := by decide +kernel
theorem dX8_makeKey_6 : decode cX8_makeKey 6 = .ok (.getfield 34, 3) := by decide +kernel
theorem dX8_makeKey_9 : decode cX8_makeKey 9 = .ok (.iload_n 1, 1) := by decide +kernel
theorem dX8_makeKey_10 : decode cX8_makeKey 10 = .ok (.iaload, 1) := by decide +kernel
theorem dX8_makeKey_11 : decode cX8_makeKey 11 = .ok (.if_icmp .ge 82, 3) := by decide +kernel
theorem dX8_makeKey_14 : decode cX8_makeKey 14 = .ok (.aload_n 0, 1) := by decide +kernel
theorem dX8_makeKey_15 : decode cX8_makeKey 15 = .ok (.getfield 37, 3) := by decide +kernel
theorem dX8_makeKey_18 : decode cX8_makeKey 18 = .ok (.bipush 20, 2) := by decide +kernel
theorem dX8_makeKey_20 : decode cX8_makeKey 20 = .ok (.iload_n 1, 1) := by decide +kernel
theorem dX8_makeKey_21 : decode cX8_makeKey 21 = .ok (.imul, 1) := by decide +kernel
theorem dX8_makeKey_22 : decode cX8_makeKey 22 = .ok (.iload_n 3, 1) := by decide +kernel
theorem dX8_makeKey_23 : decode cX8_makeKey 23 = .ok (.iadd, 1) := by decide +kernel
theorem dX8_makeKey_24 : decode cX8_makeKey 24 = .ok (.iaload, 1) := by decide +kernel
theorem dX8_makeKey_25 : decode cX8_makeKey 25 = .ok (.invokestatic 146, 3) := by decide +kernel
theorem dX8_makeKey_28 : decode cX8_makeKey 28 = .ok (.istore 4, 2) := by decide +kernel
theorem dX8_makeKey_30 : decode cX8_makeKey 30 = .ok (.iload 4, 2) := by decide +kernel
theorem dX8_makeKey_32 : decode cX8_makeKey 32 = .ok (.bipush 32, 2) := by decide +kernel
theorem dX8_makeKey_34 : decode cX8_makeKey 34 = .ok (.if_icmp .ne 29, 3) := by decide +kernel
theorem dX8_makeKey_37 : decode cX8_makeKey 37 = .ok (.iload_n 2, 1) := by decide +kernel
theorem dX8_makeKey_38 : decode cX8_makeKey 38 = .ok (.ifCond .eq 21, 3) := by decide +kernel
theorem dX8_makeKey_41 : decode cX8_makeKey 41 = .ok (.aload_n 0, 1) := by decide +kernel
theorem dX8_makeKey_42 : decode cX8_makeKey 42 = .ok (.getfield 50, 3) := by decide +kernel
theorem dX8_makeKey_45 : decode cX8_makeKey 45 = .ok (.bipush 20, 2) := by decide +kernel
theorem dX8_makeKey_47 : decode cX8_makeKey 47 = .ok (.iload_n 1, 1) := by decide +kernel
theorem dX8_makeKey_48 : decode cX8_makeKey 48 = .ok (.imul, 1) := by decide +kernel
theorem dX8_makeKey_49 : decode cX8_makeKey 49 = .ok (.iload_n 2, 1) := by decide +kernel
theorem dX8_makeKey_50 : decode cX8_makeKey 50 = .ok (.iadd, 1) := by decide +kernel
theorem dX8_makeKey_51 : decode cX8_makeKey 51 = .ok (.iconst 1, 1) := by decide +kernel
theorem dX8_makeKey_52 : decode cX8_makeKey 52 = .ok (.isub, 1) := by decide +kernel
theorem dX8_makeKey_53 : decode cX8_makeKey 53 = .ok (.iaload, 1) := by decide +kernel
theorem dX8_makeKey_54 : decode cX8_makeKey 54 = .ok (.bipush 32, 2) := by decide +kernel
theorem dX8_makeKey_56 : decode cX8_makeKey 56 = .ok (.if_icmp .ne 7, 3) := by decide +kernel
theorem dX8_makeKey_59 : decode cX8_makeKey 59 = .ok (.iconst 1, 1) := by decide +kernel
theorem dX8_makeKey_60 : decode cX8_makeKey 60 = .ok (.goto 4, 3) := by decide +kernel
theorem dX8_makeKey_63 : decode cX8_makeKey 63 = .ok (.iconst 0, 1) := by decide +kernel
theorem dX8_makeKey_64 : decode cX8_makeKey 64 = .ok (.istore 5, 2) := by decide +kernel
theorem dX8_makeKey_66 : decode cX8_makeKey 66 = .ok (.iload 5, 2) := by decide +kernel
theorem dX8_makeKey_68 : decode cX8_makeKey 68 = .ok (.ifCond .ne 19, 3) := by decide +kernel
theorem dX8_makeKey_71 : decode cX8_makeKey 71 = .ok (.aload_n 0, 1) := by decide +kernel
theorem dX8_makeKey_72 : decode cX8_makeKey 72 = .ok (.getfield 50, 3) := by decide +kernel
theorem dX8_makeKey_75 : decode cX8_makeKey 75 = .ok (.bipush 20, 2) := by decide +kernel
theorem dX8_makeKey_77 : decode cX8_makeKey 77 = .ok (.iload_n 1, 1) := by decide +kernel
theorem dX8_makeKey_78 : decode cX8_makeKey 78 = .ok (.imul, 1) := by decide +kernel
theorem dX8_makeKey_79 : decode cX8_makeKey 79 = .ok (.iload_n 2, 1) := by decide +kernel
theorem dX8_makeKey_80 : decode cX8_makeKey 80 = .ok (.iadd, 1) := by decide +kernel
theorem dX8_makeKey_81 : decode cX8_makeKey 81 = .ok (.iload 4, 2) := by decide +kernel
theorem dX8_makeKey_83 : decode cX8_makeKey 83 = .ok (.iastore, 1) := by decide +kernel
theorem dX8_makeKey_84 : decode cX8_makeKey 84 = .ok (.iinc 2 1, 3) := by decide +kernel
theorem dX8_makeKey_87 : decode cX8_makeKey 87 = .ok (.iinc 3 1, 3) := by decide +kernel
theorem dX8_makeKey_90 : decode cX8_makeKey 90 = .ok (.goto (-86), 3) := by decide +kernel
theorem dX8_makeKey_93 : decode cX8_makeKey 93 = .ok (.aload_n 0, 1) := by decide +kernel
theorem dX8_makeKey_94 : decode cX8_makeKey 94 = .ok (.getfield 53, 3) := by decide +kernel
theorem dX8_makeKey_97 : decode cX8_makeKey 97 = .ok (.iload_n 1, 1) := by decide +kernel
theorem dX8_makeKey_98 : decode cX8_makeKey 98 = .ok (.iload_n 2, 1) := by decide +kernel
theorem dX8_makeKey_99 : decode cX8_makeKey 99 = .ok (.ifCond .le 27, 3) := by decide +kernel
theorem dX8_makeKey_102 : decode cX8_makeKey 102 = .ok (.aload_n 0, 1) := by decide +kernel
theorem dX8_makeKey_103 : decode cX8_makeKey 103 = .ok (.getfield 50, 3) := by decide +kernel
theorem dX8_makeKey_106 : decode cX8_makeKey 106 = .ok (.bipush 20, 2) := by decide +kernel
theorem dX8_makeKey_108 : decode cX8_makeKey 108 = .ok (.iload_n 1, 1) := by decide +kernel
theorem dX8_makeKey_109 : decode cX8_makeKey 109 = .ok (.imul, 1) := by decide +kernel
theorem dX8_makeKey_110 : decode cX8_makeKey 110 = .ok (.iload_n 2, 1) := by decide +kernel
theorem dX8_makeKey_111 : decode cX8_makeKey 111 = .ok (.iadd, 1) := by decide +kernel
theorem dX8_makeKey_112 : decode cX8_makeKey 112 = .ok (.iconst 1, 1) := by decide +kernel
theorem dX8_makeKey_113 : decode cX8_makeKey 113 = .ok (.isub, 1) := by decide +kernel
theorem dX8_makeKey_114 : decode cX8_makeKey 114 = .ok (.iaload, 1) := by decide +kernel
theorem dX8_makeKey_115 : decode cX8_makeKey 115 = .ok (.bipush 32, 2) := by decide +kernel
theorem dX8_makeKey_117 : decode cX8_makeKey 117 = .ok (.if_icmp .ne 9, 3) := by decide +kernel
theorem dX8_makeKey_120 : decode cX8_makeKey 120 = .ok (.iload_n 2, 1) := by decide +kernel
theorem dX8_makeKey_121 : decode cX8_makeKey 121 = .ok (.iconst 1, 1) := by decide +kernel
theorem dX8_makeKey_122 : decode cX8_makeKey 122 = .ok (.isub, 1) := by decide +kernel
theorem dX8_makeKey_123 : decode cX8_makeKey 123 = .ok (.goto 4, 3) := by decide +kernel
theorem dX8_makeKey_126 : decode cX8_makeKey 126 = .ok (.iload_n 2, 1) := by decide +kernel
theorem dX8_makeKey_127 : decode cX8_makeKey 127 = .ok (.iastore, 1) := by decide +kernel
theorem dX8_makeKey_128 : decode cX8_makeKey 128 = .ok (.return_, 1) := by decide +kernel
def rm_X8_makeKey : Room := { frames := 3, cells := 0, slots := 0, locals := 60 }
def fn_X8_makeKey_B127 (b : Nat) (σ : Sg) (y0 : Int32) (y1 : Int32) : Option (Sg) :=
  (if sg_ib y1 192 then
  (sg_lt (sg_w σ (b + 14) (sg_x y1) y0) fun σ1 =>
  some σ1)
  else none)
set_option maxHeartbeats 4000000 in
set_option maxRecDepth 100000 in
theorem w_X8_makeKey_B127 {p : Program} {l : Launch} {e : Env} {s : State} {m : MethodId} {args : Array Value} {below : List Frame} {meth : Method} {c : Code} {Q : State → Prop} {D : va_G} {κ : Nat → ClassId} {b : Nat} {H0 : Heap} {rr : Sg} (hZ : sg_Z p c s m args D κ cX8_makeKey 6 RX8 wsX8_makeKey) (hret : ∀ (u : Sg) (H : Heap) (locs : List Loc) (pc : Nat) (ls : Array Slot), some u = some rr → MW D κ b u H → va_S (sg_A b 16) H0 H locs → decode cX8_makeKey pc = .ok (.return_, 1) → W p l e rm_X8_makeKey s m args below meth c H locs 0 0 Q (F0 m pc ls [])) : ∀ {σ : Sg} {y0 : Int32} {y1 : Int32} {H : Heap} {locs : List Loc} {ls : Array Slot}, fn_X8_makeKey_B127 b σ y0 y1 = some rr → lv_has ls 6 [] → MW D κ b σ H → va_S (sg_A b 16) H0 H locs → W p l e rm_X8_makeKey s m args below meth c H locs 0 0 Q (F0 m 127 ls [.int y0, .int y1, .ref (b + 14)]) := by
  obtain ⟨hx, hb, hml, hown, hts, hK⟩ := hZ
  intro σ y0 y1 H locs ls h hl hC hS
  unfold fn_X8_makeKey_B127 at h
  obtain ⟨hg, h⟩ := sg_gd h
  refine va_iast hx hb hK.1 hC.1 sg_D hS ((b + 14) - b) 0 sg_ga_keySizes rfl (sg_in hg) dX8_makeKey_127 (fun H locs hP _ hS => ?_)
  obtain ⟨σ1, eσ1, h⟩ := sg_lte h
  have hC : MW D κ b σ1 H := eσ1 ▸ MW_put (k := sg_x y1) (v := y0) hC sg_aa_keySizes (sg_ya_keySizes _ _) hP
  exact hret _ _ _ _ _ h hC hS dX8_makeKey_128
def fn_X8_makeKey_B126 (b : Nat) (σ : Sg) (x2 : Int32) (y0 : Int32) : Option (Sg) :=
  fn_X8_makeKey_B127 b σ x2 y0
set_option maxHeartbeats 4000000 in
set_option maxRecDepth 100000 in
theorem w_X8_makeKey_B126 {p : Program} {l : Launch} {e : Env} {s : State} {m : MethodId} {args : Array Value} {below : List Frame} {meth : Method} {c : Code} {Q : State → Prop} {D : va_G} {κ : Nat → ClassId} {b : Nat} {H0 : Heap} {rr : Sg} (hZ : sg_Z p c s m args D κ cX8_makeKey 6 RX8 wsX8_makeKey) (hret : ∀ (u : Sg) (H : Heap) (locs : List Loc) (pc : Nat) (ls : Array Slot), some u = some rr → MW D κ b u H → va_S (sg_A b 16) H0 H locs → decode cX8_makeKey pc = .ok (.return_, 1) → W p l e rm_X8_makeKey s m args below meth c H locs 0 0 Q (F0 m pc ls [])) : ∀ {σ : Sg} {x2 : Int32} {y0 : Int32} {H : Heap} {locs : List Loc} {ls : Array Slot}, fn_X8_makeKey_B126 b σ x2 y0 = some rr → lv_has ls 6 [(2, .int x2)] → MW D κ b σ H → va_S (sg_A b 16) H0 H locs → W p l e rm_X8_makeKey s m args below meth c H locs 0 0 Q (F0 m 126 ls [.int y0, .ref (b + 14)]) := by
  obtain ⟨hx, hb, hml, hown, hts, hK⟩ := hZ
  intro σ x2 y0 H locs ls h hl hC hS
  unfold fn_X8_makeKey_B126 at h
  refine lv_iload_n hx hb dX8_makeKey_126 rfl (lv_at hl 0 rfl) ?_
  exact w_X8_makeKey_B127 ⟨hx, hb, hml, hown, hts, hK⟩ hret  h (lv_sub hl [] rfl) hC hS
def fn_X8_makeKey_B87 (b : Nat) (z4 : Sg → Int32 → Int32 → Int32 → Option (Sg)) (σ : Sg) (x1 : Int32) (x2 : Int32) (x3 : Int32) : Option (Sg) :=
  (sg_lt (x3 + 1 : Int32) fun v1 =>
  z4 σ x1 x2 v1)
set_option maxHeartbeats 4000000 in
set_option maxRecDepth 100000 in
theorem w_X8_makeKey_B87 {p : Program} {l : Launch} {e : Env} {s : State} {m : MethodId} {args : Array Value} {below : List Frame} {meth : Method} {c : Code} {Q : State → Prop} {D : va_G} {κ : Nat → ClassId} {b : Nat} {H0 : Heap} {rr : Sg} (hZ : sg_Z p c s m args D κ cX8_makeKey 6 RX8 wsX8_makeKey) (hret : ∀ (u : Sg) (H : Heap) (locs : List Loc) (pc : Nat) (ls : Array Slot), some u = some rr → MW D κ b u H → va_S (sg_A b 16) H0 H locs → decode cX8_makeKey pc = .ok (.return_, 1) → W p l e rm_X8_makeKey s m args below meth c H locs 0 0 Q (F0 m pc ls [])) {z4 : Sg → Int32 → Int32 → Int32 → Option (Sg)} (hr4 : ∀ {σ : Sg} {x1 : Int32} {x2 : Int32} {x3 : Int32} {H : Heap} {locs : List Loc} {ls : Array Slot}, z4 σ x1 x2 x3 = some rr → lv_has ls 6 [(0, .ref b), (1, .int x1), (2, .int x2), (3, .int x3)] → MW D κ b σ H → va_S (sg_A b 16) H0 H locs → W p l e rm_X8_makeKey s m args below meth c H locs 0 0 Q (F0 m 4 ls [])) : ∀ {σ : Sg} {x1 : Int32} {x2 : Int32} {x3 : Int32} {H : Heap} {locs : List Loc} {ls : Array Slot}, fn_X8_makeKey_B87 b z4 σ x1 x2 x3 = some rr → lv_has ls 6 [(0, .ref b), (1, .int x1), (2, .int x2), (3, .int x3)] → MW D κ b σ H → va_S (sg_A b 16) H0 H locs → W p l e rm_X8_makeKey s m args below meth c H locs 0 0 Q (F0 m 87 ls []) := by
  obtain ⟨hx, hb, hml, hown, hts, hK⟩ := hZ
  intro σ x1 x2 x3 H locs ls h hl hC hS
  unfold fn_X8_makeKey_B87 at h
  obtain ⟨v1, ev1, h⟩ := sg_lte h
  refine lv_iinc (v := v1) (lv' := [(3, .int v1), (0, .ref b), (1, .int x1), (2, .int x2)]) (k := 3) hx hb dX8_makeKey_87 hl rfl (sg_inc (by decide) ev1) (by decide) rfl (fun ls hl => ?_)
  refine lv_goto (tgt := 4) hx hb dX8_makeKey_90 (by decide) ?_
  exact hr4 h (lv_sub hl [1, 2, 3, 0] rfl) hC hS
def fn_X8_makeKey_B64 (b : Nat) (z4 : Sg → Int32 → Int32 → Int32 → Option (Sg)) (σ : Sg) (x1 : Int32) (x2 : Int32) (x3 : Int32) (x4 : Int32) (y0 : Int32) : Option (Sg) :=
  (if y0 = 0 then
  (if sg_ib ((20 * x1) + x2) 3840 then
  (sg_lt (sg_w σ (b + 13) (sg_x ((20 * x1) + x2)) x4) fun σ1 =>
  (sg_lt (x2 + 1 : Int32) fun v2 =>
  fn_X8_makeKey_B87 b z4 σ1 x1 v2 x3))
  else none)
  else fn_X8_makeKey_B87 b z4 σ x1 x2 x3)
set_option maxHeartbeats 4000000 in
set_option maxRecDepth 100000 in
theorem w_X8_makeKey_B64 {p : Program} {l : Launch} {e : Env} {s : State} {m : MethodId} {args : Array Value} {below : List Frame} {meth : Method} {c : Code} {Q : State → Prop} {D : va_G} {κ : Nat → ClassId} {b : Nat} {H0 : Heap} {rr : Sg} (hZ : sg_Z p c s m args D κ cX8_makeKey 6 RX8 wsX8_makeKey) (hret : ∀ (u : Sg) (H : Heap) (locs : List Loc) (pc : Nat) (ls : Array Slot), some u = some rr → MW D κ b u H → va_S (sg_A b 16) H0 H locs → decode cX8_makeKey pc = .ok (.return_, 1) → W p l e rm_X8_makeKey s m args below meth c H locs 0 0 Q (F0 m pc ls [])) {z4 : Sg → Int32 → Int32 → Int32 → Option (Sg)} (hr4 : ∀ {σ : Sg} {x1 : Int32} {x2 : Int32} {x3 : Int32} {H : Heap} {locs : List Loc} {ls : Array Slot}, z4 σ x1 x2 x3 = some rr → lv_has ls 6 [(0, .ref b), (1, .int x1), (2, .int x2), (3, .int x3)] → MW D κ b σ H → va_S (sg_A b 16) H0 H locs → W p l e rm_X8_makeKey s m args below meth c H locs 0 0 Q (F0 m 4 ls [])) : ∀ {σ : Sg} {x1 : Int32} {x2 : Int32} {x3 : Int32} {x4 : Int32} {y0 : Int32} {H : Heap} {locs : List Loc} {ls : Array Slot}, fn_X8_makeKey_B64 b z4 σ x1 x2 x3 x4 y0 = some rr → lv_has ls 6 [(0, .ref b), (1, .int x1), (2, .int x2), (3, .int x3), (4, .int x4)] → MW D κ b σ H → va_S (sg_A b 16) H0 H locs → W p l e rm_X8_makeKey s m args below meth c H locs 0 0 Q (F0 m 64 ls [.int y0]) := by
  obtain ⟨hx, hb, hml, hown, hts, hK⟩ := hZ
  intro σ x1 x2 x3 x4 y0 H locs ls h hl hC hS
  unfold fn_X8_makeKey_B64 at h
  refine lv_istore (lv' := [(5, .int y0), (0, .ref b), (1, .int x1), (2, .int x2), (3, .int x3), (4, .int x4)]) hx hb dX8_makeKey_64 hl (by decide) rfl (fun ls hl => ?_)
  refine lv_iload hx hb dX8_makeKey_66 (lv_at hl 0 rfl) ?_
  refine lv_if_ne (tgt := 87) hx hb dX8_makeKey_68 (by decide) (fun hc => ?_) (fun hc => ?_)
  · replace h := (if_neg hc).symm.trans h
    exact w_X8_makeKey_B87 ⟨hx, hb, hml, hown, hts, hK⟩ hret hr4 h (lv_sub hl [1, 2, 3, 4] rfl) hC hS
  · replace h := (if_pos hc).symm.trans h
    refine lv_aload_n hx hb dX8_makeKey_71 rfl (lv_at hl 1 rfl) ?_
    refine va_get (D := D) (ci := 8) (v := .ref (b + 13)) (C := RX8) (T := TX8) (N := 21) hx hb hts (wqs inW_X8) hown hK.1 hC.1 (b - b) sg_gModel rfl 17 (by decide) (hts _ (wq wt_665)) (fun _ h9 => h9) rfl dX8_makeKey_72 ?_
    refine lv_bipush (v := 20) hx hb dX8_makeKey_75 (by decide) ?_
    refine lv_iload_n hx hb dX8_makeKey_77 rfl (lv_at hl 2 rfl) ?_
    refine lv_imul hx hb dX8_makeKey_78 ?_
    refine lv_iload_n hx hb dX8_makeKey_79 rfl (lv_at hl 3 rfl) ?_
    refine lv_iadd hx hb dX8_makeKey_80 ?_
    refine lv_iload hx hb dX8_makeKey_81 (lv_at hl 5 rfl) ?_
    obtain ⟨hg, h⟩ := sg_gd h
    refine va_iast hx hb hK.1 hC.1 sg_D hS ((b + 13) - b) 0 sg_ga_keys rfl (sg_in hg) dX8_makeKey_83 (fun H locs hP _ hS => ?_)
    obtain ⟨σ1, eσ1, h⟩ := sg_lte h
    have hC : MW D κ b σ1 H := eσ1 ▸ MW_put (k := sg_x ((20 * x1) + x2)) (v := x4) hC sg_aa_keys (sg_ya_keys _ _) hP
    obtain ⟨v2, ev2, h⟩ := sg_lte h
    refine lv_iinc (v := v2) (lv' := [(2, .int v2), (5, .int y0), (0, .ref b), (1, .int x1), (3, .int x3), (4, .int x4)]) (k := 3) hx hb dX8_makeKey_84 hl rfl (sg_inc (by decide) ev2) (by decide) rfl (fun ls hl => ?_)
    exact w_X8_makeKey_B87 ⟨hx, hb, hml, hown, hts, hK⟩ hret hr4 h (lv_sub hl [2, 3, 0, 4] rfl) hC hS
def fn_X8_makeKey_B63 (b : Nat) (z4 : Sg → Int32 → Int32 → Int32 → Option (Sg)) (σ : Sg) (x1 : Int32) (x2 : Int32) (x3 : Int32) (x4 : Int32) : Option (Sg) :=
  fn_X8_makeKey_B64 b z4 σ x1 x2 x3 x4 0
set_option maxHeartbeats 4000000 in
set_option maxRecDepth 100000 in
theorem w_X8_makeKey_B63 {p : Program} {l : Launch} {e : Env} {s : State} {m : MethodId} {args : Array Value} {below : List Frame} {meth : Method} {c : Code} {Q : State → Prop} {D : va_G} {κ : Nat → ClassId} {b : Nat} {H0 : Heap} {rr : Sg} (hZ : sg_Z p c s m args D κ cX8_makeKey 6 RX8 wsX8_makeKey) (hret : ∀ (u : Sg) (H : Heap) (locs : List Loc) (pc : Nat) (ls : Array Slot), some u = some rr → MW D κ b u H → va_S (sg_A b 16) H0 H locs → decode cX8_makeKey pc = .ok (.return_, 1) → W p l e rm_X8_makeKey s m args below meth c H locs 0 0 Q (F0 m pc ls [])) {z4 : Sg → Int32 → Int32 → Int32 → Option (Sg)} (hr4 : ∀ {σ : Sg} {x1 : Int32} {x2 : Int32} {x3 : Int32} {H : Heap} {locs : List Loc} {ls : Array Slot}, z4 σ x1 x2 x3 = some rr → lv_has ls 6 [(0, .ref b), (1, .int x1), (2, .int x2), (3, .int x3)] → MW D κ b σ H → va_S (sg_A b 16) H0 H locs → W p l e rm_X8_makeKey s m args below meth c H locs 0 0 Q (F0 m 4 ls [])) : ∀ {σ : Sg} {x1 : Int32} {x2 : Int32} {x3 : Int32} {x4 : Int32} {H : Heap} {locs : List Loc} {ls : Array Slot}, fn_X8_makeKey_B63 b z4 σ x1 x2 x3 x4 = some rr → lv_has ls 6 [(0, .ref b), (1, .int x1), (2, .int x2), (3, .int x3), (4, .int x4)] → MW D κ b σ H → va_S (sg_A b 16) H0 H locs → W p l e rm_X8_makeKey s m args below meth c H locs 0 0 Q (F0 m 63 ls []) := by
  obtain ⟨hx, hb, hml, hown, hts, hK⟩ := hZ
  intro σ x1 x2 x3 x4 H locs ls h hl hC hS
  unfold fn_X8_makeKey_B63 at h
  refine lv_iconst (v := 0) hx hb dX8_makeKey_63 (by decide) ?_
  exact w_X8_makeKey_B64 ⟨hx, hb, hml, hown, hts, hK⟩ hret hr4 h (lv_sub hl [0, 1, 2, 3, 4] rfl) hC hS
def fn_X8_makeKey_B59 (b : Nat) (z4 : Sg → Int32 → Int32 → Int32 → Option (Sg)) (σ : Sg) (x1 : Int32) (x2 : Int32) (x3 : Int32) (x4 : Int32) : Option (Sg) :=
  fn_X8_makeKey_B64 b z4 σ x1 x2 x3 x4 1
set_option maxHeartbeats 4000000 in
set_option maxRecDepth 100000 in
theorem w_X8_makeKey_B59 {p : Program} {l : Launch} {e : Env} {s : State} {m : MethodId} {args : Array Value} {below : List Frame} {meth : Method} {c : Code} {Q : State → Prop} {D : va_G} {κ : Nat → ClassId} {b : Nat} {H0 : Heap} {rr : Sg} (hZ : sg_Z p c s m args D κ cX8_makeKey 6 RX8 wsX8_makeKey) (hret : ∀ (u : Sg) (H : Heap) (locs : List Loc) (pc : Nat) (ls : Array Slot), some u = some rr → MW D κ b u H → va_S (sg_A b 16) H0 H locs → decode cX8_makeKey pc = .ok (.return_, 1) → W p l e rm_X8_makeKey s m args below meth c H locs 0 0 Q (F0 m pc ls [])) {z4 : Sg → Int32 → Int32 → Int32 → Option (Sg)} (hr4 : ∀ {σ : Sg} {x1 : Int32} {x2 : Int32} {x3 : Int32} {H : Heap} {locs : List Loc} {ls : Array Slot}, z4 σ x1 x2 x3 = some rr → lv_has ls 6 [(0, .ref b), (1, .int x1), (2, .int x2), (3, .int x3)] → MW D κ b σ H → va_S (sg_A b 16) H0 H locs → W p l e rm_X8_makeKey s m args below meth c H locs 0 0 Q (F0 m 4 ls [])) : ∀ {σ : Sg} {x1 : Int32} {x2 : Int32} {x3 : Int32} {x4 : Int32} {H : Heap} {locs : List Loc} {ls : Array Slot}, fn_X8_makeKey_B59 b z4 σ x1 x2 x3 x4 = some rr → lv_has ls 6 [(0, .ref b), (1, .int x1), (2, .int x2), (3, .int x3), (4, .int x4)] → MW D κ b σ H → va_S (sg_A b 16) H0 H locs → W p l e rm_X8_makeKey s m args below meth c H locs 0 0 Q (F0 m 59 ls []) := by
  obtain ⟨hx, hb, hml, hown, hts, hK⟩ := hZ
  intro σ x1 x2 x3 x4 H locs ls h hl hC hS
  unfold fn_X8_makeKey_B59 at h
  refine lv_iconst (v := 1) hx hb dX8_makeKey_59 (by decide) ?_
  refine lv_goto (tgt := 64) hx hb dX8_makeKey_60 (by decide) ?_
  exact w_X8_makeKey_B64 ⟨hx, hb, hml, hown, hts, hK⟩ hret hr4 h (lv_sub hl [0, 1, 2, 3, 4] rfl) hC hS
def fn_X8_makeKey_B4b (b : Nat) (z4 : Sg → Int32 → Int32 → Int32 → Option (Sg)) (σ : Sg) (x1 : Int32) (x2 : Int32) (x3 : Int32) : Option (Sg) :=
  (if sg_ib x1 192 then
  (if ((σ.1 (b + 9) (sg_x x1)) : Int32) ≤ x3 then
  (if x2 ≤ 0 then
  fn_X8_makeKey_B126 b σ x2 x1
  else (if sg_ib (((20 * x1) + x2) - 1) 3840 then
  (if (σ.1 (b + 13) (sg_x (((20 * x1) + x2) - 1))) = 32 then
  fn_X8_makeKey_B127 b σ (x2 - 1) x1
  else fn_X8_makeKey_B126 b σ x2 x1)
  else none))
  else (if sg_ib ((20 * x1) + x3) 3840 then
  ((fn_X8_folded (σ.1 (b + 10) (sg_x ((20 * x1) + x3)))).bind fun r1 =>
  (if r1 = 32 then
  (if x2 = 0 then
  fn_X8_makeKey_B59 b z4 σ x1 x2 x3 r1
  else (if sg_ib (((20 * x1) + x2) - 1) 3840 then
  (if (σ.1 (b + 13) (sg_x (((20 * x1) + x2) - 1))) = 32 then
  fn_X8_makeKey_B59 b z4 σ x1 x2 x3 r1
  else fn_X8_makeKey_B63 b z4 σ x1 x2 x3 r1)
  else none))
  else fn_X8_makeKey_B63 b z4 σ x1 x2 x3 r1))
  else none))
  else none)
def fn_X8_makeKey_B4 (b : Nat) : Nat → Sg → Int32 → Int32 → Int32 → Option (Sg)
  | 0 => fun _ _ _ _ => none
  | n + 1 => fun σ x1 x2 x3 => fn_X8_makeKey_B4b b (fn_X8_makeKey_B4 b n) σ x1 x2 x3
set_option maxHeartbeats 4000000 in
set_option maxRecDepth 100000 in
theorem w_X8_makeKey_B4b {p : Program} {l : Launch} {e : Env} {s : State} {m : MethodId} {args : Array Value} {below : List Frame} {meth : Method} {c : Code} {Q : State → Prop} {D : va_G} {κ : Nat → ClassId} {b : Nat} {H0 : Heap} {rr : Sg} (hZ : sg_Z p c s m args D κ cX8_makeKey 6 RX8 wsX8_makeKey) (hret : ∀ (u : Sg) (H : Heap) (locs : List Loc) (pc : Nat) (ls : Array Slot), some u = some rr → MW D κ b u H → va_S (sg_A b 16) H0 H locs → decode cX8_makeKey pc = .ok (.return_, 1) → W p l e rm_X8_makeKey s m args below meth c H locs 0 0 Q (F0 m pc ls [])) {z4 : Sg → Int32 → Int32 → Int32 → Option (Sg)} (hr4 : ∀ {σ : Sg} {x1 : Int32} {x2 : Int32} {x3 : Int32} {H : Heap} {locs : List Loc} {ls : Array Slot}, z4 σ x1 x2 x3 = some rr → lv_has ls 6 [(0, .ref b), (1, .int x1), (2, .int x2), (3, .int x3)] → MW D κ b σ H → va_S (sg_A b 16) H0 H locs → W p l e rm_X8_makeKey s m args below meth c H locs 0 0 Q (F0 m 4 ls [])) : ∀ {σ : Sg} {x1 : Int32} {x2 : Int32} {x3 : Int32} {H : Heap} {locs : List Loc} {ls : Array Slot}, fn_X8_makeKey_B4b b z4 σ x1 x2 x3 = some rr → lv_has ls 6 [(0, .ref b), (1, .int x1), (2, .int x2), (3, .int x3)] → MW D κ b σ H → va_S (sg_A b 16) H0 H locs → W p l e rm_X8_makeKey s m args below meth c H locs 0 0 Q (F0 m 4 ls []) := by
  obtain ⟨hx, hb, hml, hown, hts, hK⟩ := hZ
  intro σ x1 x2 x3 H locs ls h hl hC hS
  unfold fn_X8_makeKey_B4b at h
  refine lv_iload_n hx hb dX8_makeKey_4 rfl (lv_at hl 3 rfl) ?_
  refine lv_aload_n hx hb dX8_makeKey_5 rfl (lv_at hl 0 rfl) ?_
  refine va_get (D := D) (ci := 8) (v := .ref (b + 9)) (C := RX8) (T := TX8) (N := 21) hx hb hts (wqs inW_X8) hown hK.1 hC.1 (b - b) sg_gModel rfl 10 (by decide) (hts _ (wq wt_658)) (fun _ h9 => h9) rfl dX8_makeKey_6 ?_
  refine lv_iload_n hx hb dX8_makeKey_9 rfl (lv_at hl 1 rfl) ?_
  obtain ⟨hg, h⟩ := sg_gd h
  refine va_iald hx hb hK.1 hC.1 ((b + 9) - b) 0 sg_ga_sizes rfl (sg_in hg) dX8_makeKey_10 ?_
  refine lv_icmp_ge (tgt := 93) hx hb dX8_makeKey_11 (by decide) (fun hc => ?_) (fun hc => ?_)
  · replace h := (if_pos hc).symm.trans h
    refine lv_aload_n hx hb dX8_makeKey_93 rfl (lv_at hl 0 rfl) ?_
    refine va_get (D := D) (ci := 8) (v := .ref (b + 14)) (C := RX8) (T := TX8) (N := 21) hx hb hts (wqs inW_X8) hown hK.1 hC.1 (b - b) sg_gModel rfl 18 (by decide) (hts _ (wq wt_666)) (fun _ h9 => h9) rfl dX8_makeKey_94 ?_
    refine lv_iload_n hx hb dX8_makeKey_97 rfl (lv_at hl 1 rfl) ?_
    refine lv_iload_n hx hb dX8_makeKey_98 rfl (lv_at hl 2 rfl) ?_
    refine lv_if_le (tgt := 126) hx hb dX8_makeKey_99 (by decide) (fun hc => ?_) (fun hc => ?_)
    · replace h := (if_pos hc).symm.trans h
      exact w_X8_makeKey_B126 ⟨hx, hb, hml, hown, hts, hK⟩ hret  h (lv_sub hl [2] rfl) hC hS
    · replace h := (if_neg hc).symm.trans h
      refine lv_aload_n hx hb dX8_makeKey_102 rfl (lv_at hl 0 rfl) ?_
      refine va_get (D := D) (ci := 8) (v := .ref (b + 13)) (C := RX8) (T := TX8) (N := 21) hx hb hts (wqs inW_X8) hown hK.1 hC.1 (b - b) sg_gModel rfl 17 (by decide) (hts _ (wq wt_665)) (fun _ h9 => h9) rfl dX8_makeKey_103 ?_
      refine lv_bipush (v := 20) hx hb dX8_makeKey_106 (by decide) ?_
      refine lv_iload_n hx hb dX8_makeKey_108 rfl (lv_at hl 1 rfl) ?_
      refine lv_imul hx hb dX8_makeKey_109 ?_
      refine lv_iload_n hx hb dX8_makeKey_110 rfl (lv_at hl 2 rfl) ?_
      refine lv_iadd hx hb dX8_makeKey_111 ?_
      refine lv_iconst (v := 1) hx hb dX8_makeKey_112 (by decide) ?_
      refine lv_isub hx hb dX8_makeKey_113 ?_
      obtain ⟨hg, h⟩ := sg_gd h
      refine va_iald hx hb hK.1 hC.1 ((b + 13) - b) 0 sg_ga_keys rfl (sg_in hg) dX8_makeKey_114 ?_
      refine lv_bipush (v := 32) hx hb dX8_makeKey_115 (by decide) ?_
      refine lv_icmp_ne (tgt := 126) hx hb dX8_makeKey_117 (by decide) (fun hc => ?_) (fun hc => ?_)
      · replace h := (if_neg hc).symm.trans h
        exact w_X8_makeKey_B126 ⟨hx, hb, hml, hown, hts, hK⟩ hret  h (lv_sub hl [2] rfl) hC hS
      · replace h := (if_pos hc).symm.trans h
        refine lv_iload_n hx hb dX8_makeKey_120 rfl (lv_at hl 2 rfl) ?_
        refine lv_iconst (v := 1) hx hb dX8_makeKey_121 (by decide) ?_
        refine lv_isub hx hb dX8_makeKey_122 ?_
        refine lv_goto (tgt := 127) hx hb dX8_makeKey_123 (by decide) ?_
        exact w_X8_makeKey_B127 ⟨hx, hb, hml, hown, hts, hK⟩ hret  h (lv_sub hl [] rfl) hC hS
  · replace h := (if_neg hc).symm.trans h
    refine lv_aload_n hx hb dX8_makeKey_14 rfl (lv_at hl 0 rfl) ?_
    refine va_get (D := D) (ci := 8) (v := .ref (b + 10)) (C := RX8) (T := TX8) (N := 21) hx hb hts (wqs inW_X8) hown hK.1 hC.1 (b - b) sg_gModel rfl 11 (by decide) (hts _ (wq wt_659)) (fun _ h9 => h9) rfl dX8_makeKey_15 ?_
    refine lv_bipush (v := 20) hx hb dX8_makeKey_18 (by decide) ?_
    refine lv_iload_n hx hb dX8_makeKey_20 rfl (lv_at hl 1 rfl) ?_
    refine lv_imul hx hb dX8_makeKey_21 ?_
    refine lv_iload_n hx hb dX8_makeKey_22 rfl (lv_at hl 3 rfl) ?_
    refine lv_iadd hx hb dX8_makeKey_23 ?_
    obtain ⟨hg, h⟩ := sg_gd h
    refine va_iald hx hb hK.1 hC.1 ((b + 10) - b) 0 sg_ga_characters rfl (sg_in hg) dX8_makeKey_24 ?_
    obtain ⟨r1, er1, h⟩ := Option.bind_eq_some_iff.mp h
    refine va_calli (va_runS (As := [.int (σ.1 (b + 10) (sg_x ((20 * x1) + x3)))]) (rest := []) ⟨hx, hb, hml, hown, hts⟩ (c_X8_folded l D κ b σ (σ.1 (b + 10) (sg_x ((20 * x1) + x3))) _ er1) (va_cwS 1 hts (gwS wt_864 wt_865 wt_9 wt_866) rfl rfl rfl (by decide +kernel) ⟨Nat.le_of_ble_eq_true rfl, Nat.le_of_ble_eq_true rfl⟩) (MW_preS hK hC) rfl rfl hl.1 rfl (lv_room (Nat.le_of_ble_eq_true rfl)) dX8_makeKey_25 ⟨Nat.zero_le _, Nat.zero_le _⟩) hS (fun _ _ h => h) (fun _ h => h) (fun r u t H locs ht _ hp hB _ _ hS => ?_)
    refine sg_topi hp.1 ?_
    have hC : MW D κ b σ H := MW_b hB ht hp.2
    refine lv_istore (lv' := [(4, .int r1), (0, .ref b), (1, .int x1), (2, .int x2), (3, .int x3)]) hx hb dX8_makeKey_28 hl (by decide) rfl (fun ls hl => ?_)
    refine lv_iload hx hb dX8_makeKey_30 (lv_at hl 0 rfl) ?_
    refine lv_bipush (v := 32) hx hb dX8_makeKey_32 (by decide) ?_
    refine lv_icmp_ne (tgt := 63) hx hb dX8_makeKey_34 (by decide) (fun hc => ?_) (fun hc => ?_)
    · replace h := (if_neg hc).symm.trans h
      exact w_X8_makeKey_B63 ⟨hx, hb, hml, hown, hts, hK⟩ hret hr4 h (lv_sub hl [1, 2, 3, 4, 0] rfl) hC hS
    · replace h := (if_pos hc).symm.trans h
      refine lv_iload_n hx hb dX8_makeKey_37 rfl (lv_at hl 3 rfl) ?_
      refine lv_if_eq (tgt := 59) hx hb dX8_makeKey_38 (by decide) (fun hc => ?_) (fun hc => ?_)
      · replace h := (if_pos hc).symm.trans h
        exact w_X8_makeKey_B59 ⟨hx, hb, hml, hown, hts, hK⟩ hret hr4 h (lv_sub hl [1, 2, 3, 4, 0] rfl) hC hS
      · replace h := (if_neg hc).symm.trans h
        refine lv_aload_n hx hb dX8_makeKey_41 rfl (lv_at hl 1 rfl) ?_
        refine va_get (D := D) (ci := 8) (v := .ref (b + 13)) (C := RX8) (T := TX8) (N := 21) hx hb hts (wqs inW_X8) hown hK.1 hC.1 (b - b) sg_gModel rfl 17 (by decide) (hts _ (wq wt_665)) (fun _ h9 => h9) rfl dX8_makeKey_42 ?_
        refine lv_bipush (v := 20) hx hb dX8_makeKey_45 (by decide) ?_
        refine lv_iload_n hx hb dX8_makeKey_47 rfl (lv_at hl 2 rfl) ?_
        refine lv_imul hx hb dX8_makeKey_48 ?_
        refine lv_iload_n hx hb dX8_makeKey_49 rfl (lv_at hl 3 rfl) ?_
        refine lv_iadd hx hb dX8_makeKey_50 ?_
        refine lv_iconst (v := 1) hx hb dX8_makeKey_51 (by decide) ?_
        refine lv_isub hx hb dX8_makeKey_52 ?_
        obtain ⟨hg, h⟩ := sg_gd h
        refine va_iald hx hb hK.1 hC.1 ((b + 13) - b) 0 sg_ga_keys rfl (sg_in hg) dX8_makeKey_53 ?_
        refine lv_bipush (v := 32) hx hb dX8_makeKey_54 (by decide) ?_
        refine lv_icmp_ne (tgt := 63) hx hb dX8_makeKey_56 (by decide) (fun hc => ?_) (fun hc => ?_)
        · replace h := (if_neg hc).symm.trans h
          exact w_X8_makeKey_B63 ⟨hx, hb, hml, hown, hts, hK⟩ hret hr4 h (lv_sub hl [1, 2, 3, 4, 0] rfl) hC hS
        · replace h := (if_pos hc).symm.trans h
          exact w_X8_makeKey_B59 ⟨hx, hb, hml, hown, hts, hK⟩ hret hr4 h (lv_sub hl [1, 2, 3, 4, 0] rfl) hC hS
set_option maxHeartbeats 4000000 in
theorem w_X8_makeKey_B4 {p : Program} {l : Launch} {e : Env} {s : State} {m : MethodId} {args : Array Value} {below : List Frame} {meth : Method} {c : Code} {Q : State → Prop} {D : va_G} {κ : Nat → ClassId} {b : Nat} {H0 : Heap} {rr : Sg} (hZ : sg_Z p c s m args D κ cX8_makeKey 6 RX8 wsX8_makeKey) (hret : ∀ (u : Sg) (H : Heap) (locs : List Loc) (pc : Nat) (ls : Array Slot), some u = some rr → MW D κ b u H → va_S (sg_A b 16) H0 H locs → decode cX8_makeKey pc = .ok (.return_, 1) → W p l e rm_X8_makeKey s m args below meth c H locs 0 0 Q (F0 m pc ls [])) : ∀ n : Nat, ∀ {σ : Sg} {x1 : Int32} {x2 : Int32} {x3 : Int32} {H : Heap} {locs : List Loc} {ls : Array Slot}, fn_X8_makeKey_B4 b n σ x1 x2 x3 = some rr → lv_has ls 6 [(0, .ref b), (1, .int x1), (2, .int x2), (3, .int x3)] → MW D κ b σ H → va_S (sg_A b 16) H0 H locs → W p l e rm_X8_makeKey s m args below meth c H locs 0 0 Q (F0 m 4 ls []) := by
  intro n
  induction n with
  | zero => intro σ x1 x2 x3 H locs ls h hl hC hS; cases (show (none : Option (Sg)) = some rr from h)
  | succ n ih =>
    intro σ x1 x2 x3 H locs ls h hl hC hS
    exact w_X8_makeKey_B4b hZ hret ih (show fn_X8_makeKey_B4b b (fn_X8_makeKey_B4 b n) σ x1 x2 x3 = some rr from h)  hl hC hS
def fn_X8_makeKey (b : Nat) (σ : Sg) (x1 : Int32) : Option (Sg) :=
  fn_X8_makeKey_B4 b sg_N σ x1 0 0
set_option maxHeartbeats 4000000 in
set_option maxRecDepth 100000 in
theorem w_X8_makeKey_B0 {p : Program} {l : Launch} {e : Env} {s : State} {m : MethodId} {args : Array Value} {below : List Frame} {meth : Method} {c : Code} {Q : State → Prop} {D : va_G} {κ : Nat → ClassId} {b : Nat} {H0 : Heap} {rr : Sg} (hZ : sg_Z p c s m args D κ cX8_makeKey 6 RX8 wsX8_makeKey) (hret : ∀ (u : Sg) (H : Heap) (locs : List Loc) (pc : Nat) (ls : Array Slot), some u = some rr → MW D κ b u H → va_S (sg_A b 16) H0 H locs → decode cX8_makeKey pc = .ok (.return_, 1) → W p l e rm_X8_makeKey s m args below meth c H locs 0 0 Q (F0 m pc ls [])) : ∀ {σ : Sg} {x1 : Int32} {H : Heap} {locs : List Loc} {ls : Array Slot}, fn_X8_makeKey b σ x1 = some rr → lv_has ls 6 [(0, .ref b), (1, .int x1)] → MW D κ b σ H → va_S (sg_A b 16) H0 H locs → W p l e rm_X8_makeKey s m args below meth c H locs 0 0 Q (F0 m 0 ls []) := by
  obtain ⟨hx, hb, hml, hown, hts, hK⟩ := hZ
  intro σ x1 H locs ls h hl hC hS
  unfold fn_X8_makeKey at h
  refine lv_iconst (v := 0) hx hb dX8_makeKey_0 (by decide) ?_
  refine lv_istore_n (lv' := [(2, .int 0), (0, .ref b), (1, .int x1)]) hx hb dX8_makeKey_1 rfl hl (by decide) rfl (fun ls hl => ?_)
  refine lv_iconst (v := 0) hx hb dX8_makeKey_2 (by decide) ?_
  refine lv_istore_n (lv' := [(3, .int 0), (2, .int 0), (0, .ref b), (1, .int x1)]) hx hb dX8_makeKey_3 rfl hl (by decide) rfl (fun ls hl => ?_)
  exact w_X8_makeKey_B4 ⟨hx, hb, hml, hown, hts, hK⟩ hret  sg_N h (lv_sub hl [2, 3, 1, 0] rfl) hC hS
set_option maxHeartbeats 4000000 in
set_option maxRecDepth 100000 in
theorem c_X8_makeKey (l : Launch) (D : va_G) (κ : Nat → ClassId) (b : Nat) (σ : Sg) (x1 : Int32) (rr : Sg)  (h : fn_X8_makeKey b σ x1 = some rr) : Met l yX8_makeKey wsX8_makeKey rm_X8_makeKey (va_Pc [.ref b, .int x1] (fun U => KK D κ U ∧ MW D κ b σ U.heap)) (va_Qv (fun u : Sg => u = rr) (fun u t => MW D κ b u t.heap) (sg_A b 16)) 0 0 (sg_A b 16) := by
  refine Met.ofW (cc := cX8_makeKey) (maxL := 6) (ret := none) (by decide) rfl ?_
  intro p e s m args below meth c s₁ B hml hv
  obtain ⟨rfl, hK, hC⟩ := hv
  have hr := B.returns
  have hlocks := B.notSynchronized
  have hl := lv_entry ([.ref b, .int x1]) (n := 6) (Nat.le_of_ble_eq_true rfl)
  rw [lg_entry_eq]
  generalize (lg_sl ([.ref b, .int x1]) ++ List.replicate (6 - (lg_sl ([.ref b, .int x1])).length) Slot.unset).toArray = ls at hl ⊢
  have hl : lv_has ls 6 [(0, .ref b), (1, .int x1)] := hl
  exact w_X8_makeKey_B0 ⟨B.exec, B.bytes, hml, findClass_of_methodNamed B.named, atoms_spec (ws := wsX8_makeKey) B.pre, hK⟩ (fun u H locs pc ls hq hC hS hd => W.vret B.exec B.bytes hr (fun t ht hW => ⟨⟨_, rfl, Option.some.inj hq, MW_e ht hC⟩, hS.F ht⟩) hS.2.2 hd) h  hl hC va_S.rf

-- RecordShelfModel.makeWanted()V
theorem dX8_makeWanted_0 : decode cX8_makeWanted 0 = .ok (.iconst 0, 1) := by decide +kernel
theorem dX8_makeWanted_1 : decode cX8_makeWanted 1 = .ok (.istore_n 1, 1) := by decide +kernel
theorem dX8_makeWanted_2 : decode cX8_makeWanted 2 = .ok (.iconst 0, 1) := by decide +kernel
theorem dX8_makeWanted_3 : decode cX8_makeWanted 3 = .ok (.istore_n 2, 1) := by decide +kernel
theorem dX8_makeWanted_4 : decode cX8_makeWanted 4 = .ok (.iload_n 2, 1) := by decide +kernel
theorem dX8_makeWanted_5 : decode cX8_makeWanted 5 = .ok (.aload_n 0, 1) := by decide +kernel
theorem dX8_makeWanted_6 : decode cX8_makeWanted 6 = .ok (.getfield 65, 3) := by decide +kernel
theorem dX8_makeWanted_9 : decode cX8_makeWanted 9 = .ok (.if_icmp .ge 64, 3) := by decide +kernel
theorem dX8_makeWanted_12 : decode cX8_makeWanted 12 = .ok (.aload_n 0, 1) := by decide +kernel
theorem dX8_makeWanted_13 : decode cX8_makeWanted 13 = .ok (.getfield 7, 3) := by decide +kernel
theorem dX8_makeWanted_16 : decode cX8_makeWanted 16 = .ok (.iload_n 2, 1) := by decide +kernel
theorem dX8_makeWanted_17 : decode cX8_makeWanted 17 = .ok (.iaload, 1) := by decide +kernel
theorem dX8_makeWanted_18 : decode cX8_makeWanted 18 = .ok (.invokestatic 146, 3) := by decide +kernel
theorem dX8_makeWanted_21 : decode cX8_makeWanted 21 = .ok (.istore_n 3, 1) := by decide +kernel
theorem dX8_makeWanted_22 : decode cX8_makeWanted 22 = .ok (.iload_n 3, 1) := by decide +kernel
theorem dX8_makeWanted_23 : decode cX8_makeWanted 23 = .ok (.bipush 32, 2) := by decide +kernel
theorem dX8_makeWanted_25 : decode cX8_makeWanted 25 = .ok (.if_icmp .ne 24, 3) := by decide +kernel
theorem dX8_makeWanted_28 : decode cX8_makeWanted 28 = .ok (.iload_n 1, 1) := by decide +kernel
theorem dX8_makeWanted_29 : decode cX8_makeWanted 29 = .ok (.ifCond .eq 16, 3) := by decide +kernel
theorem dX8_makeWanted_32 : decode cX8_makeWanted 32 = .ok (.aload_n 0, 1) := by decide +kernel
theorem dX8_makeWanted_33 : decode cX8_makeWanted 33 = .ok (.getfield 56, 3) := by decide +kernel
theorem dX8_makeWanted_36 : decode cX8_makeWanted 36 = .ok (.iload_n 1, 1) := by decide +kernel
theorem dX8_makeWanted_37 : decode cX8_makeWanted 37 = .ok (.iconst 1, 1) := by decide +kernel
theorem dX8_makeWanted_38 : decode cX8_makeWanted 38 = .ok (.isub, 1) := by decide +kernel
theorem dX8_makeWanted_39 : decode cX8_makeWanted 39 = .ok (.iaload, 1) := by decide +kernel
theorem dX8_makeWanted_40 : decode cX8_makeWanted 40 = .ok (.bipush 32, 2) := by decide +kernel
theorem dX8_makeWanted_42 : decode cX8_makeWanted 42 = .ok (.if_icmp .ne 7, 3) := by decide +kernel
theorem dX8_makeWanted_45 : decode cX8_makeWanted 45 = .ok (.iconst 1, 1) := by decide +kernel
theorem dX8_makeWanted_46 : decode cX8_makeWanted 46 = .ok (.goto 4, 3) := by decide +kernel
theorem dX8_makeWanted_49 : decode cX8_makeWanted 49 = .ok (.iconst 0, 1) := by decide +kernel
theorem dX8_makeWanted_50 : decode cX8_makeWanted 50 = .ok (.istore 4, 2) := by decide +kernel
theorem dX8_makeWanted_52 : decode cX8_makeWanted 52 = .ok (.iload 4, 2) := by decide +kernel
theorem dX8_makeWanted_54 : decode cX8_makeWanted 54 = .ok (.ifCond .ne 13, 3) := by decide +kernel
theorem dX8_makeWanted_57 : decode cX8_makeWanted 57 = .ok (.aload_n 0, 1) := by decide +kernel
theorem dX8_makeWanted_58 : decode cX8_makeWanted 58 = .ok (.getfield 56, 3) := by decide +kernel
theorem dX8_makeWanted_61 : decode cX8_makeWanted 61 = .ok (.iload_n 1, 1) := by decide +kernel
theorem dX8_makeWanted_62 : decode cX8_makeWanted 62 = .ok (.iload_n 3, 1) := by decide +kernel
theorem dX8_makeWanted_63 : decode cX8_makeWanted 63 = .ok (.iastore, 1) := by decide +kernel
theorem dX8_makeWanted_64 : decode cX8_makeWanted 64 = .ok (.iinc 1 1, 3) := by decide +kernel
theorem dX8_makeWanted_67 : decode cX8_makeWanted 67 = .ok (.iinc 2 1, 3) := by decide +kernel
theorem dX8_makeWanted_70 : decode cX8_makeWanted 70 = .ok (.goto (-66), 3) := by decide +kernel
theorem dX8_makeWanted_73 : decode cX8_makeWanted 73 = .ok (.aload_n 0, 1) := by decide +kernel
theorem dX8_makeWanted_74 : decode cX8_makeWanted 74 = .ok (.iload_n 1, 1) := by decide +kernel
theorem dX8_makeWanted_75 : decode cX8_makeWanted 75 = .ok (.ifCond .le 22, 3) := by decide +kernel
theorem dX8_makeWanted_78 : decode cX8_makeWanted 78 = .ok (.aload_n 0, 1) := by decide +kernel
theorem dX8_makeWanted_79 : decode cX8_makeWanted 79 = .ok (.getfield 56, 3) := by decide +kernel
theorem dX8_makeWanted_82 : decode cX8_makeWanted 82 = .ok (.iload_n 1, 1) := by decide +kernel
theorem dX8_makeWanted_83 : decode cX8_makeWanted 83 = .ok (.iconst 1, 1) := by decide +kernel
theorem dX8_makeWanted_84 : decode cX8_makeWanted 84 = .ok (.isub, 1) := by decide +kernel
theorem dX8_makeWanted_85 : decode cX8_makeWanted 85 = .ok (.iaload, 1) := by decide +kernel
theorem dX8_makeWanted_86 : decode cX8_makeWanted 86 = .ok (.bipush 32, 2) := by decide +kernel
theorem dX8_makeWanted_88 : decode cX8_makeWanted 88 = .ok (.if_icmp .ne 9, 3) := by decide +kernel
theorem dX8_makeWanted_91 : decode cX8_makeWanted 91 = .ok (.iload_n 1, 1) := by decide +kernel
theorem dX8_makeWanted_92 : decode cX8_makeWanted 92 = .ok (.iconst 1, 1) := by decide +kernel
theorem dX8_makeWanted_93 : decode cX8_makeWanted 93 = .ok (.isub, 1) := by decide +kernel
theorem dX8_makeWanted_94 : decode cX8_makeWanted 94 = .ok (.goto 4, 3) := by decide +kernel
theorem dX8_makeWanted_97 : decode cX8_makeWanted 97 = .ok (.iload_n 1, 1) := by decide +kernel
theorem dX8_makeWanted_98 : decode cX8_makeWanted 98 = .ok (.putfield 149, 3) := by decide +kernel
theorem dX8_makeWanted_101 : decode cX8_makeWanted 101 = .ok (.return_, 1) := by decide +kernel
def rm_X8_makeWanted : Room := { frames := 3, cells := 0, slots := 0, locals := 60 }
def fn_X8_makeWanted_B98 (b : Nat) (σ : Sg) (y0 : Int32) : Option (Sg) :=
  (sg_lt (sg_w σ b 20 y0) fun σ1 =>
  some σ1)
set_option maxHeartbeats 4000000 in
set_option maxRecDepth 100000 in
theorem w_X8_makeWanted_B98 {p : Program} {l : Launch} {e : Env} {s : State} {m : MethodId} {args : Array Value} {below : List Frame} {meth : Method} {c : Code} {Q : State → Prop} {D : va_G} {κ : Nat → ClassId} {b : Nat} {H0 : Heap} {rr : Sg} (hZ : sg_Z p c s m args D κ cX8_makeWanted 5 RX8 wsX8_makeWanted) (hret : ∀ (u : Sg) (H : Heap) (locs : List Loc) (pc : Nat) (ls : Array Slot), some u = some rr → MW D κ b u H → va_S (sg_A b 16) H0 H locs → decode cX8_makeWanted pc = .ok (.return_, 1) → W p l e rm_X8_makeWanted s m args below meth c H locs 0 0 Q (F0 m pc ls [])) : ∀ {σ : Sg} {y0 : Int32} {H : Heap} {locs : List Loc} {ls : Array Slot}, fn_X8_makeWanted_B98 b σ y0 = some rr → lv_has ls 5 [] → MW D κ b σ H → va_S (sg_A b 16) H0 H locs → W p l e rm_X8_makeWanted s m args below meth c H locs 0 0 Q (F0 m 98 ls [.int y0, .ref b]) := by
  obtain ⟨hx, hb, hml, hown, hts, hK⟩ := hZ
  intro σ y0 H locs ls h hl hC hS
  unfold fn_X8_makeWanted_B98 at h
  refine va_put (D := D) (ci := 8) (v := .int y0) (ty := .int) (C := RX8) (T := TX8) (N := 21) hx hb hts (wqs inW_X8) tyX8 tyX8_ok nmX8 hown hK.1 hC.1 sg_D hS (b - b) sg_gModel rfl 20 (by decide) (hts _ (wq wt_668)) (fun _ h9 => h9) rfl (by decide +kernel) rfl rfl (Nat.le_of_ble_eq_true rfl) dX8_makeWanted_98 (fun H locs hP _ hS => ?_)
  obtain ⟨σ1, eσ1, h⟩ := sg_lte h
  have hC : MW D κ b σ1 H := eσ1 ▸ MW_put (k := 20) (v := y0) hC sg_aModel (sg_yModel _ _) hP
  exact hret _ _ _ _ _ h hC hS dX8_makeWanted_101
def fn_X8_makeWanted_B97 (b : Nat) (σ : Sg) (x1 : Int32) : Option (Sg) :=
  fn_X8_makeWanted_B98 b σ x1
set_option maxHeartbeats 4000000 in
set_option maxRecDepth 100000 in
theorem w_X8_makeWanted_B97 {p : Program} {l : Launch} {e : Env} {s : State} {m : MethodId} {args : Array Value} {below : List Frame} {meth : Method} {c : Code} {Q : State → Prop} {D : va_G} {κ : Nat → ClassId} {b : Nat} {H0 : Heap} {rr : Sg} (hZ : sg_Z p c s m args D κ cX8_makeWanted 5 RX8 wsX8_makeWanted) (hret : ∀ (u : Sg) (H : Heap) (locs : List Loc) (pc : Nat) (ls : Array Slot), some u = some rr → MW D κ b u H → va_S (sg_A b 16) H0 H locs → decode cX8_makeWanted pc = .ok (.return_, 1) → W p l e rm_X8_makeWanted s m args below meth c H locs 0 0 Q (F0 m pc ls [])) : ∀ {σ : Sg} {x1 : Int32} {H : Heap} {locs : List Loc} {ls : Array Slot}, fn_X8_makeWanted_B97 b σ x1 = some rr → lv_has ls 5 [(1, .int x1)] → MW D κ b σ H → va_S (sg_A b 16) H0 H locs → W p l e rm_X8_makeWanted s m args below meth c H locs 0 0 Q (F0 m 97 ls [.ref b]) := by
  obtain ⟨hx, hb, hml, hown, hts, hK⟩ := hZ
  intro σ x1 H locs ls h hl hC hS
  unfold fn_X8_makeWanted_B97 at h
  refine lv_iload_n hx hb dX8_makeWanted_97 rfl (lv_at hl 0 rfl) ?_
  exact w_X8_makeWanted_B98 ⟨hx, hb, hml, hown, hts, hK⟩ hret  h (lv_sub hl [] rfl) hC hS
def fn_X8_makeWanted_B67 (b : Nat) (z4 : Sg → Int32 → Int32 → Option (Sg)) (σ : Sg) (x1 : Int32) (x2 : Int32) : Option (Sg) :=
  (sg_lt (x2 + 1 : Int32) fun v1 =>
  z4 σ x1 v1)
set_option maxHeartbeats 4000000 in
set_option maxRecDepth 100000 in
theorem w_X8_makeWanted_B67 {p : Program} {l : Launch} {e : Env} {s : State} {m : MethodId} {args : Array Value} {below : List Frame} {meth : Method} {c : Code} {Q : State → Prop} {D : va_G} {κ : Nat → ClassId} {b : Nat} {H0 : Heap} {rr : Sg} (hZ : sg_Z p c s m args D κ cX8_makeWanted 5 RX8 wsX8_makeWanted) (hret : ∀ (u : Sg) (H : Heap) (locs : List Loc) (pc : Nat) (ls : Array Slot), some u = some rr → MW D κ b u H → va_S (sg_A b 16) H0 H locs → decode cX8_makeWanted pc = .ok (.return_, 1) → W p l e rm_X8_makeWanted s m args below meth c H locs 0 0 Q (F0 m pc ls [])) {z4 : Sg → Int32 → Int32 → Option (Sg)} (hr4 : ∀ {σ : Sg} {x1 : Int32} {x2 : Int32} {H : Heap} {locs : List Loc} {ls : Array Slot}, z4 σ x1 x2 = some rr → lv_has ls 5 [(0, .ref b), (1, .int x1), (2, .int x2)] → MW D κ b σ H → va_S (sg_A b 16) H0 H locs → W p l e rm_X8_makeWanted s m args below meth c H locs 0 0 Q (F0 m 4 ls [])) : ∀ {σ : Sg} {x1 : Int32} {x2 : Int32} {H : Heap} {locs : List Loc} {ls : Array Slot}, fn_X8_makeWanted_B67 b z4 σ x1 x2 = some rr → lv_has ls 5 [(0, .ref b), (1, .int x1), (2, .int x2)] → MW D κ b σ H → va_S (sg_A b 16) H0 H locs → W p l e rm_X8_makeWanted s m args below meth c H locs 0 0 Q (F0 m 67 ls []) := by
  obtain ⟨hx, hb, hml, hown, hts, hK⟩ := hZ
  intro σ x1 x2 H locs ls h hl hC hS
  unfold fn_X8_makeWanted_B67 at h
  obtain ⟨v1, ev1, h⟩ := sg_lte h
  refine lv_iinc (v := v1) (lv' := [(2, .int v1), (0, .ref b), (1, .int x1)]) (k := 2) hx hb dX8_makeWanted_67 hl rfl (sg_inc (by decide) ev1) (by decide) rfl (fun ls hl => ?_)
  refine lv_goto (tgt := 4) hx hb dX8_makeWanted_70 (by decide) ?_
  exact hr4 h (lv_sub hl [1, 2, 0] rfl) hC hS
def fn_X8_makeWanted_B50 (b : Nat) (z4 : Sg → Int32 → Int32 → Option (Sg)) (σ : Sg) (x1 : Int32) (x2 : Int32) (x3 : Int32) (y0 : Int32) : Option (Sg) :=
  (if y0 = 0 then
  (if sg_ib x1 600 then
  (sg_lt (sg_w σ (b + 15) (sg_x x1) x3) fun σ1 =>
  (sg_lt (x1 + 1 : Int32) fun v2 =>
  fn_X8_makeWanted_B67 b z4 σ1 v2 x2))
  else none)
  else fn_X8_makeWanted_B67 b z4 σ x1 x2)
set_option maxHeartbeats 4000000 in
set_option maxRecDepth 100000 in
theorem w_X8_makeWanted_B50 {p : Program} {l : Launch} {e : Env} {s : State} {m : MethodId} {args : Array Value} {below : List Frame} {meth : Method} {c : Code} {Q : State → Prop} {D : va_G} {κ : Nat → ClassId} {b : Nat} {H0 : Heap} {rr : Sg} (hZ : sg_Z p c s m args D κ cX8_makeWanted 5 RX8 wsX8_makeWanted) (hret : ∀ (u : Sg) (H : Heap) (locs : List Loc) (pc : Nat) (ls : Array Slot), some u = some rr → MW D κ b u H → va_S (sg_A b 16) H0 H locs → decode cX8_makeWanted pc = .ok (.return_, 1) → W p l e rm_X8_makeWanted s m args below meth c H locs 0 0 Q (F0 m pc ls [])) {z4 : Sg → Int32 → Int32 → Option (Sg)} (hr4 : ∀ {σ : Sg} {x1 : Int32} {x2 : Int32} {H : Heap} {locs : List Loc} {ls : Array Slot}, z4 σ x1 x2 = some rr → lv_has ls 5 [(0, .ref b), (1, .int x1), (2, .int x2)] → MW D κ b σ H → va_S (sg_A b 16) H0 H locs → W p l e rm_X8_makeWanted s m args below meth c H locs 0 0 Q (F0 m 4 ls [])) : ∀ {σ : Sg} {x1 : Int32} {x2 : Int32} {x3 : Int32} {y0 : Int32} {H : Heap} {locs : List Loc} {ls : Array Slot}, fn_X8_makeWanted_B50 b z4 σ x1 x2 x3 y0 = some rr → lv_has ls 5 [(0, .ref b), (1, .int x1), (2, .int x2), (3, .int x3)] → MW D κ b σ H → va_S (sg_A b 16) H0 H locs → W p l e rm_X8_makeWanted s m args below meth c H locs 0 0 Q (F0 m 50 ls [.int y0]) := by
  obtain ⟨hx, hb, hml, hown, hts, hK⟩ := hZ
  intro σ x1 x2 x3 y0 H locs ls h hl hC hS
  unfold fn_X8_makeWanted_B50 at h
  refine lv_istore (lv' := [(4, .int y0), (0, .ref b), (1, .int x1), (2, .int x2), (3, .int x3)]) hx hb dX8_makeWanted_50 hl (by decide) rfl (fun ls hl => ?_)
  refine lv_iload hx hb dX8_makeWanted_52 (lv_at hl 0 rfl) ?_
  refine lv_if_ne (tgt := 67) hx hb dX8_makeWanted_54 (by decide) (fun hc => ?_) (fun hc => ?_)
  · replace h := (if_neg hc).symm.trans h
    exact w_X8_makeWanted_B67 ⟨hx, hb, hml, hown, hts, hK⟩ hret hr4 h (lv_sub hl [1, 2, 3] rfl) hC hS
  · replace h := (if_pos hc).symm.trans h
    refine lv_aload_n hx hb dX8_makeWanted_57 rfl (lv_at hl 1 rfl) ?_
    refine va_get (D := D) (ci := 8) (v := .ref (b + 15)) (C := RX8) (T := TX8) (N := 21) hx hb hts (wqs inW_X8) hown hK.1 hC.1 (b - b) sg_gModel rfl 19 (by decide) (hts _ (wq wt_667)) (fun _ h9 => h9) rfl dX8_makeWanted_58 ?_
    refine lv_iload_n hx hb dX8_makeWanted_61 rfl (lv_at hl 2 rfl) ?_
    refine lv_iload_n hx hb dX8_makeWanted_62 rfl (lv_at hl 4 rfl) ?_
    obtain ⟨hg, h⟩ := sg_gd h
    refine va_iast hx hb hK.1 hC.1 sg_D hS ((b + 15) - b) 0 sg_ga_wanted rfl (sg_in hg) dX8_makeWanted_63 (fun H locs hP _ hS => ?_)
    obtain ⟨σ1, eσ1, h⟩ := sg_lte h
    have hC : MW D κ b σ1 H := eσ1 ▸ MW_put (k := sg_x x1) (v := x3) hC sg_aa_wanted (sg_ya_wanted _ _) hP
    obtain ⟨v2, ev2, h⟩ := sg_lte h
    refine lv_iinc (v := v2) (lv' := [(1, .int v2), (4, .int y0), (0, .ref b), (2, .int x2), (3, .int x3)]) (k := 2) hx hb dX8_makeWanted_64 hl rfl (sg_inc (by decide) ev2) (by decide) rfl (fun ls hl => ?_)
    exact w_X8_makeWanted_B67 ⟨hx, hb, hml, hown, hts, hK⟩ hret hr4 h (lv_sub hl [2, 0, 3] rfl) hC hS
def fn_X8_makeWanted_B49 (b : Nat) (z4 : Sg → Int32 → Int32 → Option (Sg)) (σ : Sg) (x1 : Int32) (x2 : Int32) (x3 : Int32) : Option (Sg) :=
  fn_X8_makeWanted_B50 b z4 σ x1 x2 x3 0
set_option maxHeartbeats 4000000 in
set_option maxRecDepth 100000 in
theorem w_X8_makeWanted_B49 {p : Program} {l : Launch} {e : Env} {s : State} {m : MethodId} {args : Array Value} {below : List Frame} {meth : Method} {c : Code} {Q : State → Prop} {D : va_G} {κ : Nat → ClassId} {b : Nat} {H0 : Heap} {rr : Sg} (hZ : sg_Z p c s m args D κ cX8_makeWanted 5 RX8 wsX8_makeWanted) (hret : ∀ (u : Sg) (H : Heap) (locs : List Loc) (pc : Nat) (ls : Array Slot), some u = some rr → MW D κ b u H → va_S (sg_A b 16) H0 H locs → decode cX8_makeWanted pc = .ok (.return_, 1) → W p l e rm_X8_makeWanted s m args below meth c H locs 0 0 Q (F0 m pc ls [])) {z4 : Sg → Int32 → Int32 → Option (Sg)} (hr4 : ∀ {σ : Sg} {x1 : Int32} {x2 : Int32} {H : Heap} {locs : List Loc} {ls : Array Slot}, z4 σ x1 x2 = some rr → lv_has ls 5 [(0, .ref b), (1, .int x1), (2, .int x2)] → MW D κ b σ H → va_S (sg_A b 16) H0 H locs → W p l e rm_X8_makeWanted s m args below meth c H locs 0 0 Q (F0 m 4 ls [])) : ∀ {σ : Sg} {x1 : Int32} {x2 : Int32} {x3 : Int32} {H : Heap} {locs : List Loc} {ls : Array Slot}, fn_X8_makeWanted_B49 b z4 σ x1 x2 x3 = some rr → lv_has ls 5 [(0, .ref b), (1, .int x1), (2, .int x2), (3, .int x3)] → MW D κ b σ H → va_S (sg_A b 16) H0 H locs → W p l e rm_X8_makeWanted s m args below meth c H locs 0 0 Q (F0 m 49 ls []) := by
  obtain ⟨hx, hb, hml, hown, hts, hK⟩ := hZ
  intro σ x1 x2 x3 H locs ls h hl hC hS
  unfold fn_X8_makeWanted_B49 at h
  refine lv_iconst (v := 0) hx hb dX8_makeWanted_49 (by decide) ?_
  exact w_X8_makeWanted_B50 ⟨hx, hb, hml, hown, hts, hK⟩ hret hr4 h (lv_sub hl [0, 1, 2, 3] rfl) hC hS
def fn_X8_makeWanted_B45 (b : Nat) (z4 : Sg → Int32 → Int32 → Option (Sg)) (σ : Sg) (x1 : Int32) (x2 : Int32) (x3 : Int32) : Option (Sg) :=
  fn_X8_makeWanted_B50 b z4 σ x1 x2 x3 1
set_option maxHeartbeats 4000000 in
set_option maxRecDepth 100000 in
theorem w_X8_makeWanted_B45 {p : Program} {l : Launch} {e : Env} {s : State} {m : MethodId} {args : Array Value} {below : List Frame} {meth : Method} {c : Code} {Q : State → Prop} {D : va_G} {κ : Nat → ClassId} {b : Nat} {H0 : Heap} {rr : Sg} (hZ : sg_Z p c s m args D κ cX8_makeWanted 5 RX8 wsX8_makeWanted) (hret : ∀ (u : Sg) (H : Heap) (locs : List Loc) (pc : Nat) (ls : Array Slot), some u = some rr → MW D κ b u H → va_S (sg_A b 16) H0 H locs → decode cX8_makeWanted pc = .ok (.return_, 1) → W p l e rm_X8_makeWanted s m args below meth c H locs 0 0 Q (F0 m pc ls [])) {z4 : Sg → Int32 → Int32 → Option (Sg)} (hr4 : ∀ {σ : Sg} {x1 : Int32} {x2 : Int32} {H : Heap} {locs : List Loc} {ls : Array Slot}, z4 σ x1 x2 = some rr → lv_has ls 5 [(0, .ref b), (1, .int x1), (2, .int x2)] → MW D κ b σ H → va_S (sg_A b 16) H0 H locs → W p l e rm_X8_makeWanted s m args below meth c H locs 0 0 Q (F0 m 4 ls [])) : ∀ {σ : Sg} {x1 : Int32} {x2 : Int32} {x3 : Int32} {H : Heap} {locs : List Loc} {ls : Array Slot}, fn_X8_makeWanted_B45 b z4 σ x1 x2 x3 = some rr → lv_has ls 5 [(0, .ref b), (1, .int x1), (2, .int x2), (3, .int x3)] → MW D κ b σ H → va_S (sg_A b 16) H0 H locs → W p l e rm_X8_makeWanted s m args below meth c H locs 0 0 Q (F0 m 45 ls []) := by
  obtain ⟨hx, hb, hml, hown, hts, hK⟩ := hZ
  intro σ x1 x2 x3 H locs ls h hl hC hS
  unfold fn_X8_makeWanted_B45 at h
  refine lv_iconst (v := 1) hx hb dX8_makeWanted_45 (by decide) ?_
  refine lv_goto (tgt := 50) hx hb dX8_makeWanted_46 (by decide) ?_
  exact w_X8_makeWanted_B50 ⟨hx, hb, hml, hown, hts, hK⟩ hret hr4 h (lv_sub hl [0, 1, 2, 3] rfl) hC hS
def fn_X8_makeWanted_B4b (b : Nat) (z4 : Sg → Int32 → Int32 → Option (Sg)) (σ : Sg) (x1 : Int32) (x2 : Int32) : Option (Sg) :=
  (if ((σ.1 b 1) : Int32) ≤ x2 then
  (if x1 ≤ 0 then
  fn_X8_makeWanted_B97 b σ x1
  else (if sg_ib (x1 - 1) 600 then
  (if (σ.1 (b + 15) (sg_x (x1 - 1))) = 32 then
  fn_X8_makeWanted_B98 b σ (x1 - 1)
  else fn_X8_makeWanted_B97 b σ x1)
  else none))
  else (if sg_ib x2 600 then
  ((fn_X8_folded (σ.1 (b + 1) (sg_x x2))).bind fun r1 =>
  (if r1 = 32 then
  (if x1 = 0 then
  fn_X8_makeWanted_B45 b z4 σ x1 x2 r1
  else (if sg_ib (x1 - 1) 600 then
  (if (σ.1 (b + 15) (sg_x (x1 - 1))) = 32 then
  fn_X8_makeWanted_B45 b z4 σ x1 x2 r1
  else fn_X8_makeWanted_B49 b z4 σ x1 x2 r1)
  else none))
  else fn_X8_makeWanted_B49 b z4 σ x1 x2 r1))
  else none))
def fn_X8_makeWanted_B4 (b : Nat) : Nat → Sg → Int32 → Int32 → Option (Sg)
  | 0 => fun _ _ _ => none
  | n + 1 => fun σ x1 x2 => fn_X8_makeWanted_B4b b (fn_X8_makeWanted_B4 b n) σ x1 x2
set_option maxHeartbeats 4000000 in
set_option maxRecDepth 100000 in
theorem w_X8_makeWanted_B4b {p : Program} {l : Launch} {e : Env} {s : State} {m : MethodId} {args : Array Value} {below : List Frame} {meth : Method} {c : Code} {Q : State → Prop} {D : va_G} {κ : Nat → ClassId} {b : Nat} {H0 : Heap} {rr : Sg} (hZ : sg_Z p c s m args D κ cX8_makeWanted 5 RX8 wsX8_makeWanted) (hret : ∀ (u : Sg) (H : Heap) (locs : List Loc) (pc : Nat) (ls : Array Slot), some u = some rr → MW D κ b u H → va_S (sg_A b 16) H0 H locs → decode cX8_makeWanted pc = .ok (.return_, 1) → W p l e rm_X8_makeWanted s m args below meth c H locs 0 0 Q (F0 m pc ls [])) {z4 : Sg → Int32 → Int32 → Option (Sg)} (hr4 : ∀ {σ : Sg} {x1 : Int32} {x2 : Int32} {H : Heap} {locs : List Loc} {ls : Array Slot}, z4 σ x1 x2 = some rr → lv_has ls 5 [(0, .ref b), (1, .int x1), (2, .int x2)] → MW D κ b σ H → va_S (sg_A b 16) H0 H locs → W p l e rm_X8_makeWanted s m args below meth c H locs 0 0 Q (F0 m 4 ls [])) : ∀ {σ : Sg} {x1 : Int32} {x2 : Int32} {H : Heap} {locs : List Loc} {ls : Array Slot}, fn_X8_makeWanted_B4b b z4 σ x1 x2 = some rr → lv_has ls 5 [(0, .ref b), (1, .int x1), (2, .int x2)] → MW D κ b σ H → va_S (sg_A b 16) H0 H locs → W p l e rm_X8_makeWanted s m args below meth c H locs 0 0 Q (F0 m 4 ls []) := by
  obtain ⟨hx, hb, hml, hown, hts, hK⟩ := hZ
  intro σ x1 x2 H locs ls h hl hC hS
  unfold fn_X8_makeWanted_B4b at h
  refine lv_iload_n hx hb dX8_makeWanted_4 rfl (lv_at hl 2 rfl) ?_
  refine lv_aload_n hx hb dX8_makeWanted_5 rfl (lv_at hl 0 rfl) ?_
  refine va_get (D := D) (ci := 8) (v := .int (σ.1 b 1)) (C := RX8) (T := TX8) (N := 21) hx hb hts (wqs inW_X8) hown hK.1 hC.1 (b - b) sg_gModel rfl 1 (by decide) (hts _ (wq wt_649)) (fun _ h9 => h9) rfl dX8_makeWanted_6 ?_
  refine lv_icmp_ge (tgt := 73) hx hb dX8_makeWanted_9 (by decide) (fun hc => ?_) (fun hc => ?_)
  · replace h := (if_pos hc).symm.trans h
    refine lv_aload_n hx hb dX8_makeWanted_73 rfl (lv_at hl 0 rfl) ?_
    refine lv_iload_n hx hb dX8_makeWanted_74 rfl (lv_at hl 1 rfl) ?_
    refine lv_if_le (tgt := 97) hx hb dX8_makeWanted_75 (by decide) (fun hc => ?_) (fun hc => ?_)
    · replace h := (if_pos hc).symm.trans h
      exact w_X8_makeWanted_B97 ⟨hx, hb, hml, hown, hts, hK⟩ hret  h (lv_sub hl [1] rfl) hC hS
    · replace h := (if_neg hc).symm.trans h
      refine lv_aload_n hx hb dX8_makeWanted_78 rfl (lv_at hl 0 rfl) ?_
      refine va_get (D := D) (ci := 8) (v := .ref (b + 15)) (C := RX8) (T := TX8) (N := 21) hx hb hts (wqs inW_X8) hown hK.1 hC.1 (b - b) sg_gModel rfl 19 (by decide) (hts _ (wq wt_667)) (fun _ h9 => h9) rfl dX8_makeWanted_79 ?_
      refine lv_iload_n hx hb dX8_makeWanted_82 rfl (lv_at hl 1 rfl) ?_
      refine lv_iconst (v := 1) hx hb dX8_makeWanted_83 (by decide) ?_
      refine lv_isub hx hb dX8_makeWanted_84 ?_
      obtain ⟨hg, h⟩ := sg_gd h
      refine va_iald hx hb hK.1 hC.1 ((b + 15) - b) 0 sg_ga_wanted rfl (sg_in hg) dX8_makeWanted_85 ?_
      refine lv_bipush (v := 32) hx hb dX8_makeWanted_86 (by decide) ?_
      refine lv_icmp_ne (tgt := 97) hx hb dX8_makeWanted_88 (by decide) (fun hc => ?_) (fun hc => ?_)
      · replace h := (if_neg hc).symm.trans h
        exact w_X8_makeWanted_B97 ⟨hx, hb, hml, hown, hts, hK⟩ hret  h (lv_sub hl [1] rfl) hC hS
      · replace h := (if_pos hc).symm.trans h
        refine lv_iload_n hx hb dX8_makeWanted_91 rfl (lv_at hl 1 rfl) ?_
        refine lv_iconst (v := 1) hx hb dX8_makeWanted_92 (by decide) ?_
        refine lv_isub hx hb dX8_makeWanted_93 ?_
        refine lv_goto (tgt := 98) hx hb dX8_makeWanted_94 (by decide) ?_
        exact w_X8_makeWanted_B98 ⟨hx, hb, hml, hown, hts, hK⟩ hret  h (lv_sub hl [] rfl) hC hS
  · replace h := (if_neg hc).symm.trans h
    refine lv_aload_n hx hb dX8_makeWanted_12 rfl (lv_at hl 0 rfl) ?_
    refine va_get (D := D) (ci := 8) (v := .ref (b + 1)) (C := RX8) (T := TX8) (N := 21) hx hb hts (wqs inW_X8) hown hK.1 hC.1 (b - b) sg_gModel rfl 0 (by decide) (hts _ (wq wt_648)) (fun _ h9 => h9) rfl dX8_makeWanted_13 ?_
    refine lv_iload_n hx hb dX8_makeWanted_16 rfl (lv_at hl 2 rfl) ?_
    obtain ⟨hg, h⟩ := sg_gd h
    refine va_iald hx hb hK.1 hC.1 ((b + 1) - b) 0 sg_ga_text rfl (sg_in hg) dX8_makeWanted_17 ?_
    obtain ⟨r1, er1, h⟩ := Option.bind_eq_some_iff.mp h
    refine va_calli (va_runS (As := [.int (σ.1 (b + 1) (sg_x x2))]) (rest := []) ⟨hx, hb, hml, hown, hts⟩ (c_X8_folded l D κ b σ (σ.1 (b + 1) (sg_x x2)) _ er1) (va_cwS 1 hts (gwS wt_864 wt_865 wt_9 wt_866) rfl rfl rfl (by decide +kernel) ⟨Nat.le_of_ble_eq_true rfl, Nat.le_of_ble_eq_true rfl⟩) (MW_preS hK hC) rfl rfl hl.1 rfl (lv_room (Nat.le_of_ble_eq_true rfl)) dX8_makeWanted_18 ⟨Nat.zero_le _, Nat.zero_le _⟩) hS (fun _ _ h => h) (fun _ h => h) (fun r u t H locs ht _ hp hB _ _ hS => ?_)
    refine sg_topi hp.1 ?_
    have hC : MW D κ b σ H := MW_b hB ht hp.2
    refine lv_istore_n (lv' := [(3, .int r1), (0, .ref b), (1, .int x1), (2, .int x2)]) hx hb dX8_makeWanted_21 rfl hl (by decide) rfl (fun ls hl => ?_)
    refine lv_iload_n hx hb dX8_makeWanted_22 rfl (lv_at hl 0 rfl) ?_
    refine lv_bipush (v := 32) hx hb dX8_makeWanted_23 (by decide) ?_
    refine lv_icmp_ne (tgt := 49) hx hb dX8_makeWanted_25 (by decide) (fun hc => ?_) (fun hc => ?_)
    · replace h := (if_neg hc).symm.trans h
      exact w_X8_makeWanted_B49 ⟨hx, hb, hml, hown, hts, hK⟩ hret hr4 h (lv_sub hl [1, 2, 3, 0] rfl) hC hS
    · replace h := (if_pos hc).symm.trans h
      refine lv_iload_n hx hb dX8_makeWanted_28 rfl (lv_at hl 2 rfl) ?_
      refine lv_if_eq (tgt := 45) hx hb dX8_makeWanted_29 (by decide) (fun hc => ?_) (fun hc => ?_)
      · replace h := (if_pos hc).symm.trans h
        exact w_X8_makeWanted_B45 ⟨hx, hb, hml, hown, hts, hK⟩ hret hr4 h (lv_sub hl [1, 2, 3, 0] rfl) hC hS
      · replace h := (if_neg hc).symm.trans h
        refine lv_aload_n hx hb dX8_makeWanted_32 rfl (lv_at hl 1 rfl) ?_
        refine va_get (D := D) (ci := 8) (v := .ref (b + 15)) (C := RX8) (T := TX8) (N := 21) hx hb hts (wqs inW_X8) hown hK.1 hC.1 (b - b) sg_gModel rfl 19 (by decide) (hts _ (wq wt_667)) (fun _ h9 => h9) rfl dX8_makeWanted_33 ?_
        refine lv_iload_n hx hb dX8_makeWanted_36 rfl (lv_at hl 2 rfl) ?_
        refine lv_iconst (v := 1) hx hb dX8_makeWanted_37 (by decide) ?_
        refine lv_isub hx hb dX8_makeWanted_38 ?_
        obtain ⟨hg, h⟩ := sg_gd h
        refine va_iald hx hb hK.1 hC.1 ((b + 15) - b) 0 sg_ga_wanted rfl (sg_in hg) dX8_makeWanted_39 ?_
        refine lv_bipush (v := 32) hx hb dX8_makeWanted_40 (by decide) ?_
        refine lv_icmp_ne (tgt := 49) hx hb dX8_makeWanted_42 (by decide) (fun hc => ?_) (fun hc => ?_)
        · replace h := (if_neg hc).symm.trans h
          exact w_X8_makeWanted_B49 ⟨hx, hb, hml, hown, hts, hK⟩ hret hr4 h (lv_sub hl [1, 2, 3, 0] rfl) hC hS
        · replace h := (if_pos hc).symm.trans h
          exact w_X8_makeWanted_B45 ⟨hx, hb, hml, hown, hts, hK⟩ hret hr4 h (lv_sub hl [1, 2, 3, 0] rfl) hC hS
set_option maxHeartbeats 4000000 in
theorem w_X8_makeWanted_B4 {p : Program} {l : Launch} {e : Env} {s : State} {m : MethodId} {args : Array Value} {below : List Frame} {meth : Method} {c : Code} {Q : State → Prop} {D : va_G} {κ : Nat → ClassId} {b : Nat} {H0 : Heap} {rr : Sg} (hZ : sg_Z p c s m args D κ cX8_makeWanted 5 RX8 wsX8_makeWanted) (hret : ∀ (u : Sg) (H : Heap) (locs : List Loc) (pc : Nat) (ls : Array Slot), some u = some rr → MW D κ b u H → va_S (sg_A b 16) H0 H locs → decode cX8_makeWanted pc = .ok (.return_, 1) → W p l e rm_X8_makeWanted s m args below meth c H locs 0 0 Q (F0 m pc ls [])) : ∀ n : Nat, ∀ {σ : Sg} {x1 : Int32} {x2 : Int32} {H : Heap} {locs : List Loc} {ls : Array Slot}, fn_X8_makeWanted_B4 b n σ x1 x2 = some rr → lv_has ls 5 [(0, .ref b), (1, .int x1), (2, .int x2)] → MW D κ b σ H → va_S (sg_A b 16) H0 H locs → W p l e rm_X8_makeWanted s m args below meth c H locs 0 0 Q (F0 m 4 ls []) := by
  intro n
  induction n with
  | zero => intro σ x1 x2 H locs ls h hl hC hS; cases (show (none : Option (Sg)) = some rr from h)
  | succ n ih =>
    intro σ x1 x2 H locs ls h hl hC hS
    exact w_X8_makeWanted_B4b hZ hret ih (show fn_X8_makeWanted_B4b b (fn_X8_makeWanted_B4 b n) σ x1 x2 = some rr from h)  hl hC hS
def fn_X8_makeWanted (b : Nat) (σ : Sg) : Option (Sg) :=
  fn_X8_makeWanted_B4 b sg_N σ 0 0
set_option maxHeartbeats 4000000 in
set_option maxRecDepth 100000 in
theorem w_X8_makeWanted_B0 {p : Program} {l : Launch} {e : Env} {s : State} {m : MethodId} {args : Array Value} {below : List Frame} {meth : Method} {c : Code} {Q : State → Prop} {D : va_G} {κ : Nat → ClassId} {b : Nat} {H0 : Heap} {rr : Sg} (hZ : sg_Z p c s m args D κ cX8_makeWanted 5 RX8 wsX8_makeWanted) (hret : ∀ (u : Sg) (H : Heap) (locs : List Loc) (pc : Nat) (ls : Array Slot), some u = some rr → MW D κ b u H → va_S (sg_A b 16) H0 H locs → decode cX8_makeWanted pc = .ok (.return_, 1) → W p l e rm_X8_makeWanted s m args below meth c H locs 0 0 Q (F0 m pc ls [])) : ∀ {σ : Sg} {H : Heap} {locs : List Loc} {ls : Array Slot}, fn_X8_makeWanted b σ = some rr → lv_has ls 5 [(0, .ref b)] → MW D κ b σ H → va_S (sg_A b 16) H0 H locs → W p l e rm_X8_makeWanted s m args below meth c H locs 0 0 Q (F0 m 0 ls []) := by
  obtain ⟨hx, hb, hml, hown, hts, hK⟩ := hZ
  intro σ H locs ls h hl hC hS
  unfold fn_X8_makeWanted at h
  refine lv_iconst (v := 0) hx hb dX8_makeWanted_0 (by decide) ?_
  refine lv_istore_n (lv' := [(1, .int 0), (0, .ref b)]) hx hb dX8_makeWanted_1 rfl hl (by decide) rfl (fun ls hl => ?_)
  refine lv_iconst (v := 0) hx hb dX8_makeWanted_2 (by decide) ?_
  refine lv_istore_n (lv' := [(2, .int 0), (1, .int 0), (0, .ref b)]) hx hb dX8_makeWanted_3 rfl hl (by decide) rfl (fun ls hl => ?_)
  exact w_X8_makeWanted_B4 ⟨hx, hb, hml, hown, hts, hK⟩ hret  sg_N h (lv_sub hl [2, 1, 0] rfl) hC hS
set_option maxHeartbeats 4000000 in
set_option maxRecDepth 100000 in
theorem c_X8_makeWanted (l : Launch) (D : va_G) (κ : Nat → ClassId) (b : Nat) (σ : Sg)  (rr : Sg)  (h : fn_X8_makeWanted b σ = some rr) : Met l yX8_makeWanted wsX8_makeWanted rm_X8_makeWanted (va_Pc [.ref b] (fun U => KK D κ U ∧ MW D κ b σ U.heap)) (va_Qv (fun u : Sg => u = rr) (fun u t => MW D κ b u t.heap) (sg_A b 16)) 0 0 (sg_A b 16) := by
  refine Met.ofW (cc := cX8_makeWanted) (maxL := 5) (ret := none) (by decide) rfl ?_
  intro p e s m args below meth c s₁ B hml hv
  obtain ⟨rfl, hK, hC⟩ := hv
  have hr := B.returns
  have hlocks := B.notSynchronized
  have hl := lv_entry ([.ref b]) (n := 5) (Nat.le_of_ble_eq_true rfl)
  rw [lg_entry_eq]
  generalize (lg_sl ([.ref b]) ++ List.replicate (5 - (lg_sl ([.ref b])).length) Slot.unset).toArray = ls at hl ⊢
  have hl : lv_has ls 5 [(0, .ref b)] := hl
  exact w_X8_makeWanted_B0 ⟨B.exec, B.bytes, hml, findClass_of_methodNamed B.named, atoms_spec (ws := wsX8_makeWanted) B.pre, hK⟩ (fun u H locs pc ls hq hC hS hd => W.vret B.exec B.bytes hr (fun t ht hW => ⟨⟨_, rfl, Option.some.inj hq, MW_e ht hC⟩, hS.F ht⟩) hS.2.2 hd) h  hl hC va_S.rf

-- RecordShelfModel.isAfter(II)Z
theorem dX8_isAfter_0 : decode cX8_isAfter 0 = .ok (.iconst 0, 1) := by decide +kernel
theorem dX8_isAfter_1 : decode cX8_isAfter 1 = .ok (.istore_n 3, 1) := by decide +kernel
theorem dX8_isAfter_2 : decode cX8_isAfter 2 = .ok (.iload_n 3, 1) := by decide +kernel
theorem dX8_isAfter_3 : decode cX8_isAfter 3 = .ok (.bipush 20, 2) := by decide +kernel
theorem dX8_isAfter_5 : decode cX8_isAfter 5 = .ok (.if_icmp .ge 83, 3) := by decide +kernel
theorem dX8_isAfter_8 : decode cX8_isAfter 8 = .ok (.iload_n 3, 1) := by decide +kernel
theorem dX8_isAfter_9 : decode cX8_isAfter 9 = .ok (.aload_n 0, 1) := by decide +kernel
theorem dX8_isAfter_10 : decode cX8_isAfter 10 = .ok (.getfield 53, 3) := by decide +kernel
theorem dX8_isAfter_13 : decode cX8_isAfter 13 = .ok (.iload_n 1, 1) := by decide +kernel
theorem dX8_isAfter_14 : decode cX8_isAfter 14 = .ok (.iaload, 1) := by decide +kernel
theorem dX8_isAfter_15 : decode cX8_isAfter 15 = .ok (.if_icmp .ge 17, 3) := by decide +kernel
theorem dX8_isAfter_18 : decode cX8_isAfter 18 = .ok (.aload_n 0, 1) := by decide +kernel
theorem dX8_isAfter_19 : decode cX8_isAfter 19 = .ok (.getfield 50, 3) := by decide +kernel
theorem dX8_isAfter_22 : decode cX8_isAfter 22 = .ok (.bipush 20, 2) := by decide +kernel
theorem dX8_isAfter_24 : decode cX8_isAfter 24 = .ok (.iload_n 1, 1) := by decide +kernel
theorem dX8_isAfter_25 : decode cX8_isAfter 25 = .ok (.imul, 1) := by decide +kernel
theorem dX8_isAfter_26 : decode cX8_isAfter 26 = .ok (.iload_n 3, 1) := by decide +kernel
theorem dX8_isAfter_27 : decode cX8_isAfter 27 = .ok (.iadd, 1) := by decide +kernel
theorem dX8_isAfter_28 : decode cX8_isAfter 28 = .ok (.iaload, 1) := by decide +kernel
theorem dX8_isAfter_29 : decode cX8_isAfter 29 = .ok (.goto 4, 3) := by decide +kernel
theorem dX8_isAfter_32 : decode cX8_isAfter 32 = .ok (.iconst 0, 1) := by decide +kernel
theorem dX8_isAfter_33 : decode cX8_isAfter 33 = .ok (.istore 4, 2) := by decide +kernel
theorem dX8_isAfter_35 : decode cX8_isAfter 35 = .ok (.iload_n 3, 1) := by decide +kernel
theorem dX8_isAfter_36 : decode cX8_isAfter 36 = .ok (.aload_n 0, 1) := by decide +kernel
theorem dX8_isAfter_37 : decode cX8_isAfter 37 = .ok (.getfield 53, 3) := by decide +kernel
theorem dX8_isAfter_40 : decode cX8_isAfter 40 = .ok (.iload_n 2, 1) := by decide +kernel
theorem dX8_isAfter_41 : decode cX8_isAfter 41 = .ok (.iaload, 1) := by decide +kernel
theorem dX8_isAfter_42 : decode cX8_isAfter 42 = .ok (.if_icmp .ge 17, 3) := by decide +kernel
theorem dX8_isAfter_45 : decode cX8_isAfter 45 = .ok (.aload_n 0, 1) := by decide +kernel
theorem dX8_isAfter_46 : decode cX8_isAfter 46 = .ok (.getfield 50, 3) := by decide +kernel
theorem dX8_isAfter_49 : decode cX8_isAfter 49 = .ok (.bipush 20, 2) := by decide +kernel
theorem dX8_isAfter_51 : decode cX8_isAfter 51 = .ok (.iload_n 2, 1) := by decide +kernel
theorem dX8_isAfter_52 : decode cX8_isAfter 52 = .ok (.imul, 1) := by decide +kernel
theorem dX8_isAfter_53 : decode cX8_isAfter 53 = .ok (.iload_n 3, 1) := by decide +kernel
theorem dX8_isAfter_54 : decode cX8_isAfter 54 = .ok (.iadd, 1) := by decide +kernel
theorem dX8_isAfter_55 : decode cX8_isAfter 55 = .ok (.iaload, 1) := by decide +kernel
theorem dX8_isAfter_56 : decode cX8_isAfter 56 = .ok (.goto 4, 3) := by decide +kernel
theorem dX8_isAfter_59 : decode cX8_isAfter 59 = .ok (.iconst 0, 1) := by decide +kernel
theorem dX8_isAfter_60 : decode cX8_isAfter 60 = .ok (.istore 5, 2) := by decide +kernel
theorem dX8_isAfter_62 : decode cX8_isAfter 62 = .ok (.iload 4, 2) := by decide +kernel
theorem dX8_isAfter_64 : decode cX8_isAfter 64 = .ok (.iload 5, 2) := by decide +kernel
theorem dX8_isAfter_66 : decode cX8_isAfter 66 = .ok (.if_icmp .eq 16, 3) := by decide +kernel
theorem dX8_isAfter_69 : decode cX8_isAfter 69 = .ok (.iload 4, 2) := by decide +kernel
theorem dX8_isAfter_71 : decode cX8_isAfter 71 = .ok (.iload 5, 2) := by decide +kernel
theorem dX8_isAfter_73 : decode cX8_isAfter 73 = .ok (.if_icmp .le 7, 3) := by decide +kernel
theorem dX8_isAfter_76 : decode cX8_isAfter 76 = .ok (.iconst 1, 1) := by decide +kernel
theorem dX8_isAfter_77 : decode cX8_isAfter 77 = .ok (.goto 4, 3) := by decide +kernel
theorem dX8_isAfter_80 : decode cX8_isAfter 80 = .ok (.iconst 0, 1) := by decide +kernel
theorem dX8_isAfter_81 : decode cX8_isAfter 81 = .ok (.ireturn, 1) := by decide +kernel
theorem dX8_isAfter_82 : decode cX8_isAfter 82 = .ok (.iinc 3 1, 3) := by decide +kernel
theorem dX8_isAfter_85 : decode cX8_isAfter 85 = .ok (.goto (-83), 3) := by decide +kernel
theorem dX8_isAfter_88 : decode cX8_isAfter 88 = .ok (.iconst 0, 1) := by decide +kernel
theorem dX8_isAfter_89 : decode cX8_isAfter 89 = .ok (.ireturn, 1) := by decide +kernel
def rm_X8_isAfter : Room := { frames := 0, cells := 0, slots := 0, locals := 0 }
def fn_X8_isAfter_B60 (b : Nat) (σ : Sg) (z2 : Int32 → Int32 → Int32 → Option (Int32)) (x1 : Int32) (x2 : Int32) (x3 : Int32) (x4 : Int32) (y0 : Int32) : Option (Int32) :=
  (if x4 = y0 then
  (sg_lt (x3 + 1 : Int32) fun v1 =>
  z2 x1 x2 v1)
  else (if x4 ≤ y0 then
  some 0
  else some 1))
set_option maxHeartbeats 4000000 in
set_option maxRecDepth 100000 in
theorem w_X8_isAfter_B60 {p : Program} {l : Launch} {e : Env} {s : State} {m : MethodId} {args : Array Value} {below : List Frame} {meth : Method} {c : Code} {Q : State → Prop} {D : va_G} {κ : Nat → ClassId} {b : Nat} {H0 : Heap} {rr : Int32} {σ : Sg} (hZ : sg_Z p c s m args D κ cX8_isAfter 6 RX8 wsX8_isAfter) (hret : ∀ (v : Int32) (H : Heap) (locs : List Loc) (pc : Nat) (ls : Array Slot), some v = some rr → narrow .boolean (.int v) = .int v → MW D κ b σ H → va_S (sg_A b 16) H0 H locs → decode cX8_isAfter pc = .ok (.ireturn, 1) → W p l e rm_X8_isAfter s m args below meth c H locs 0 0 Q (F0 m pc ls [.int v])) {z2 : Int32 → Int32 → Int32 → Option (Int32)} (hr2 : ∀ {x1 : Int32} {x2 : Int32} {x3 : Int32} {H : Heap} {locs : List Loc} {ls : Array Slot}, z2 x1 x2 x3 = some rr → lv_has ls 6 [(0, .ref b), (1, .int x1), (2, .int x2), (3, .int x3)] → MW D κ b σ H → va_S (sg_A b 16) H0 H locs → W p l e rm_X8_isAfter s m args below meth c H locs 0 0 Q (F0 m 2 ls [])) : ∀ {x1 : Int32} {x2 : Int32} {x3 : Int32} {x4 : Int32} {y0 : Int32} {H : Heap} {locs : List Loc} {ls : Array Slot}, fn_X8_isAfter_B60 b σ z2 x1 x2 x3 x4 y0 = some rr → lv_has ls 6 [(0, .ref b), (1, .int x1), (2, .int x2), (3, .int x3), (4, .int x4)] → MW D κ b σ H → va_S (sg_A b 16) H0 H locs → W p l e rm_X8_isAfter s m args below meth c H locs 0 0 Q (F0 m 60 ls [.int y0]) := by
  obtain ⟨hx, hb, hml, hown, hts, hK⟩ := hZ
  intro x1 x2 x3 x4 y0 H locs ls h hl hC hS
  unfold fn_X8_isAfter_B60 at h
  refine lv_istore (lv' := [(5, .int y0), (0, .ref b), (1, .int x1), (2, .int x2), (3, .int x3), (4, .int x4)]) hx hb dX8_isAfter_60 hl (by decide) rfl (fun ls hl => ?_)
  refine lv_iload hx hb dX8_isAfter_62 (lv_at hl 5 rfl) ?_
  refine lv_iload hx hb dX8_isAfter_64 (lv_at hl 0 rfl) ?_
  refine lv_icmp_eq (tgt := 82) hx hb dX8_isAfter_66 (by decide) (fun hc => ?_) (fun hc => ?_)
  · replace h := (if_pos hc).symm.trans h
    obtain ⟨v1, ev1, h⟩ := sg_lte h
    refine lv_iinc (v := v1) (lv' := [(3, .int v1), (5, .int y0), (0, .ref b), (1, .int x1), (2, .int x2), (4, .int x4)]) (k := 4) hx hb dX8_isAfter_82 hl rfl (sg_inc (by decide) ev1) (by decide) rfl (fun ls hl => ?_)
    refine lv_goto (tgt := 2) hx hb dX8_isAfter_85 (by decide) ?_
    exact hr2 h (lv_sub hl [2, 3, 4, 0] rfl) hC hS
  · replace h := (if_neg hc).symm.trans h
    refine lv_iload hx hb dX8_isAfter_69 (lv_at hl 5 rfl) ?_
    refine lv_iload hx hb dX8_isAfter_71 (lv_at hl 0 rfl) ?_
    refine lv_icmp_le (tgt := 80) hx hb dX8_isAfter_73 (by decide) (fun hc => ?_) (fun hc => ?_)
    · replace h := (if_pos hc).symm.trans h
      refine lv_iconst (v := 0) hx hb dX8_isAfter_80 (by decide) ?_
      exact hret _ _ _ _ _ h (by decide) hC hS dX8_isAfter_81
    · replace h := (if_neg hc).symm.trans h
      refine lv_iconst (v := 1) hx hb dX8_isAfter_76 (by decide) ?_
      refine lv_goto (tgt := 81) hx hb dX8_isAfter_77 (by decide) ?_
      exact hret _ _ _ _ _ h (by decide) hC hS dX8_isAfter_81
def fn_X8_isAfter_B33 (b : Nat) (σ : Sg) (z2 : Int32 → Int32 → Int32 → Option (Int32)) (x1 : Int32) (x2 : Int32) (x3 : Int32) (y0 : Int32) : Option (Int32) :=
  (if sg_ib x2 192 then
  (if ((σ.1 (b + 14) (sg_x x2)) : Int32) ≤ x3 then
  fn_X8_isAfter_B60 b σ z2 x1 x2 x3 y0 0
  else (if sg_ib ((20 * x2) + x3) 3840 then
  fn_X8_isAfter_B60 b σ z2 x1 x2 x3 y0 (σ.1 (b + 13) (sg_x ((20 * x2) + x3)))
  else none))
  else none)
set_option maxHeartbeats 4000000 in
set_option maxRecDepth 100000 in
theorem w_X8_isAfter_B33 {p : Program} {l : Launch} {e : Env} {s : State} {m : MethodId} {args : Array Value} {below : List Frame} {meth : Method} {c : Code} {Q : State → Prop} {D : va_G} {κ : Nat → ClassId} {b : Nat} {H0 : Heap} {rr : Int32} {σ : Sg} (hZ : sg_Z p c s m args D κ cX8_isAfter 6 RX8 wsX8_isAfter) (hret : ∀ (v : Int32) (H : Heap) (locs : List Loc) (pc : Nat) (ls : Array Slot), some v = some rr → narrow .boolean (.int v) = .int v → MW D κ b σ H → va_S (sg_A b 16) H0 H locs → decode cX8_isAfter pc = .ok (.ireturn, 1) → W p l e rm_X8_isAfter s m args below meth c H locs 0 0 Q (F0 m pc ls [.int v])) {z2 : Int32 → Int32 → Int32 → Option (Int32)} (hr2 : ∀ {x1 : Int32} {x2 : Int32} {x3 : Int32} {H : Heap} {locs : List Loc} {ls : Array Slot}, z2 x1 x2 x3 = some rr → lv_has ls 6 [(0, .ref b), (1, .int x1), (2, .int x2), (3, .int x3)] → MW D κ b σ H → va_S (sg_A b 16) H0 H locs → W p l e rm_X8_isAfter s m args below meth c H locs 0 0 Q (F0 m 2 ls [])) : ∀ {x1 : Int32} {x2 : Int32} {x3 : Int32} {y0 : Int32} {H : Heap} {locs : List Loc} {ls : Array Slot}, fn_X8_isAfter_B33 b σ z2 x1 x2 x3 y0 = some rr → lv_has ls 6 [(0, .ref b), (1, .int x1), (2, .int x2), (3, .int x3)] → MW D κ b σ H → va_S (sg_A b 16) H0 H locs → W p l e rm_X8_isAfter s m args below meth c H locs 0 0 Q (F0 m 33 ls [.int y0]) := by
  obtain ⟨hx, hb, hml, hown, hts, hK⟩ := hZ
  intro x1 x2 x3 y0 H locs ls h hl hC hS
  unfold fn_X8_isAfter_B33 at h
  refine lv_istore (lv' := [(4, .int y0), (0, .ref b), (1, .int x1), (2, .int x2), (3, .int x3)]) hx hb dX8_isAfter_33 hl (by decide) rfl (fun ls hl => ?_)
  refine lv_iload_n hx hb dX8_isAfter_35 rfl (lv_at hl 4 rfl) ?_
  refine lv_aload_n hx hb dX8_isAfter_36 rfl (lv_at hl 1 rfl) ?_
  refine va_get (D := D) (ci := 8) (v := .ref (b + 14)) (C := RX8) (T := TX8) (N := 21) hx hb hts (wqs inW_X8) hown hK.1 hC.1 (b - b) sg_gModel rfl 18 (by decide) (hts _ (wq wt_666)) (fun _ h9 => h9) rfl dX8_isAfter_37 ?_
  refine lv_iload_n hx hb dX8_isAfter_40 rfl (lv_at hl 3 rfl) ?_
  obtain ⟨hg, h⟩ := sg_gd h
  refine va_iald hx hb hK.1 hC.1 ((b + 14) - b) 0 sg_ga_keySizes rfl (sg_in hg) dX8_isAfter_41 ?_
  refine lv_icmp_ge (tgt := 59) hx hb dX8_isAfter_42 (by decide) (fun hc => ?_) (fun hc => ?_)
  · replace h := (if_pos hc).symm.trans h
    refine lv_iconst (v := 0) hx hb dX8_isAfter_59 (by decide) ?_
    exact w_X8_isAfter_B60 ⟨hx, hb, hml, hown, hts, hK⟩ hret hr2 h (lv_sub hl [1, 2, 3, 4, 0] rfl) hC hS
  · replace h := (if_neg hc).symm.trans h
    refine lv_aload_n hx hb dX8_isAfter_45 rfl (lv_at hl 1 rfl) ?_
    refine va_get (D := D) (ci := 8) (v := .ref (b + 13)) (C := RX8) (T := TX8) (N := 21) hx hb hts (wqs inW_X8) hown hK.1 hC.1 (b - b) sg_gModel rfl 17 (by decide) (hts _ (wq wt_665)) (fun _ h9 => h9) rfl dX8_isAfter_46 ?_
    refine lv_bipush (v := 20) hx hb dX8_isAfter_49 (by decide) ?_
    refine lv_iload_n hx hb dX8_isAfter_51 rfl (lv_at hl 3 rfl) ?_
    refine lv_imul hx hb dX8_isAfter_52 ?_
    refine lv_iload_n hx hb dX8_isAfter_53 rfl (lv_at hl 4 rfl) ?_
    refine lv_iadd hx hb dX8_isAfter_54 ?_
    obtain ⟨hg, h⟩ := sg_gd h
    refine va_iald hx hb hK.1 hC.1 ((b + 13) - b) 0 sg_ga_keys rfl (sg_in hg) dX8_isAfter_55 ?_
    refine lv_goto (tgt := 60) hx hb dX8_isAfter_56 (by decide) ?_
    exact w_X8_isAfter_B60 ⟨hx, hb, hml, hown, hts, hK⟩ hret hr2 h (lv_sub hl [1, 2, 3, 4, 0] rfl) hC hS
def fn_X8_isAfter_B2b (b : Nat) (σ : Sg) (z2 : Int32 → Int32 → Int32 → Option (Int32)) (x1 : Int32) (x2 : Int32) (x3 : Int32) : Option (Int32) :=
  (if (20 : Int32) ≤ x3 then
  some 0
  else (if sg_ib x1 192 then
  (if ((σ.1 (b + 14) (sg_x x1)) : Int32) ≤ x3 then
  fn_X8_isAfter_B33 b σ z2 x1 x2 x3 0
  else (if sg_ib ((20 * x1) + x3) 3840 then
  fn_X8_isAfter_B33 b σ z2 x1 x2 x3 (σ.1 (b + 13) (sg_x ((20 * x1) + x3)))
  else none))
  else none))
def fn_X8_isAfter_B2 (b : Nat) (σ : Sg) : Nat → Int32 → Int32 → Int32 → Option (Int32)
  | 0 => fun _ _ _ => none
  | n + 1 => fun x1 x2 x3 => fn_X8_isAfter_B2b b σ (fn_X8_isAfter_B2 b σ n) x1 x2 x3
set_option maxHeartbeats 4000000 in
set_option maxRecDepth 100000 in
theorem w_X8_isAfter_B2b {p : Program} {l : Launch} {e : Env} {s : State} {m : MethodId} {args : Array Value} {below : List Frame} {meth : Method} {c : Code} {Q : State → Prop} {D : va_G} {κ : Nat → ClassId} {b : Nat} {H0 : Heap} {rr : Int32} {σ : Sg} (hZ : sg_Z p c s m args D κ cX8_isAfter 6 RX8 wsX8_isAfter) (hret : ∀ (v : Int32) (H : Heap) (locs : List Loc) (pc : Nat) (ls : Array Slot), some v = some rr → narrow .boolean (.int v) = .int v → MW D κ b σ H → va_S (sg_A b 16) H0 H locs → decode cX8_isAfter pc = .ok (.ireturn, 1) → W p l e rm_X8_isAfter s m args below meth c H locs 0 0 Q (F0 m pc ls [.int v])) {z2 : Int32 → Int32 → Int32 → Option (Int32)} (hr2 : ∀ {x1 : Int32} {x2 : Int32} {x3 : Int32} {H : Heap} {locs : List Loc} {ls : Array Slot}, z2 x1 x2 x3 = some rr → lv_has ls 6 [(0, .ref b), (1, .int x1), (2, .int x2), (3, .int x3)] → MW D κ b σ H → va_S (sg_A b 16) H0 H locs → W p l e rm_X8_isAfter s m args below meth c H locs 0 0 Q (F0 m 2 ls [])) : ∀ {x1 : Int32} {x2 : Int32} {x3 : Int32} {H : Heap} {locs : List Loc} {ls : Array Slot}, fn_X8_isAfter_B2b b σ z2 x1 x2 x3 = some rr → lv_has ls 6 [(0, .ref b), (1, .int x1), (2, .int x2), (3, .int x3)] → MW D κ b σ H → va_S (sg_A b 16) H0 H locs → W p l e rm_X8_isAfter s m args below meth c H locs 0 0 Q (F0 m 2 ls []) := by
  obtain ⟨hx, hb, hml, hown, hts, hK⟩ := hZ
  intro x1 x2 x3 H locs ls h hl hC hS
  unfold fn_X8_isAfter_B2b at h
  refine lv_iload_n hx hb dX8_isAfter_2 rfl (lv_at hl 3 rfl) ?_
  refine lv_bipush (v := 20) hx hb dX8_isAfter_3 (by decide) ?_
  refine lv_icmp_ge (tgt := 88) hx hb dX8_isAfter_5 (by decide) (fun hc => ?_) (fun hc => ?_)
  · replace h := (if_pos hc).symm.trans h
    refine lv_iconst (v := 0) hx hb dX8_isAfter_88 (by decide) ?_
    exact hret _ _ _ _ _ h (by decide) hC hS dX8_isAfter_89
  · replace h := (if_neg hc).symm.trans h
    refine lv_iload_n hx hb dX8_isAfter_8 rfl (lv_at hl 3 rfl) ?_
    refine lv_aload_n hx hb dX8_isAfter_9 rfl (lv_at hl 0 rfl) ?_
    refine va_get (D := D) (ci := 8) (v := .ref (b + 14)) (C := RX8) (T := TX8) (N := 21) hx hb hts (wqs inW_X8) hown hK.1 hC.1 (b - b) sg_gModel rfl 18 (by decide) (hts _ (wq wt_666)) (fun _ h9 => h9) rfl dX8_isAfter_10 ?_
    refine lv_iload_n hx hb dX8_isAfter_13 rfl (lv_at hl 1 rfl) ?_
    obtain ⟨hg, h⟩ := sg_gd h
    refine va_iald hx hb hK.1 hC.1 ((b + 14) - b) 0 sg_ga_keySizes rfl (sg_in hg) dX8_isAfter_14 ?_
    refine lv_icmp_ge (tgt := 32) hx hb dX8_isAfter_15 (by decide) (fun hc => ?_) (fun hc => ?_)
    · replace h := (if_pos hc).symm.trans h
      refine lv_iconst (v := 0) hx hb dX8_isAfter_32 (by decide) ?_
      exact w_X8_isAfter_B33 ⟨hx, hb, hml, hown, hts, hK⟩ hret hr2 h (lv_sub hl [0, 1, 2, 3] rfl) hC hS
    · replace h := (if_neg hc).symm.trans h
      refine lv_aload_n hx hb dX8_isAfter_18 rfl (lv_at hl 0 rfl) ?_
      refine va_get (D := D) (ci := 8) (v := .ref (b + 13)) (C := RX8) (T := TX8) (N := 21) hx hb hts (wqs inW_X8) hown hK.1 hC.1 (b - b) sg_gModel rfl 17 (by decide) (hts _ (wq wt_665)) (fun _ h9 => h9) rfl dX8_isAfter_19 ?_
      refine lv_bipush (v := 20) hx hb dX8_isAfter_22 (by decide) ?_
      refine lv_iload_n hx hb dX8_isAfter_24 rfl (lv_at hl 1 rfl) ?_
      refine lv_imul hx hb dX8_isAfter_25 ?_
      refine lv_iload_n hx hb dX8_isAfter_26 rfl (lv_at hl 3 rfl) ?_
      refine lv_iadd hx hb dX8_isAfter_27 ?_
      obtain ⟨hg, h⟩ := sg_gd h
      refine va_iald hx hb hK.1 hC.1 ((b + 13) - b) 0 sg_ga_keys rfl (sg_in hg) dX8_isAfter_28 ?_
      refine lv_goto (tgt := 33) hx hb dX8_isAfter_29 (by decide) ?_
      exact w_X8_isAfter_B33 ⟨hx, hb, hml, hown, hts, hK⟩ hret hr2 h (lv_sub hl [0, 1, 2, 3] rfl) hC hS
set_option maxHeartbeats 4000000 in
theorem w_X8_isAfter_B2 {p : Program} {l : Launch} {e : Env} {s : State} {m : MethodId} {args : Array Value} {below : List Frame} {meth : Method} {c : Code} {Q : State → Prop} {D : va_G} {κ : Nat → ClassId} {b : Nat} {H0 : Heap} {rr : Int32} {σ : Sg} (hZ : sg_Z p c s m args D κ cX8_isAfter 6 RX8 wsX8_isAfter) (hret : ∀ (v : Int32) (H : Heap) (locs : List Loc) (pc : Nat) (ls : Array Slot), some v = some rr → narrow .boolean (.int v) = .int v → MW D κ b σ H → va_S (sg_A b 16) H0 H locs → decode cX8_isAfter pc = .ok (.ireturn, 1) → W p l e rm_X8_isAfter s m args below meth c H locs 0 0 Q (F0 m pc ls [.int v])) : ∀ n : Nat, ∀ {x1 : Int32} {x2 : Int32} {x3 : Int32} {H : Heap} {locs : List Loc} {ls : Array Slot}, fn_X8_isAfter_B2 b σ n x1 x2 x3 = some rr → lv_has ls 6 [(0, .ref b), (1, .int x1), (2, .int x2), (3, .int x3)] → MW D κ b σ H → va_S (sg_A b 16) H0 H locs → W p l e rm_X8_isAfter s m args below meth c H locs 0 0 Q (F0 m 2 ls []) := by
  intro n
  induction n with
  | zero => intro x1 x2 x3 H locs ls h hl hC hS; cases (show (none : Option (Int32)) = some rr from h)
  | succ n ih =>
    intro x1 x2 x3 H locs ls h hl hC hS
    exact w_X8_isAfter_B2b hZ hret ih (show fn_X8_isAfter_B2b b σ (fn_X8_isAfter_B2 b σ n) x1 x2 x3 = some rr from h)  hl hC hS
def fn_X8_isAfter (b : Nat) (σ : Sg) (x1 : Int32) (x2 : Int32) : Option (Int32) :=
  fn_X8_isAfter_B2 b σ sg_N x1 x2 0
set_option maxHeartbeats 4000000 in
set_option maxRecDepth 100000 in
theorem w_X8_isAfter_B0 {p : Program} {l : Launch} {e : Env} {s : State} {m : MethodId} {args : Array Value} {below : List Frame} {meth : Method} {c : Code} {Q : State → Prop} {D : va_G} {κ : Nat → ClassId} {b : Nat} {H0 : Heap} {rr : Int32} {σ : Sg} (hZ : sg_Z p c s m args D κ cX8_isAfter 6 RX8 wsX8_isAfter) (hret : ∀ (v : Int32) (H : Heap) (locs : List Loc) (pc : Nat) (ls : Array Slot), some v = some rr → narrow .boolean (.int v) = .int v → MW D κ b σ H → va_S (sg_A b 16) H0 H locs → decode cX8_isAfter pc = .ok (.ireturn, 1) → W p l e rm_X8_isAfter s m args below meth c H locs 0 0 Q (F0 m pc ls [.int v])) : ∀ {x1 : Int32} {x2 : Int32} {H : Heap} {locs : List Loc} {ls : Array Slot}, fn_X8_isAfter b σ x1 x2 = some rr → lv_has ls 6 [(0, .ref b), (1, .int x1), (2, .int x2)] → MW D κ b σ H → va_S (sg_A b 16) H0 H locs → W p l e rm_X8_isAfter s m args below meth c H locs 0 0 Q (F0 m 0 ls []) := by
  obtain ⟨hx, hb, hml, hown, hts, hK⟩ := hZ
  intro x1 x2 H locs ls h hl hC hS
  unfold fn_X8_isAfter at h
  refine lv_iconst (v := 0) hx hb dX8_isAfter_0 (by decide) ?_
  refine lv_istore_n (lv' := [(3, .int 0), (0, .ref b), (1, .int x1), (2, .int x2)]) hx hb dX8_isAfter_1 rfl hl (by decide) rfl (fun ls hl => ?_)
  exact w_X8_isAfter_B2 ⟨hx, hb, hml, hown, hts, hK⟩ hret  sg_N h (lv_sub hl [1, 2, 3, 0] rfl) hC hS
set_option maxHeartbeats 4000000 in
set_option maxRecDepth 100000 in
theorem c_X8_isAfter (l : Launch) (D : va_G) (κ : Nat → ClassId) (b : Nat) (σ : Sg) (x1 : Int32) (x2 : Int32) (rr : Int32)  (h : fn_X8_isAfter b σ x1 x2 = some rr) : Met l yX8_isAfter wsX8_isAfter rm_X8_isAfter (va_Pc [.ref b, .int x1, .int x2] (fun U => KK D κ U ∧ MW D κ b σ U.heap)) (va_Qi (fun (r : Int32) (u : Sg) => r = rr ∧ u = σ) (fun u t => MW D κ b u t.heap) (sg_A b 16)) 0 0 (sg_A b 16) := by
  refine Met.ofW (cc := cX8_isAfter) (maxL := 6) (ret := (some .boolean)) (by decide) rfl ?_
  intro p e s m args below meth c s₁ B hml hv
  obtain ⟨rfl, hK, hC⟩ := hv
  have hr := B.returns
  have hlocks := B.notSynchronized
  have hl := lv_entry ([.ref b, .int x1, .int x2]) (n := 6) (Nat.le_of_ble_eq_true rfl)
  rw [lg_entry_eq]
  generalize (lg_sl ([.ref b, .int x1, .int x2]) ++ List.replicate (6 - (lg_sl ([.ref b, .int x1, .int x2])).length) Slot.unset).toArray = ls at hl ⊢
  have hl : lv_has ls 6 [(0, .ref b), (1, .int x1), (2, .int x2)] := hl
  exact w_X8_isAfter_B0 ⟨B.exec, B.bytes, hml, findClass_of_methodNamed B.named, atoms_spec (ws := wsX8_isAfter) B.pre, hK⟩ (fun v H locs pc ls hq hbo hC hS hd => W.zret B.exec B.bytes hr hbo (fun t ht hW => ⟨⟨v, _, rfl, ⟨Option.some.inj hq, rfl⟩, MW_e ht hC⟩, hS.F ht⟩) hS.2.2 hd) h  hl hC va_S.rf

-- RecordShelfModel.hasCode(II)Z
theorem dX8_hasCode_0 : decode cX8_hasCode 0 = .ok (.iload_n 2, 1) := by decide +kernel
theorem dX8_hasCode_1 : decode cX8_hasCode 1 = .ok (.bipush 42, 2) := by decide +kernel
theorem dX8_hasCode_3 : decode cX8_hasCode 3 = .ok (.if_icmp .eq 13, 3) := by decide +kernel
theorem dX8_hasCode_6 : decode cX8_hasCode 6 = .ok (.aload_n 0, 1) := by decide +kernel
theorem dX8_hasCode_7 : decode cX8_hasCode 7 = .ok (.getfield 31, 3) := by decide +kernel
theorem dX8_hasCode_10 : decode cX8_hasCode 10 = .ok (.iload_n 1, 1) := by decide +kernel
theorem dX8_hasCode_11 : decode cX8_hasCode 11 = .ok (.iaload, 1) := by decide +kernel
theorem dX8_hasCode_12 : decode cX8_hasCode 12 = .ok (.iload_n 2, 1) := by decide +kernel
theorem dX8_hasCode_13 : decode cX8_hasCode 13 = .ok (.if_icmp .ne 7, 3) := by decide +kernel
theorem dX8_hasCode_16 : decode cX8_hasCode 16 = .ok (.iconst 1, 1) := by decide +kernel
theorem dX8_hasCode_17 : decode cX8_hasCode 17 = .ok (.goto 4, 3) := by decide +kernel
theorem dX8_hasCode_20 : decode cX8_hasCode 20 = .ok (.iconst 0, 1) := by decide +kernel
theorem dX8_hasCode_21 : decode cX8_hasCode 21 = .ok (.ireturn, 1) := by decide +kernel
def rm_X8_hasCode : Room := { frames := 0, cells := 0, slots := 0, locals := 0 }
def fn_X8_hasCode_B16 (b : Nat) (σ : Sg) : Option (Int32) :=
  some 1
set_option maxHeartbeats 4000000 in
set_option maxRecDepth 100000 in
theorem w_X8_hasCode_B16 {p : Program} {l : Launch} {e : Env} {s : State} {m : MethodId} {args : Array Value} {below : List Frame} {meth : Method} {c : Code} {Q : State → Prop} {D : va_G} {κ : Nat → ClassId} {b : Nat} {H0 : Heap} {rr : Int32} {σ : Sg} (hZ : sg_Z p c s m args D κ cX8_hasCode 3 RX8 wsX8_hasCode) (hret : ∀ (v : Int32) (H : Heap) (locs : List Loc) (pc : Nat) (ls : Array Slot), some v = some rr → narrow .boolean (.int v) = .int v → MW D κ b σ H → va_S (sg_A b 16) H0 H locs → decode cX8_hasCode pc = .ok (.ireturn, 1) → W p l e rm_X8_hasCode s m args below meth c H locs 0 0 Q (F0 m pc ls [.int v])) : ∀ {H : Heap} {locs : List Loc} {ls : Array Slot}, fn_X8_hasCode_B16 b σ = some rr → lv_has ls 3 [] → MW D κ b σ H → va_S (sg_A b 16) H0 H locs → W p l e rm_X8_hasCode s m args below meth c H locs 0 0 Q (F0 m 16 ls []) := by
  obtain ⟨hx, hb, hml, hown, hts, hK⟩ := hZ
  intro H locs ls h hl hC hS
  unfold fn_X8_hasCode_B16 at h
  refine lv_iconst (v := 1) hx hb dX8_hasCode_16 (by decide) ?_
  refine lv_goto (tgt := 21) hx hb dX8_hasCode_17 (by decide) ?_
  exact hret _ _ _ _ _ h (by decide) hC hS dX8_hasCode_21
def fn_X8_hasCode (b : Nat) (σ : Sg) (x1 : Int32) (x2 : Int32) : Option (Int32) :=
  (if x2 = 42 then
  fn_X8_hasCode_B16 b σ
  else (if sg_ib x1 192 then
  (if (σ.1 (b + 8) (sg_x x1)) = x2 then
  fn_X8_hasCode_B16 b σ
  else some 0)
  else none))
set_option maxHeartbeats 4000000 in
set_option maxRecDepth 100000 in
theorem w_X8_hasCode_B0 {p : Program} {l : Launch} {e : Env} {s : State} {m : MethodId} {args : Array Value} {below : List Frame} {meth : Method} {c : Code} {Q : State → Prop} {D : va_G} {κ : Nat → ClassId} {b : Nat} {H0 : Heap} {rr : Int32} {σ : Sg} (hZ : sg_Z p c s m args D κ cX8_hasCode 3 RX8 wsX8_hasCode) (hret : ∀ (v : Int32) (H : Heap) (locs : List Loc) (pc : Nat) (ls : Array Slot), some v = some rr → narrow .boolean (.int v) = .int v → MW D κ b σ H → va_S (sg_A b 16) H0 H locs → decode cX8_hasCode pc = .ok (.ireturn, 1) → W p l e rm_X8_hasCode s m args below meth c H locs 0 0 Q (F0 m pc ls [.int v])) : ∀ {x1 : Int32} {x2 : Int32} {H : Heap} {locs : List Loc} {ls : Array Slot}, fn_X8_hasCode b σ x1 x2 = some rr → lv_has ls 3 [(0, .ref b), (1, .int x1), (2, .int x2)] → MW D κ b σ H → va_S (sg_A b 16) H0 H locs → W p l e rm_X8_hasCode s m args below meth c H locs 0 0 Q (F0 m 0 ls []) := by
  obtain ⟨hx, hb, hml, hown, hts, hK⟩ := hZ
  intro x1 x2 H locs ls h hl hC hS
  unfold fn_X8_hasCode at h
  refine lv_iload_n hx hb dX8_hasCode_0 rfl (lv_at hl 2 rfl) ?_
  refine lv_bipush (v := 42) hx hb dX8_hasCode_1 (by decide) ?_
  refine lv_icmp_eq (tgt := 16) hx hb dX8_hasCode_3 (by decide) (fun hc => ?_) (fun hc => ?_)
  · replace h := (if_pos hc).symm.trans h
    exact w_X8_hasCode_B16 ⟨hx, hb, hml, hown, hts, hK⟩ hret  h (lv_sub hl [] rfl) hC hS
  · replace h := (if_neg hc).symm.trans h
    refine lv_aload_n hx hb dX8_hasCode_6 rfl (lv_at hl 0 rfl) ?_
    refine va_get (D := D) (ci := 8) (v := .ref (b + 8)) (C := RX8) (T := TX8) (N := 21) hx hb hts (wqs inW_X8) hown hK.1 hC.1 (b - b) sg_gModel rfl 9 (by decide) (hts _ (wq wt_657)) (fun _ h9 => h9) rfl dX8_hasCode_7 ?_
    refine lv_iload_n hx hb dX8_hasCode_10 rfl (lv_at hl 1 rfl) ?_
    obtain ⟨hg, h⟩ := sg_gd h
    refine va_iald hx hb hK.1 hC.1 ((b + 8) - b) 0 sg_ga_codes rfl (sg_in hg) dX8_hasCode_11 ?_
    refine lv_iload_n hx hb dX8_hasCode_12 rfl (lv_at hl 2 rfl) ?_
    refine lv_icmp_ne (tgt := 20) hx hb dX8_hasCode_13 (by decide) (fun hc => ?_) (fun hc => ?_)
    · replace h := (if_neg hc).symm.trans h
      refine lv_iconst (v := 0) hx hb dX8_hasCode_20 (by decide) ?_
      exact hret _ _ _ _ _ h (by decide) hC hS dX8_hasCode_21
    · replace h := (if_pos hc).symm.trans h
      exact w_X8_hasCode_B16 ⟨hx, hb, hml, hown, hts, hK⟩ hret  h (lv_sub hl [] rfl) hC hS
set_option maxHeartbeats 4000000 in
set_option maxRecDepth 100000 in
theorem c_X8_hasCode (l : Launch) (D : va_G) (κ : Nat → ClassId) (b : Nat) (σ : Sg) (x1 : Int32) (x2 : Int32) (rr : Int32)  (h : fn_X8_hasCode b σ x1 x2 = some rr) : Met l yX8_hasCode wsX8_hasCode rm_X8_hasCode (va_Pc [.ref b, .int x1, .int x2] (fun U => KK D κ U ∧ MW D κ b σ U.heap)) (va_Qi (fun (r : Int32) (u : Sg) => r = rr ∧ u = σ) (fun u t => MW D κ b u t.heap) (sg_A b 16)) 0 0 (sg_A b 16) := by
  refine Met.ofW (cc := cX8_hasCode) (maxL := 3) (ret := (some .boolean)) (by decide) rfl ?_
  intro p e s m args below meth c s₁ B hml hv
  obtain ⟨rfl, hK, hC⟩ := hv
  have hr := B.returns
  have hlocks := B.notSynchronized
  have hl := lv_entry ([.ref b, .int x1, .int x2]) (n := 3) (Nat.le_of_ble_eq_true rfl)
  rw [lg_entry_eq]
  generalize (lg_sl ([.ref b, .int x1, .int x2]) ++ List.replicate (3 - (lg_sl ([.ref b, .int x1, .int x2])).length) Slot.unset).toArray = ls at hl ⊢
  have hl : lv_has ls 3 [(0, .ref b), (1, .int x1), (2, .int x2)] := hl
  exact w_X8_hasCode_B0 ⟨B.exec, B.bytes, hml, findClass_of_methodNamed B.named, atoms_spec (ws := wsX8_hasCode) B.pre, hK⟩ (fun v H locs pc ls hq hbo hC hS hd => W.zret B.exec B.bytes hr hbo (fun t ht hW => ⟨⟨v, _, rfl, ⟨Option.some.inj hq, rfl⟩, MW_e ht hC⟩, hS.F ht⟩) hS.2.2 hd) h  hl hC va_S.rf

-- RecordShelfModel.list(IC)I
theorem dX8_list_0 : decode cX8_list 0 = .ok (.aload_n 0, 1) := by decide +kernel
theorem dX8_list_1 : decode cX8_list 1 = .ok (.iconst 0, 1) := by decide +kernel
theorem dX8_list_2 : decode cX8_list 2 = .ok (.putfield 152, 3) := by decide +kernel
theorem dX8_list_5 : decode cX8_list 5 = .ok (.iload_n 1, 1) := by decide +kernel
theorem dX8_list_6 : decode cX8_list 6 = .ok (.iconst 1, 1) := by decide +kernel
theorem dX8_list_7 : decode cX8_list 7 = .ok (.if_icmp .lt 10, 3) := by decide +kernel
theorem dX8_list_10 : decode cX8_list 10 = .ok (.iload_n 1, 1) := by decide +kernel
theorem dX8_list_11 : decode cX8_list 11 = .ok (.sipush 999, 3) := by decide +kernel
theorem dX8_list_14 : decode cX8_list 14 = .ok (.if_icmp .le 5, 3) := by decide +kernel
theorem dX8_list_17 : decode cX8_list 17 = .ok (.iconst (-1), 1) := by decide +kernel
theorem dX8_list_18 : decode cX8_list 18 = .ok (.ireturn, 1) := by decide +kernel
theorem dX8_list_19 : decode cX8_list 19 = .ok (.iconst 0, 1) := by decide +kernel
theorem dX8_list_20 : decode cX8_list 20 = .ok (.istore_n 3, 1) := by decide +kernel
theorem dX8_list_21 : decode cX8_list 21 = .ok (.iload_n 3, 1) := by decide +kernel
theorem dX8_list_22 : decode cX8_list 22 = .ok (.bipush 48, 2) := by decide +kernel
theorem dX8_list_24 : decode cX8_list 24 = .ok (.if_icmp .ge 158, 3) := by decide +kernel
theorem dX8_list_27 : decode cX8_list 27 = .ok (.aload_n 0, 1) := by decide +kernel
theorem dX8_list_28 : decode cX8_list 28 = .ok (.iload_n 3, 1) := by decide +kernel
theorem dX8_list_29 : decode cX8_list 29 = .ok (.bipush 8, 2) := by decide +kernel
theorem dX8_list_31 : decode cX8_list 31 = .ok (.idiv, 1) := by decide +kernel
theorem dX8_list_32 : decode cX8_list 32 = .ok (.iload_n 3, 1) := by decide +kernel
theorem dX8_list_33 : decode cX8_list 33 = .ok (.bipush 8, 2) := by decide +kernel
theorem dX8_list_35 : decode cX8_list 35 = .ok (.irem, 1) := by decide +kernel
theorem dX8_list_36 : decode cX8_list 36 = .ok (.invokevirtual 128, 3) := by decide +kernel
theorem dX8_list_39 : decode cX8_list 39 = .ok (.ifCond .eq 17, 3) := by decide +kernel
theorem dX8_list_42 : decode cX8_list 42 = .ok (.aload_n 0, 1) := by decide +kernel
theorem dX8_list_43 : decode cX8_list 43 = .ok (.getfield 19, 3) := by decide +kernel
theorem dX8_list_46 : decode cX8_list 46 = .ok (.iload_n 3, 1) := by decide +kernel
theorem dX8_list_47 : decode cX8_list 47 = .ok (.iaload, 1) := by decide +kernel
theorem dX8_list_48 : decode cX8_list 48 = .ok (.iload_n 1, 1) := by decide +kernel
theorem dX8_list_49 : decode cX8_list 49 = .ok (.if_icmp .ne 7, 3) := by decide +kernel
theorem dX8_list_52 : decode cX8_list 52 = .ok (.iconst 1, 1) := by decide +kernel
theorem dX8_list_53 : decode cX8_list 53 = .ok (.goto 4, 3) := by decide +kernel
theorem dX8_list_56 : decode cX8_list 56 = .ok (.iconst 0, 1) := by decide +kernel
theorem dX8_list_57 : decode cX8_list 57 = .ok (.istore 4, 2) := by decide +kernel
theorem dX8_list_59 : decode cX8_list 59 = .ok (.iconst 4, 1) := by decide +kernel
theorem dX8_list_60 : decode cX8_list 60 = .ok (.iload_n 3, 1) := by decide +kernel
theorem dX8_list_61 : decode cX8_list 61 = .ok (.imul, 1) := by decide +kernel
theorem dX8_list_62 : decode cX8_list 62 = .ok (.istore 5, 2) := by decide +kernel
theorem dX8_list_64 : decode cX8_list 64 = .ok (.iload 4, 2) := by decide +kernel
theorem dX8_list_66 : decode cX8_list 66 = .ok (.ifCond .eq 110, 3) := by decide +kernel
theorem dX8_list_69 : decode cX8_list 69 = .ok (.iload 5, 2) := by decide +kernel
theorem dX8_list_71 : decode cX8_list 71 = .ok (.iconst 4, 1) := by decide +kernel
theorem dX8_list_72 : decode cX8_list 72 = .ok (.iload_n 3, 1) := by decide +kernel
theorem dX8_list_73 : decode cX8_list 73 = .ok (.imul, 1) := by decide +kernel
theorem dX8_list_74 : decode cX8_list 74 = .ok (.aload_n 0, 1) := by decide +kernel
theorem dX8_list_75 : decode cX8_list 75 = .ok (.getfield 28, 3) := by decide +kernel
theorem dX8_list_78 : decode cX8_list 78 = .ok (.iload_n 3, 1) := by decide +kernel
theorem dX8_list_79 : decode cX8_list 79 = .ok (.iaload, 1) := by decide +kernel
theorem dX8_list_80 : decode cX8_list 80 = .ok (.iadd, 1) := by decide +kernel
theorem dX8_list_81 : decode cX8_list 81 = .ok (.if_icmp .ge 95, 3) := by decide +kernel
theorem dX8_list_84 : decode cX8_list 84 = .ok (.aload_n 0, 1) := by decide +kernel
theorem dX8_list_85 : decode cX8_list 85 = .ok (.iload 5, 2) := by decide +kernel
theorem dX8_list_87 : decode cX8_list 87 = .ok (.iload_n 2, 1) := by decide +kernel
theorem dX8_list_88 : decode cX8_list 88 = .ok (.invokevirtual 155, 3) := by decide +kernel
theorem dX8_list_91 : decode cX8_list 91 = .ok (.ifCond .eq 79, 3) := by decide +kernel
theorem dX8_list_94 : decode cX8_list 94 = .ok (.aload_n 0, 1) := by decide +kernel
theorem dX8_list_95 : decode cX8_list 95 = .ok (.iload 5, 2) := by decide +kernel
theorem dX8_list_97 : decode cX8_list 97 = .ok (.invokevirtual 158, 3) := by decide +kernel
theorem dX8_list_100 : decode cX8_list 100 = .ok (.aload_n 0, 1) := by decide +kernel
theorem dX8_list_101 : decode cX8_list 101 = .ok (.getfield 152, 3) := by decide +kernel
theorem dX8_list_104 : decode cX8_list 104 = .ok (.istore 6, 2) := by decide +kernel
theorem dX8_list_106 : decode cX8_list 106 = .ok (.iload 6, 2) := by decide +kernel
theorem dX8_list_108 : decode cX8_list 108 = .ok (.ifCond .le 43, 3) := by decide +kernel
theorem dX8_list_111 : decode cX8_list 111 = .ok (.aload_n 0, 1) := by decide +kernel
theorem dX8_list_112 : decode cX8_list 112 = .ok (.aload_n 0, 1) := by decide +kernel
theorem dX8_list_113 : decode cX8_list 113 = .ok (.getfield 47, 3) := by decide +kernel
theorem dX8_list_116 : decode cX8_list 116 = .ok (.iload 6, 2) := by decide +kernel
theorem dX8_list_118 : decode cX8_list 118 = .ok (.iconst 1, 1) := by decide +kernel
theorem dX8_list_119 : decode cX8_list 119 = .ok (.isub, 1) := by decide +kernel
theorem dX8_list_120 : decode cX8_list 120 = .ok (.iaload, 1) := by decide +kernel
theorem dX8_list_121 : decode cX8_list 121 = .ok (.iload 5, 2) := by decide +kernel
theorem dX8_list_123 : decode cX8_list 123 = .ok (.invokevirtual 161, 3) := by decide +kernel
theorem dX8_list_126 : decode cX8_list 126 = .ok (.ifCond .eq 25, 3) := by decide +kernel
theorem dX8_list_129 : decode cX8_list 129 = .ok (.aload_n 0, 1) := by decide +kernel
theorem dX8_list_130 : decode cX8_list 130 = .ok (.getfield 47, 3) := by decide +kernel
theorem dX8_list_133 : decode cX8_list 133 = .ok (.iload 6, 2) := by decide +kernel
theorem dX8_list_135 : decode cX8_list 135 = .ok (.aload_n 0, 1) := by decide +kernel
theorem dX8_list_136 : decode cX8_list 136 = .ok (.getfield 47, 3) := by decide +kernel
theorem dX8_list_139 : decode cX8_list 139 = .ok (.iload 6, 2) := by decide +kernel
theorem dX8_list_141 : decode cX8_list 141 = .ok (.iconst 1, 1) := by decide +kernel
theorem dX8_list_142 : decode cX8_list 142 = .ok (.isub, 1) := by decide +kernel
theorem dX8_list_143 : decode cX8_list 143 = .ok (.iaload, 1) := by decide +kernel
theorem dX8_list_144 : decode cX8_list 144 = .ok (.iastore, 1) := by decide +kernel
theorem dX8_list_145 : decode cX8_list 145 = .ok (.iinc 6 (-1), 3) := by decide +kernel
theorem dX8_list_148 : decode cX8_list 148 = .ok (.goto (-42), 3) := by decide +kernel
theorem dX8_list_151 : decode cX8_list 151 = .ok (.aload_n 0, 1) := by decide +kernel
theorem dX8_list_152 : decode cX8_list 152 = .ok (.getfield 47, 3) := by decide +kernel
theorem dX8_list_155 : decode cX8_list 155 = .ok (.iload 6, 2) := by decide +kernel
theorem dX8_list_157 : decode cX8_list 157 = .ok (.iload 5, 2) := by decide +kernel
theorem dX8_list_159 : decode cX8_list 159 = .ok (.iastore, 1) := by decide +kernel
theorem dX8_list_160 : decode cX8_list 160 = .ok (.aload_n 0, 1) := by decide +kernel
theorem dX8_list_161 : decode cX8_list 161 = .ok (.dup, 1) := by decide +kernel
theorem dX8_list_162 : decode cX8_list 162 = .ok (.getfield 152, 3) := by decide +kernel
theorem dX8_list_165 : decode cX8_list 165 = .ok (.iconst 1, 1) := by decide +kernel
theorem dX8_list_166 : decode cX8_list 166 = .ok (.iadd, 1) := by decide +kernel
theorem dX8_list_167 : decode cX8_list 167 = .ok (.putfield 152, 3) := by decide +kernel
theorem dX8_list_170 : decode cX8_list 170 = .ok (.iinc 5 1, 3) := by decide +kernel
theorem dX8_list_173 : decode cX8_list 173 = .ok (.goto (-109), 3) := by decide +kernel
theorem dX8_list_176 : decode cX8_list 176 = .ok (.iinc 3 1, 3) := by decide +kernel
theorem dX8_list_179 : decode cX8_list 179 = .ok (.goto (-158), 3) := by decide +kernel
theorem dX8_list_182 : decode cX8_list 182 = .ok (.aload_n 0, 1) := by decide +kernel
theorem dX8_list_183 : decode cX8_list 183 = .ok (.getfield 152, 3) := by decide +kernel
theorem dX8_list_186 : decode cX8_list 186 = .ok (.ireturn, 1) := by decide +kernel
def rm_X8_list : Room := { frames := 4, cells := 0, slots := 0, locals := 85 }
def fn_X8_list_B176 (b : Nat) (z21 : Sg → Int32 → Int32 → Int32 → Option (Int32 × Sg)) (σ : Sg) (x1 : Int32) (x2 : Int32) (x3 : Int32) : Option (Int32 × Sg) :=
  (sg_lt (x3 + 1 : Int32) fun v1 =>
  z21 σ x1 x2 v1)
set_option maxHeartbeats 4000000 in
set_option maxRecDepth 100000 in
theorem w_X8_list_B176 {p : Program} {l : Launch} {e : Env} {s : State} {m : MethodId} {args : Array Value} {below : List Frame} {meth : Method} {c : Code} {Q : State → Prop} {D : va_G} {κ : Nat → ClassId} {b : Nat} {H0 : Heap} {rr : Int32 × Sg} (hZ : sg_Z p c s m args D κ cX8_list 7 RX8 wsX8_list) (hret : ∀ (v : Int32) (u : Sg) (H : Heap) (locs : List Loc) (pc : Nat) (ls : Array Slot), some (v, u) = some rr → MW D κ b u H → va_S (sg_A b 16) H0 H locs → decode cX8_list pc = .ok (.ireturn, 1) → W p l e rm_X8_list s m args below meth c H locs 0 0 Q (F0 m pc ls [.int v])) {z21 : Sg → Int32 → Int32 → Int32 → Option (Int32 × Sg)} (hr21 : ∀ {σ : Sg} {x1 : Int32} {x2 : Int32} {x3 : Int32} {H : Heap} {locs : List Loc} {ls : Array Slot}, z21 σ x1 x2 x3 = some rr → lv_has ls 7 [(0, .ref b), (1, .int x1), (2, .int x2), (3, .int x3)] → MW D κ b σ H → va_S (sg_A b 16) H0 H locs → W p l e rm_X8_list s m args below meth c H locs 0 0 Q (F0 m 21 ls [])) : ∀ {σ : Sg} {x1 : Int32} {x2 : Int32} {x3 : Int32} {H : Heap} {locs : List Loc} {ls : Array Slot}, fn_X8_list_B176 b z21 σ x1 x2 x3 = some rr → lv_has ls 7 [(0, .ref b), (1, .int x1), (2, .int x2), (3, .int x3)] → MW D κ b σ H → va_S (sg_A b 16) H0 H locs → W p l e rm_X8_list s m args below meth c H locs 0 0 Q (F0 m 176 ls []) := by
  obtain ⟨hx, hb, hml, hown, hts, hK⟩ := hZ
  intro σ x1 x2 x3 H locs ls h hl hC hS
  unfold fn_X8_list_B176 at h
  obtain ⟨v1, ev1, h⟩ := sg_lte h
  refine lv_iinc (v := v1) (lv' := [(3, .int v1), (0, .ref b), (1, .int x1), (2, .int x2)]) (k := 3) hx hb dX8_list_176 hl rfl (sg_inc (by decide) ev1) (by decide) rfl (fun ls hl => ?_)
  refine lv_goto (tgt := 21) hx hb dX8_list_179 (by decide) ?_
  exact hr21 h (lv_sub hl [1, 2, 3, 0] rfl) hC hS
def fn_X8_list_B170 (b : Nat) (z21 : Sg → Int32 → Int32 → Int32 → Option (Int32 × Sg)) (z64 : Sg → Int32 → Int32 → Int32 → Int32 → Int32 → Option (Int32 × Sg)) (σ : Sg) (x1 : Int32) (x2 : Int32) (x3 : Int32) (x4 : Int32) (x5 : Int32) : Option (Int32 × Sg) :=
  (sg_lt (x5 + 1 : Int32) fun v1 =>
  z64 σ x1 x2 x3 x4 v1)
set_option maxHeartbeats 4000000 in
set_option maxRecDepth 100000 in
theorem w_X8_list_B170 {p : Program} {l : Launch} {e : Env} {s : State} {m : MethodId} {args : Array Value} {below : List Frame} {meth : Method} {c : Code} {Q : State → Prop} {D : va_G} {κ : Nat → ClassId} {b : Nat} {H0 : Heap} {rr : Int32 × Sg} (hZ : sg_Z p c s m args D κ cX8_list 7 RX8 wsX8_list) (hret : ∀ (v : Int32) (u : Sg) (H : Heap) (locs : List Loc) (pc : Nat) (ls : Array Slot), some (v, u) = some rr → MW D κ b u H → va_S (sg_A b 16) H0 H locs → decode cX8_list pc = .ok (.ireturn, 1) → W p l e rm_X8_list s m args below meth c H locs 0 0 Q (F0 m pc ls [.int v])) {z21 : Sg → Int32 → Int32 → Int32 → Option (Int32 × Sg)} (hr21 : ∀ {σ : Sg} {x1 : Int32} {x2 : Int32} {x3 : Int32} {H : Heap} {locs : List Loc} {ls : Array Slot}, z21 σ x1 x2 x3 = some rr → lv_has ls 7 [(0, .ref b), (1, .int x1), (2, .int x2), (3, .int x3)] → MW D κ b σ H → va_S (sg_A b 16) H0 H locs → W p l e rm_X8_list s m args below meth c H locs 0 0 Q (F0 m 21 ls [])) {z64 : Sg → Int32 → Int32 → Int32 → Int32 → Int32 → Option (Int32 × Sg)} (hr64 : ∀ {σ : Sg} {x1 : Int32} {x2 : Int32} {x3 : Int32} {x4 : Int32} {x5 : Int32} {H : Heap} {locs : List Loc} {ls : Array Slot}, z64 σ x1 x2 x3 x4 x5 = some rr → lv_has ls 7 [(0, .ref b), (1, .int x1), (2, .int x2), (3, .int x3), (4, .int x4), (5, .int x5)] → MW D κ b σ H → va_S (sg_A b 16) H0 H locs → W p l e rm_X8_list s m args below meth c H locs 0 0 Q (F0 m 64 ls [])) : ∀ {σ : Sg} {x1 : Int32} {x2 : Int32} {x3 : Int32} {x4 : Int32} {x5 : Int32} {H : Heap} {locs : List Loc} {ls : Array Slot}, fn_X8_list_B170 b z21 z64 σ x1 x2 x3 x4 x5 = some rr → lv_has ls 7 [(0, .ref b), (1, .int x1), (2, .int x2), (3, .int x3), (4, .int x4), (5, .int x5)] → MW D κ b σ H → va_S (sg_A b 16) H0 H locs → W p l e rm_X8_list s m args below meth c H locs 0 0 Q (F0 m 170 ls []) := by
  obtain ⟨hx, hb, hml, hown, hts, hK⟩ := hZ
  intro σ x1 x2 x3 x4 x5 H locs ls h hl hC hS
  unfold fn_X8_list_B170 at h
  obtain ⟨v1, ev1, h⟩ := sg_lte h
  refine lv_iinc (v := v1) (lv' := [(5, .int v1), (0, .ref b), (1, .int x1), (2, .int x2), (3, .int x3), (4, .int x4)]) (k := 5) hx hb dX8_list_170 hl rfl (sg_inc (by decide) ev1) (by decide) rfl (fun ls hl => ?_)
  refine lv_goto (tgt := 64) hx hb dX8_list_173 (by decide) ?_
  exact hr64 h (lv_sub hl [1, 2, 3, 4, 5, 0] rfl) hC hS
def fn_X8_list_B151 (b : Nat) (z21 : Sg → Int32 → Int32 → Int32 → Option (Int32 × Sg)) (z64 : Sg → Int32 → Int32 → Int32 → Int32 → Int32 → Option (Int32 × Sg)) (σ : Sg) (x1 : Int32) (x2 : Int32) (x3 : Int32) (x4 : Int32) (x5 : Int32) (x6 : Int32) : Option (Int32 × Sg) :=
  (if sg_ib x6 192 then
  (sg_lt (sg_w σ (b + 12) (sg_x x6) x5) fun σ1 =>
  (sg_lt (sg_w σ1 b 15 ((σ1.1 b 15) + 1)) fun σ2 =>
  fn_X8_list_B170 b z21 z64 σ2 x1 x2 x3 x4 x5))
  else none)
set_option maxHeartbeats 4000000 in
set_option maxRecDepth 100000 in
theorem w_X8_list_B151 {p : Program} {l : Launch} {e : Env} {s : State} {m : MethodId} {args : Array Value} {below : List Frame} {meth : Method} {c : Code} {Q : State → Prop} {D : va_G} {κ : Nat → ClassId} {b : Nat} {H0 : Heap} {rr : Int32 × Sg} (hZ : sg_Z p c s m args D κ cX8_list 7 RX8 wsX8_list) (hret : ∀ (v : Int32) (u : Sg) (H : Heap) (locs : List Loc) (pc : Nat) (ls : Array Slot), some (v, u) = some rr → MW D κ b u H → va_S (sg_A b 16) H0 H locs → decode cX8_list pc = .ok (.ireturn, 1) → W p l e rm_X8_list s m args below meth c H locs 0 0 Q (F0 m pc ls [.int v])) {z21 : Sg → Int32 → Int32 → Int32 → Option (Int32 × Sg)} (hr21 : ∀ {σ : Sg} {x1 : Int32} {x2 : Int32} {x3 : Int32} {H : Heap} {locs : List Loc} {ls : Array Slot}, z21 σ x1 x2 x3 = some rr → lv_has ls 7 [(0, .ref b), (1, .int x1), (2, .int x2), (3, .int x3)] → MW D κ b σ H → va_S (sg_A b 16) H0 H locs → W p l e rm_X8_list s m args below meth c H locs 0 0 Q (F0 m 21 ls [])) {z64 : Sg → Int32 → Int32 → Int32 → Int32 → Int32 → Option (Int32 × Sg)} (hr64 : ∀ {σ : Sg} {x1 : Int32} {x2 : Int32} {x3 : Int32} {x4 : Int32} {x5 : Int32} {H : Heap} {locs : List Loc} {ls : Array Slot}, z64 σ x1 x2 x3 x4 x5 = some rr → lv_has ls 7 [(0, .ref b), (1, .int x1), (2, .int x2), (3, .int x3), (4, .int x4), (5, .int x5)] → MW D κ b σ H → va_S (sg_A b 16) H0 H locs → W p l e rm_X8_list s m args below meth c H locs 0 0 Q (F0 m 64 ls [])) : ∀ {σ : Sg} {x1 : Int32} {x2 : Int32} {x3 : Int32} {x4 : Int32} {x5 : Int32} {x6 : Int32} {H : Heap} {locs : List Loc} {ls : Array Slot}, fn_X8_list_B151 b z21 z64 σ x1 x2 x3 x4 x5 x6 = some rr → lv_has ls 7 [(0, .ref b), (1, .int x1), (2, .int x2), (3, .int x3), (4, .int x4), (5, .int x5), (6, .int x6)] → MW D κ b σ H → va_S (sg_A b 16) H0 H locs → W p l e rm_X8_list s m args below meth c H locs 0 0 Q (F0 m 151 ls []) := by
  obtain ⟨hx, hb, hml, hown, hts, hK⟩ := hZ
  intro σ x1 x2 x3 x4 x5 x6 H locs ls h hl hC hS
  unfold fn_X8_list_B151 at h
  refine lv_aload_n hx hb dX8_list_151 rfl (lv_at hl 0 rfl) ?_
  refine va_get (D := D) (ci := 8) (v := .ref (b + 12)) (C := RX8) (T := TX8) (N := 21) hx hb hts (wqs inW_X8) hown hK.1 hC.1 (b - b) sg_gModel rfl 16 (by decide) (hts _ (wq wt_664)) (fun _ h9 => h9) rfl dX8_list_152 ?_
  refine lv_iload hx hb dX8_list_155 (lv_at hl 6 rfl) ?_
  refine lv_iload hx hb dX8_list_157 (lv_at hl 5 rfl) ?_
  obtain ⟨hg, h⟩ := sg_gd h
  refine va_iast hx hb hK.1 hC.1 sg_D hS ((b + 12) - b) 0 sg_ga_headings rfl (sg_in hg) dX8_list_159 (fun H locs hP _ hS => ?_)
  obtain ⟨σ1, eσ1, h⟩ := sg_lte h
  have hC : MW D κ b σ1 H := eσ1 ▸ MW_put (k := sg_x x6) (v := x5) hC sg_aa_headings (sg_ya_headings _ _) hP
  refine lv_aload_n hx hb dX8_list_160 rfl (lv_at hl 0 rfl) ?_
  refine lv_dup hx hb dX8_list_161 rfl ?_
  refine va_get (D := D) (ci := 8) (v := .int (σ1.1 b 15)) (C := RX8) (T := TX8) (N := 21) hx hb hts (wqs inW_X8) hown hK.1 hC.1 (b - b) sg_gModel rfl 15 (by decide) (hts _ (wq wt_663)) (fun _ h9 => h9) rfl dX8_list_162 ?_
  refine lv_iconst (v := 1) hx hb dX8_list_165 (by decide) ?_
  refine lv_iadd hx hb dX8_list_166 ?_
  refine va_put (D := D) (ci := 8) (v := .int ((σ1.1 b 15) + 1)) (ty := .int) (C := RX8) (T := TX8) (N := 21) hx hb hts (wqs inW_X8) tyX8 tyX8_ok nmX8 hown hK.1 hC.1 sg_D hS (b - b) sg_gModel rfl 15 (by decide) (hts _ (wq wt_663)) (fun _ h9 => h9) rfl (by decide +kernel) rfl rfl (Nat.le_of_ble_eq_true rfl) dX8_list_167 (fun H locs hP _ hS => ?_)
  obtain ⟨σ2, eσ2, h⟩ := sg_lte h
  have hC : MW D κ b σ2 H := eσ2 ▸ MW_put (k := 15) (v := ((σ1.1 b 15) + 1)) hC sg_aModel (sg_yModel _ _) hP
  exact w_X8_list_B170 ⟨hx, hb, hml, hown, hts, hK⟩ hret hr21 hr64 h (lv_sub hl [0, 1, 2, 3, 4, 5] rfl) hC hS
def fn_X8_list_B106b (b : Nat) (z21 : Sg → Int32 → Int32 → Int32 → Option (Int32 × Sg)) (z64 : Sg → Int32 → Int32 → Int32 → Int32 → Int32 → Option (Int32 × Sg)) (z106 : Sg → Int32 → Int32 → Int32 → Int32 → Int32 → Int32 → Option (Int32 × Sg)) (σ : Sg) (x1 : Int32) (x2 : Int32) (x3 : Int32) (x4 : Int32) (x5 : Int32) (x6 : Int32) : Option (Int32 × Sg) :=
  (if x6 ≤ 0 then
  fn_X8_list_B151 b z21 z64 σ x1 x2 x3 x4 x5 x6
  else (if sg_ib (x6 - 1) 192 then
  ((fn_X8_isAfter b σ (σ.1 (b + 12) (sg_x (x6 - 1))) x5).bind fun r1 =>
  (if r1 = 0 then
  fn_X8_list_B151 b z21 z64 σ x1 x2 x3 x4 x5 x6
  else (if sg_ib (x6 - 1) 192 then
  (if sg_ib x6 192 then
  (sg_lt (sg_w σ (b + 12) (sg_x x6) (σ.1 (b + 12) (sg_x (x6 - 1)))) fun σ2 =>
  (sg_lt (x6 + (-1) : Int32) fun v3 =>
  z106 σ2 x1 x2 x3 x4 x5 v3))
  else none)
  else none)))
  else none))
def fn_X8_list_B106 (b : Nat) (z21 : Sg → Int32 → Int32 → Int32 → Option (Int32 × Sg)) (z64 : Sg → Int32 → Int32 → Int32 → Int32 → Int32 → Option (Int32 × Sg)) : Nat → Sg → Int32 → Int32 → Int32 → Int32 → Int32 → Int32 → Option (Int32 × Sg)
  | 0 => fun _ _ _ _ _ _ _ => none
  | n + 1 => fun σ x1 x2 x3 x4 x5 x6 => fn_X8_list_B106b b z21 z64 (fn_X8_list_B106 b z21 z64 n) σ x1 x2 x3 x4 x5 x6
set_option maxHeartbeats 4000000 in
set_option maxRecDepth 100000 in
theorem w_X8_list_B106b {p : Program} {l : Launch} {e : Env} {s : State} {m : MethodId} {args : Array Value} {below : List Frame} {meth : Method} {c : Code} {Q : State → Prop} {D : va_G} {κ : Nat → ClassId} {b : Nat} {H0 : Heap} {rr : Int32 × Sg} (hZ : sg_Z p c s m args D κ cX8_list 7 RX8 wsX8_list) (hret : ∀ (v : Int32) (u : Sg) (H : Heap) (locs : List Loc) (pc : Nat) (ls : Array Slot), some (v, u) = some rr → MW D κ b u H → va_S (sg_A b 16) H0 H locs → decode cX8_list pc = .ok (.ireturn, 1) → W p l e rm_X8_list s m args below meth c H locs 0 0 Q (F0 m pc ls [.int v])) {z21 : Sg → Int32 → Int32 → Int32 → Option (Int32 × Sg)} (hr21 : ∀ {σ : Sg} {x1 : Int32} {x2 : Int32} {x3 : Int32} {H : Heap} {locs : List Loc} {ls : Array Slot}, z21 σ x1 x2 x3 = some rr → lv_has ls 7 [(0, .ref b), (1, .int x1), (2, .int x2), (3, .int x3)] → MW D κ b σ H → va_S (sg_A b 16) H0 H locs → W p l e rm_X8_list s m args below meth c H locs 0 0 Q (F0 m 21 ls [])) {z64 : Sg → Int32 → Int32 → Int32 → Int32 → Int32 → Option (Int32 × Sg)} (hr64 : ∀ {σ : Sg} {x1 : Int32} {x2 : Int32} {x3 : Int32} {x4 : Int32} {x5 : Int32} {H : Heap} {locs : List Loc} {ls : Array Slot}, z64 σ x1 x2 x3 x4 x5 = some rr → lv_has ls 7 [(0, .ref b), (1, .int x1), (2, .int x2), (3, .int x3), (4, .int x4), (5, .int x5)] → MW D κ b σ H → va_S (sg_A b 16) H0 H locs → W p l e rm_X8_list s m args below meth c H locs 0 0 Q (F0 m 64 ls [])) {z106 : Sg → Int32 → Int32 → Int32 → Int32 → Int32 → Int32 → Option (Int32 × Sg)} (hr106 : ∀ {σ : Sg} {x1 : Int32} {x2 : Int32} {x3 : Int32} {x4 : Int32} {x5 : Int32} {x6 : Int32} {H : Heap} {locs : List Loc} {ls : Array Slot}, z106 σ x1 x2 x3 x4 x5 x6 = some rr → lv_has ls 7 [(0, .ref b), (1, .int x1), (2, .int x2), (3, .int x3), (4, .int x4), (5, .int x5), (6, .int x6)] → MW D κ b σ H → va_S (sg_A b 16) H0 H locs → W p l e rm_X8_list s m args below meth c H locs 0 0 Q (F0 m 106 ls [])) : ∀ {σ : Sg} {x1 : Int32} {x2 : Int32} {x3 : Int32} {x4 : Int32} {x5 : Int32} {x6 : Int32} {H : Heap} {locs : List Loc} {ls : Array Slot}, fn_X8_list_B106b b z21 z64 z106 σ x1 x2 x3 x4 x5 x6 = some rr → lv_has ls 7 [(0, .ref b), (1, .int x1), (2, .int x2), (3, .int x3), (4, .int x4), (5, .int x5), (6, .int x6)] → MW D κ b σ H → va_S (sg_A b 16) H0 H locs → W p l e rm_X8_list s m args below meth c H locs 0 0 Q (F0 m 106 ls []) := by
  obtain ⟨hx, hb, hml, hown, hts, hK⟩ := hZ
  intro σ x1 x2 x3 x4 x5 x6 H locs ls h hl hC hS
  unfold fn_X8_list_B106b at h
  refine lv_iload hx hb dX8_list_106 (lv_at hl 6 rfl) ?_
  refine lv_if_le (tgt := 151) hx hb dX8_list_108 (by decide) (fun hc => ?_) (fun hc => ?_)
  · replace h := (if_pos hc).symm.trans h
    exact w_X8_list_B151 ⟨hx, hb, hml, hown, hts, hK⟩ hret hr21 hr64 h (lv_sub hl [0, 1, 2, 3, 4, 5, 6] rfl) hC hS
  · replace h := (if_neg hc).symm.trans h
    refine lv_aload_n hx hb dX8_list_111 rfl (lv_at hl 0 rfl) ?_
    refine lv_aload_n hx hb dX8_list_112 rfl (lv_at hl 0 rfl) ?_
    refine va_get (D := D) (ci := 8) (v := .ref (b + 12)) (C := RX8) (T := TX8) (N := 21) hx hb hts (wqs inW_X8) hown hK.1 hC.1 (b - b) sg_gModel rfl 16 (by decide) (hts _ (wq wt_664)) (fun _ h9 => h9) rfl dX8_list_113 ?_
    refine lv_iload hx hb dX8_list_116 (lv_at hl 6 rfl) ?_
    refine lv_iconst (v := 1) hx hb dX8_list_118 (by decide) ?_
    refine lv_isub hx hb dX8_list_119 ?_
    obtain ⟨hg, h⟩ := sg_gd h
    refine va_iald hx hb hK.1 hC.1 ((b + 12) - b) 0 sg_ga_headings rfl (sg_in hg) dX8_list_120 ?_
    refine lv_iload hx hb dX8_list_121 (lv_at hl 5 rfl) ?_
    obtain ⟨r1, er1, h⟩ := Option.bind_eq_some_iff.mp h
    refine va_calli (va_runV (As := [.int (σ.1 (b + 12) (sg_x (x6 - 1))), .int x5]) (rest := []) ⟨hx, hb, hml, hown, hts⟩ (c_X8_isAfter l D κ b σ (σ.1 (b + 12) (sg_x (x6 - 1))) x5 _ er1) (cwV 2 hts (gwV wt_867 wt_869 wp_49 wt_9 wt_870) rfl rfl rfl (by decide +kernel) ⟨Nat.le_of_ble_eq_true rfl, Nat.le_of_ble_eq_true rfl⟩) (MW_preV hK hC sg_gModel rfl) rfl rfl hl.1 rfl (lv_room (Nat.le_of_ble_eq_true rfl)) dX8_list_123 ⟨Nat.zero_le _, Nat.zero_le _⟩) hS (fun _ _ h => h) (fun _ h => h) (fun r u t H locs ht _ hp hB _ _ hS => ?_)
    refine sg_topi hp.1 ?_
    have hC : MW D κ b σ H := MW_b hB ht hp.2
    refine lv_if_eq (tgt := 151) hx hb dX8_list_126 (by decide) (fun hc => ?_) (fun hc => ?_)
    · replace h := (if_pos hc).symm.trans h
      exact w_X8_list_B151 ⟨hx, hb, hml, hown, hts, hK⟩ hret hr21 hr64 h (lv_sub hl [0, 1, 2, 3, 4, 5, 6] rfl) hC hS
    · replace h := (if_neg hc).symm.trans h
      refine lv_aload_n hx hb dX8_list_129 rfl (lv_at hl 0 rfl) ?_
      refine va_get (D := D) (ci := 8) (v := .ref (b + 12)) (C := RX8) (T := TX8) (N := 21) hx hb hts (wqs inW_X8) hown hK.1 hC.1 (b - b) sg_gModel rfl 16 (by decide) (hts _ (wq wt_664)) (fun _ h9 => h9) rfl dX8_list_130 ?_
      refine lv_iload hx hb dX8_list_133 (lv_at hl 6 rfl) ?_
      refine lv_aload_n hx hb dX8_list_135 rfl (lv_at hl 0 rfl) ?_
      refine va_get (D := D) (ci := 8) (v := .ref (b + 12)) (C := RX8) (T := TX8) (N := 21) hx hb hts (wqs inW_X8) hown hK.1 hC.1 (b - b) sg_gModel rfl 16 (by decide) (hts _ (wq wt_664)) (fun _ h9 => h9) rfl dX8_list_136 ?_
      refine lv_iload hx hb dX8_list_139 (lv_at hl 6 rfl) ?_
      refine lv_iconst (v := 1) hx hb dX8_list_141 (by decide) ?_
      refine lv_isub hx hb dX8_list_142 ?_
      obtain ⟨hg, h⟩ := sg_gd h
      refine va_iald hx hb hK.1 hC.1 ((b + 12) - b) 0 sg_ga_headings rfl (sg_in hg) dX8_list_143 ?_
      obtain ⟨hg, h⟩ := sg_gd h
      refine va_iast hx hb hK.1 hC.1 sg_D hS ((b + 12) - b) 0 sg_ga_headings rfl (sg_in hg) dX8_list_144 (fun H locs hP _ hS => ?_)
      obtain ⟨σ2, eσ2, h⟩ := sg_lte h
      have hC : MW D κ b σ2 H := eσ2 ▸ MW_put (k := sg_x x6) (v := (σ.1 (b + 12) (sg_x (x6 - 1)))) hC sg_aa_headings (sg_ya_headings _ _) hP
      obtain ⟨v3, ev3, h⟩ := sg_lte h
      refine lv_iinc (v := v3) (lv' := [(6, .int v3), (0, .ref b), (1, .int x1), (2, .int x2), (3, .int x3), (4, .int x4), (5, .int x5)]) (k := 6) hx hb dX8_list_145 hl rfl (sg_inc (by decide) ev3) (by decide) rfl (fun ls hl => ?_)
      refine lv_goto (tgt := 106) hx hb dX8_list_148 (by decide) ?_
      exact hr106 h (lv_sub hl [1, 2, 3, 4, 5, 6, 0] rfl) hC hS
set_option maxHeartbeats 4000000 in
theorem w_X8_list_B106 {p : Program} {l : Launch} {e : Env} {s : State} {m : MethodId} {args : Array Value} {below : List Frame} {meth : Method} {c : Code} {Q : State → Prop} {D : va_G} {κ : Nat → ClassId} {b : Nat} {H0 : Heap} {rr : Int32 × Sg} (hZ : sg_Z p c s m args D κ cX8_list 7 RX8 wsX8_list) (hret : ∀ (v : Int32) (u : Sg) (H : Heap) (locs : List Loc) (pc : Nat) (ls : Array Slot), some (v, u) = some rr → MW D κ b u H → va_S (sg_A b 16) H0 H locs → decode cX8_list pc = .ok (.ireturn, 1) → W p l e rm_X8_list s m args below meth c H locs 0 0 Q (F0 m pc ls [.int v])) {z21 : Sg → Int32 → Int32 → Int32 → Option (Int32 × Sg)} (hr21 : ∀ {σ : Sg} {x1 : Int32} {x2 : Int32} {x3 : Int32} {H : Heap} {locs : List Loc} {ls : Array Slot}, z21 σ x1 x2 x3 = some rr → lv_has ls 7 [(0, .ref b), (1, .int x1), (2, .int x2), (3, .int x3)] → MW D κ b σ H → va_S (sg_A b 16) H0 H locs → W p l e rm_X8_list s m args below meth c H locs 0 0 Q (F0 m 21 ls [])) {z64 : Sg → Int32 → Int32 → Int32 → Int32 → Int32 → Option (Int32 × Sg)} (hr64 : ∀ {σ : Sg} {x1 : Int32} {x2 : Int32} {x3 : Int32} {x4 : Int32} {x5 : Int32} {H : Heap} {locs : List Loc} {ls : Array Slot}, z64 σ x1 x2 x3 x4 x5 = some rr → lv_has ls 7 [(0, .ref b), (1, .int x1), (2, .int x2), (3, .int x3), (4, .int x4), (5, .int x5)] → MW D κ b σ H → va_S (sg_A b 16) H0 H locs → W p l e rm_X8_list s m args below meth c H locs 0 0 Q (F0 m 64 ls [])) : ∀ n : Nat, ∀ {σ : Sg} {x1 : Int32} {x2 : Int32} {x3 : Int32} {x4 : Int32} {x5 : Int32} {x6 : Int32} {H : Heap} {locs : List Loc} {ls : Array Slot}, fn_X8_list_B106 b z21 z64 n σ x1 x2 x3 x4 x5 x6 = some rr → lv_has ls 7 [(0, .ref b), (1, .int x1), (2, .int x2), (3, .int x3), (4, .int x4), (5, .int x5), (6, .int x6)] → MW D κ b σ H → va_S (sg_A b 16) H0 H locs → W p l e rm_X8_list s m args below meth c H locs 0 0 Q (F0 m 106 ls []) := by
  intro n
  induction n with
  | zero => intro σ x1 x2 x3 x4 x5 x6 H locs ls h hl hC hS; cases (show (none : Option (Int32 × Sg)) = some rr from h)
  | succ n ih =>
    intro σ x1 x2 x3 x4 x5 x6 H locs ls h hl hC hS
    exact w_X8_list_B106b hZ hret hr21 hr64 ih (show fn_X8_list_B106b b z21 z64 (fn_X8_list_B106 b z21 z64 n) σ x1 x2 x3 x4 x5 x6 = some rr from h)  hl hC hS
def fn_X8_list_B64b (b : Nat) (z21 : Sg → Int32 → Int32 → Int32 → Option (Int32 × Sg)) (z64 : Sg → Int32 → Int32 → Int32 → Int32 → Int32 → Option (Int32 × Sg)) (σ : Sg) (x1 : Int32) (x2 : Int32) (x3 : Int32) (x4 : Int32) (x5 : Int32) : Option (Int32 × Sg) :=
  (if x4 = 0 then
  fn_X8_list_B176 b z21 σ x1 x2 x3
  else (if sg_ib x3 48 then
  (if (((4 * x3) + (σ.1 (b + 7) (sg_x x3))) : Int32) ≤ x5 then
  fn_X8_list_B176 b z21 σ x1 x2 x3
  else ((fn_X8_hasCode b σ x5 x2).bind fun r1 =>
  (if r1 = 0 then
  fn_X8_list_B170 b z21 z64 σ x1 x2 x3 x4 x5
  else ((fn_X8_makeKey b σ x5).bind fun r2 =>
  (sg_lt ((r2.1 b 15) : Int32) fun v3 =>
  fn_X8_list_B106 b z21 z64 sg_N r2 x1 x2 x3 x4 x5 v3)))))
  else none))
def fn_X8_list_B64 (b : Nat) (z21 : Sg → Int32 → Int32 → Int32 → Option (Int32 × Sg)) : Nat → Sg → Int32 → Int32 → Int32 → Int32 → Int32 → Option (Int32 × Sg)
  | 0 => fun _ _ _ _ _ _ => none
  | n + 1 => fun σ x1 x2 x3 x4 x5 => fn_X8_list_B64b b z21 (fn_X8_list_B64 b z21 n) σ x1 x2 x3 x4 x5
set_option maxHeartbeats 4000000 in
set_option maxRecDepth 100000 in
theorem w_X8_list_B64b {p : Program} {l : Launch} {e : Env} {s : State} {m : MethodId} {args : Array Value} {below : List Frame} {meth : Method} {c : Code} {Q : State → Prop} {D : va_G} {κ : Nat → ClassId} {b : Nat} {H0 : Heap} {rr : Int32 × Sg} (hZ : sg_Z p c s m args D κ cX8_list 7 RX8 wsX8_list) (hret : ∀ (v : Int32) (u : Sg) (H : Heap) (locs : List Loc) (pc : Nat) (ls : Array Slot), some (v, u) = some rr → MW D κ b u H → va_S (sg_A b 16) H0 H locs → decode cX8_list pc = .ok (.ireturn, 1) → W p l e rm_X8_list s m args below meth c H locs 0 0 Q (F0 m pc ls [.int v])) {z21 : Sg → Int32 → Int32 → Int32 → Option (Int32 × Sg)} (hr21 : ∀ {σ : Sg} {x1 : Int32} {x2 : Int32} {x3 : Int32} {H : Heap} {locs : List Loc} {ls : Array Slot}, z21 σ x1 x2 x3 = some rr → lv_has ls 7 [(0, .ref b), (1, .int x1), (2, .int x2), (3, .int x3)] → MW D κ b σ H → va_S (sg_A b 16) H0 H locs → W p l e rm_X8_list s m args below meth c H locs 0 0 Q (F0 m 21 ls [])) {z64 : Sg → Int32 → Int32 → Int32 → Int32 → Int32 → Option (Int32 × Sg)} (hr64 : ∀ {σ : Sg} {x1 : Int32} {x2 : Int32} {x3 : Int32} {x4 : Int32} {x5 : Int32} {H : Heap} {locs : List Loc} {ls : Array Slot}, z64 σ x1 x2 x3 x4 x5 = some rr → lv_has ls 7 [(0, .ref b), (1, .int x1), (2, .int x2), (3, .int x3), (4, .int x4), (5, .int x5)] → MW D κ b σ H → va_S (sg_A b 16) H0 H locs → W p l e rm_X8_list s m args below meth c H locs 0 0 Q (F0 m 64 ls [])) : ∀ {σ : Sg} {x1 : Int32} {x2 : Int32} {x3 : Int32} {x4 : Int32} {x5 : Int32} {H : Heap} {locs : List Loc} {ls : Array Slot}, fn_X8_list_B64b b z21 z64 σ x1 x2 x3 x4 x5 = some rr → lv_has ls 7 [(0, .ref b), (1, .int x1), (2, .int x2), (3, .int x3), (4, .int x4), (5, .int x5)] → MW D κ b σ H → va_S (sg_A b 16) H0 H locs → W p l e rm_X8_list s m args below meth c H locs 0 0 Q (F0 m 64 ls []) := by
  obtain ⟨hx, hb, hml, hown, hts, hK⟩ := hZ
  intro σ x1 x2 x3 x4 x5 H locs ls h hl hC hS
  unfold fn_X8_list_B64b at h
  refine lv_iload hx hb dX8_list_64 (lv_at hl 4 rfl) ?_
  refine lv_if_eq (tgt := 176) hx hb dX8_list_66 (by decide) (fun hc => ?_) (fun hc => ?_)
  · replace h := (if_pos hc).symm.trans h
    exact w_X8_list_B176 ⟨hx, hb, hml, hown, hts, hK⟩ hret hr21 h (lv_sub hl [0, 1, 2, 3] rfl) hC hS
  · replace h := (if_neg hc).symm.trans h
    refine lv_iload hx hb dX8_list_69 (lv_at hl 5 rfl) ?_
    refine lv_iconst (v := 4) hx hb dX8_list_71 (by decide) ?_
    refine lv_iload_n hx hb dX8_list_72 rfl (lv_at hl 3 rfl) ?_
    refine lv_imul hx hb dX8_list_73 ?_
    refine lv_aload_n hx hb dX8_list_74 rfl (lv_at hl 0 rfl) ?_
    refine va_get (D := D) (ci := 8) (v := .ref (b + 7)) (C := RX8) (T := TX8) (N := 21) hx hb hts (wqs inW_X8) hown hK.1 hC.1 (b - b) sg_gModel rfl 8 (by decide) (hts _ (wq wt_656)) (fun _ h9 => h9) rfl dX8_list_75 ?_
    refine lv_iload_n hx hb dX8_list_78 rfl (lv_at hl 3 rfl) ?_
    obtain ⟨hg, h⟩ := sg_gd h
    refine va_iald hx hb hK.1 hC.1 ((b + 7) - b) 0 sg_ga_subfields rfl (sg_in hg) dX8_list_79 ?_
    refine lv_iadd hx hb dX8_list_80 ?_
    refine lv_icmp_ge (tgt := 176) hx hb dX8_list_81 (by decide) (fun hc => ?_) (fun hc => ?_)
    · replace h := (if_pos hc).symm.trans h
      exact w_X8_list_B176 ⟨hx, hb, hml, hown, hts, hK⟩ hret hr21 h (lv_sub hl [0, 1, 2, 3] rfl) hC hS
    · replace h := (if_neg hc).symm.trans h
      refine lv_aload_n hx hb dX8_list_84 rfl (lv_at hl 0 rfl) ?_
      refine lv_iload hx hb dX8_list_85 (lv_at hl 5 rfl) ?_
      refine lv_iload_n hx hb dX8_list_87 rfl (lv_at hl 2 rfl) ?_
      obtain ⟨r1, er1, h⟩ := Option.bind_eq_some_iff.mp h
      refine va_calli (va_runV (As := [.int x5, .int x2]) (rest := []) ⟨hx, hb, hml, hown, hts⟩ (c_X8_hasCode l D κ b σ x5 x2 _ er1) (cwV 2 hts (gwV wt_856 wt_858 wp_47 wt_9 wt_859) rfl rfl rfl (by decide +kernel) ⟨Nat.le_of_ble_eq_true rfl, Nat.le_of_ble_eq_true rfl⟩) (MW_preV hK hC sg_gModel rfl) rfl rfl hl.1 rfl (lv_room (Nat.le_of_ble_eq_true rfl)) dX8_list_88 ⟨Nat.zero_le _, Nat.zero_le _⟩) hS (fun _ _ h => h) (fun _ h => h) (fun r u t H locs ht _ hp hB _ _ hS => ?_)
      refine sg_topi hp.1 ?_
      have hC : MW D κ b σ H := MW_b hB ht hp.2
      refine lv_if_eq (tgt := 170) hx hb dX8_list_91 (by decide) (fun hc => ?_) (fun hc => ?_)
      · replace h := (if_pos hc).symm.trans h
        exact w_X8_list_B170 ⟨hx, hb, hml, hown, hts, hK⟩ hret hr21 hr64 h (lv_sub hl [0, 1, 2, 3, 4, 5] rfl) hC hS
      · replace h := (if_neg hc).symm.trans h
        refine lv_aload_n hx hb dX8_list_94 rfl (lv_at hl 0 rfl) ?_
        refine lv_iload hx hb dX8_list_95 (lv_at hl 5 rfl) ?_
        obtain ⟨r2, er2, h⟩ := Option.bind_eq_some_iff.mp h
        refine va_callv (va_runV (As := [.int x5]) (rest := []) ⟨hx, hb, hml, hown, hts⟩ (c_X8_makeKey l D κ b σ x5 _ er2) (cwV 1 hts (gwV wt_860 wt_862 wp_48 wt_9 wt_863) rfl rfl rfl (by decide +kernel) ⟨Nat.le_of_ble_eq_true rfl, Nat.le_of_ble_eq_true rfl⟩) (MW_preV hK hC sg_gModel rfl) rfl rfl hl.1 rfl (lv_room (Nat.le_of_ble_eq_true rfl)) dX8_list_97 ⟨Nat.zero_le _, Nat.zero_le _⟩) hS (fun _ _ h => h) (fun _ h => h) (fun u t H locs ht _ hp hB _ _ hS => ?_)
        have hC : MW D κ b r2 H := MW_b hB ht hp
        refine lv_aload_n hx hb dX8_list_100 rfl (lv_at hl 0 rfl) ?_
        refine va_get (D := D) (ci := 8) (v := .int (r2.1 b 15)) (C := RX8) (T := TX8) (N := 21) hx hb hts (wqs inW_X8) hown hK.1 hC.1 (b - b) sg_gModel rfl 15 (by decide) (hts _ (wq wt_663)) (fun _ h9 => h9) rfl dX8_list_101 ?_
        obtain ⟨v3, ev3, h⟩ := sg_lte h
        refine sg_topi ev3 ?_
        refine lv_istore (lv' := [(6, .int v3), (0, .ref b), (1, .int x1), (2, .int x2), (3, .int x3), (4, .int x4), (5, .int x5)]) hx hb dX8_list_104 hl (by decide) rfl (fun ls hl => ?_)
        exact w_X8_list_B106 ⟨hx, hb, hml, hown, hts, hK⟩ hret hr21 hr64 sg_N h (lv_sub hl [1, 2, 3, 4, 5, 6, 0] rfl) hC hS
set_option maxHeartbeats 4000000 in
theorem w_X8_list_B64 {p : Program} {l : Launch} {e : Env} {s : State} {m : MethodId} {args : Array Value} {below : List Frame} {meth : Method} {c : Code} {Q : State → Prop} {D : va_G} {κ : Nat → ClassId} {b : Nat} {H0 : Heap} {rr : Int32 × Sg} (hZ : sg_Z p c s m args D κ cX8_list 7 RX8 wsX8_list) (hret : ∀ (v : Int32) (u : Sg) (H : Heap) (locs : List Loc) (pc : Nat) (ls : Array Slot), some (v, u) = some rr → MW D κ b u H → va_S (sg_A b 16) H0 H locs → decode cX8_list pc = .ok (.ireturn, 1) → W p l e rm_X8_list s m args below meth c H locs 0 0 Q (F0 m pc ls [.int v])) {z21 : Sg → Int32 → Int32 → Int32 → Option (Int32 × Sg)} (hr21 : ∀ {σ : Sg} {x1 : Int32} {x2 : Int32} {x3 : Int32} {H : Heap} {locs : List Loc} {ls : Array Slot}, z21 σ x1 x2 x3 = some rr → lv_has ls 7 [(0, .ref b), (1, .int x1), (2, .int x2), (3, .int x3)] → MW D κ b σ H → va_S (sg_A b 16) H0 H locs → W p l e rm_X8_list s m args below meth c H locs 0 0 Q (F0 m 21 ls [])) : ∀ n : Nat, ∀ {σ : Sg} {x1 : Int32} {x2 : Int32} {x3 : Int32} {x4 : Int32} {x5 : Int32} {H : Heap} {locs : List Loc} {ls : Array Slot}, fn_X8_list_B64 b z21 n σ x1 x2 x3 x4 x5 = some rr → lv_has ls 7 [(0, .ref b), (1, .int x1), (2, .int x2), (3, .int x3), (4, .int x4), (5, .int x5)] → MW D κ b σ H → va_S (sg_A b 16) H0 H locs → W p l e rm_X8_list s m args below meth c H locs 0 0 Q (F0 m 64 ls []) := by
  intro n
  induction n with
  | zero => intro σ x1 x2 x3 x4 x5 H locs ls h hl hC hS; cases (show (none : Option (Int32 × Sg)) = some rr from h)
  | succ n ih =>
    intro σ x1 x2 x3 x4 x5 H locs ls h hl hC hS
    exact w_X8_list_B64b hZ hret hr21 ih (show fn_X8_list_B64b b z21 (fn_X8_list_B64 b z21 n) σ x1 x2 x3 x4 x5 = some rr from h)  hl hC hS
def fn_X8_list_B57 (b : Nat) (z21 : Sg → Int32 → Int32 → Int32 → Option (Int32 × Sg)) (σ : Sg) (x1 : Int32) (x2 : Int32) (x3 : Int32) (y0 : Int32) : Option (Int32 × Sg) :=
  (sg_lt ((4 * x3) : Int32) fun v1 =>
  fn_X8_list_B64 b z21 sg_N σ x1 x2 x3 y0 v1)
set_option maxHeartbeats 4000000 in
set_option maxRecDepth 100000 in
theorem w_X8_list_B57 {p : Program} {l : Launch} {e : Env} {s : State} {m : MethodId} {args : Array Value} {below : List Frame} {meth : Method} {c : Code} {Q : State → Prop} {D : va_G} {κ : Nat → ClassId} {b : Nat} {H0 : Heap} {rr : Int32 × Sg} (hZ : sg_Z p c s m args D κ cX8_list 7 RX8 wsX8_list) (hret : ∀ (v : Int32) (u : Sg) (H : Heap) (locs : List Loc) (pc : Nat) (ls : Array Slot), some (v, u) = some rr → MW D κ b u H → va_S (sg_A b 16) H0 H locs → decode cX8_list pc = .ok (.ireturn, 1) → W p l e rm_X8_list s m args below meth c H locs 0 0 Q (F0 m pc ls [.int v])) {z21 : Sg → Int32 → Int32 → Int32 → Option (Int32 × Sg)} (hr21 : ∀ {σ : Sg} {x1 : Int32} {x2 : Int32} {x3 : Int32} {H : Heap} {locs : List Loc} {ls : Array Slot}, z21 σ x1 x2 x3 = some rr → lv_has ls 7 [(0, .ref b), (1, .int x1), (2, .int x2), (3, .int x3)] → MW D κ b σ H → va_S (sg_A b 16) H0 H locs → W p l e rm_X8_list s m args below meth c H locs 0 0 Q (F0 m 21 ls [])) : ∀ {σ : Sg} {x1 : Int32} {x2 : Int32} {x3 : Int32} {y0 : Int32} {H : Heap} {locs : List Loc} {ls : Array Slot}, fn_X8_list_B57 b z21 σ x1 x2 x3 y0 = some rr → lv_has ls 7 [(0, .ref b), (1, .int x1), (2, .int x2), (3, .int x3)] → MW D κ b σ H → va_S (sg_A b 16) H0 H locs → W p l e rm_X8_list s m args below meth c H locs 0 0 Q (F0 m 57 ls [.int y0]) := by
  obtain ⟨hx, hb, hml, hown, hts, hK⟩ := hZ
  intro σ x1 x2 x3 y0 H locs ls h hl hC hS
  unfold fn_X8_list_B57 at h
  refine lv_istore (lv' := [(4, .int y0), (0, .ref b), (1, .int x1), (2, .int x2), (3, .int x3)]) hx hb dX8_list_57 hl (by decide) rfl (fun ls hl => ?_)
  refine lv_iconst (v := 4) hx hb dX8_list_59 (by decide) ?_
  refine lv_iload_n hx hb dX8_list_60 rfl (lv_at hl 4 rfl) ?_
  refine lv_imul hx hb dX8_list_61 ?_
  obtain ⟨v1, ev1, h⟩ := sg_lte h
  refine sg_topi ev1 ?_
  refine lv_istore (lv' := [(5, .int v1), (4, .int y0), (0, .ref b), (1, .int x1), (2, .int x2), (3, .int x3)]) hx hb dX8_list_62 hl (by decide) rfl (fun ls hl => ?_)
  exact w_X8_list_B64 ⟨hx, hb, hml, hown, hts, hK⟩ hret hr21 sg_N h (lv_sub hl [2, 3, 4, 5, 1, 0] rfl) hC hS
def fn_X8_list_B56 (b : Nat) (z21 : Sg → Int32 → Int32 → Int32 → Option (Int32 × Sg)) (σ : Sg) (x1 : Int32) (x2 : Int32) (x3 : Int32) : Option (Int32 × Sg) :=
  fn_X8_list_B57 b z21 σ x1 x2 x3 0
set_option maxHeartbeats 4000000 in
set_option maxRecDepth 100000 in
theorem w_X8_list_B56 {p : Program} {l : Launch} {e : Env} {s : State} {m : MethodId} {args : Array Value} {below : List Frame} {meth : Method} {c : Code} {Q : State → Prop} {D : va_G} {κ : Nat → ClassId} {b : Nat} {H0 : Heap} {rr : Int32 × Sg} (hZ : sg_Z p c s m args D κ cX8_list 7 RX8 wsX8_list) (hret : ∀ (v : Int32) (u : Sg) (H : Heap) (locs : List Loc) (pc : Nat) (ls : Array Slot), some (v, u) = some rr → MW D κ b u H → va_S (sg_A b 16) H0 H locs → decode cX8_list pc = .ok (.ireturn, 1) → W p l e rm_X8_list s m args below meth c H locs 0 0 Q (F0 m pc ls [.int v])) {z21 : Sg → Int32 → Int32 → Int32 → Option (Int32 × Sg)} (hr21 : ∀ {σ : Sg} {x1 : Int32} {x2 : Int32} {x3 : Int32} {H : Heap} {locs : List Loc} {ls : Array Slot}, z21 σ x1 x2 x3 = some rr → lv_has ls 7 [(0, .ref b), (1, .int x1), (2, .int x2), (3, .int x3)] → MW D κ b σ H → va_S (sg_A b 16) H0 H locs → W p l e rm_X8_list s m args below meth c H locs 0 0 Q (F0 m 21 ls [])) : ∀ {σ : Sg} {x1 : Int32} {x2 : Int32} {x3 : Int32} {H : Heap} {locs : List Loc} {ls : Array Slot}, fn_X8_list_B56 b z21 σ x1 x2 x3 = some rr → lv_has ls 7 [(0, .ref b), (1, .int x1), (2, .int x2), (3, .int x3)] → MW D κ b σ H → va_S (sg_A b 16) H0 H locs → W p l e rm_X8_list s m args below meth c H locs 0 0 Q (F0 m 56 ls []) := by
  obtain ⟨hx, hb, hml, hown, hts, hK⟩ := hZ
  intro σ x1 x2 x3 H locs ls h hl hC hS
  unfold fn_X8_list_B56 at h
  refine lv_iconst (v := 0) hx hb dX8_list_56 (by decide) ?_
  exact w_X8_list_B57 ⟨hx, hb, hml, hown, hts, hK⟩ hret hr21 h (lv_sub hl [0, 1, 2, 3] rfl) hC hS
def fn_X8_list_B21b (b : Nat) (z21 : Sg → Int32 → Int32 → Int32 → Option (Int32 × Sg)) (σ : Sg) (x1 : Int32) (x2 : Int32) (x3 : Int32) : Option (Int32 × Sg) :=
  (if (48 : Int32) ≤ x3 then
  some ((σ.1 b 15), σ)
  else ((fn_X8_isField b σ (x3 / 8) (x3 - x3 / 8 * 8)).bind fun r1 =>
  (if r1 = 0 then
  fn_X8_list_B56 b z21 σ x1 x2 x3
  else (if sg_ib x3 48 then
  (if (σ.1 (b + 4) (sg_x x3)) = x1 then
  fn_X8_list_B57 b z21 σ x1 x2 x3 1
  else fn_X8_list_B56 b z21 σ x1 x2 x3)
  else none))))
def fn_X8_list_B21 (b : Nat) : Nat → Sg → Int32 → Int32 → Int32 → Option (Int32 × Sg)
  | 0 => fun _ _ _ _ => none
  | n + 1 => fun σ x1 x2 x3 => fn_X8_list_B21b b (fn_X8_list_B21 b n) σ x1 x2 x3
set_option maxHeartbeats 4000000 in
set_option maxRecDepth 100000 in
theorem w_X8_list_B21b {p : Program} {l : Launch} {e : Env} {s : State} {m : MethodId} {args : Array Value} {below : List Frame} {meth : Method} {c : Code} {Q : State → Prop} {D : va_G} {κ : Nat → ClassId} {b : Nat} {H0 : Heap} {rr : Int32 × Sg} (hZ : sg_Z p c s m args D κ cX8_list 7 RX8 wsX8_list) (hret : ∀ (v : Int32) (u : Sg) (H : Heap) (locs : List Loc) (pc : Nat) (ls : Array Slot), some (v, u) = some rr → MW D κ b u H → va_S (sg_A b 16) H0 H locs → decode cX8_list pc = .ok (.ireturn, 1) → W p l e rm_X8_list s m args below meth c H locs 0 0 Q (F0 m pc ls [.int v])) {z21 : Sg → Int32 → Int32 → Int32 → Option (Int32 × Sg)} (hr21 : ∀ {σ : Sg} {x1 : Int32} {x2 : Int32} {x3 : Int32} {H : Heap} {locs : List Loc} {ls : Array Slot}, z21 σ x1 x2 x3 = some rr → lv_has ls 7 [(0, .ref b), (1, .int x1), (2, .int x2), (3, .int x3)] → MW D κ b σ H → va_S (sg_A b 16) H0 H locs → W p l e rm_X8_list s m args below meth c H locs 0 0 Q (F0 m 21 ls [])) : ∀ {σ : Sg} {x1 : Int32} {x2 : Int32} {x3 : Int32} {H : Heap} {locs : List Loc} {ls : Array Slot}, fn_X8_list_B21b b z21 σ x1 x2 x3 = some rr → lv_has ls 7 [(0, .ref b), (1, .int x1), (2, .int x2), (3, .int x3)] → MW D κ b σ H → va_S (sg_A b 16) H0 H locs → W p l e rm_X8_list s m args below meth c H locs 0 0 Q (F0 m 21 ls []) := by
  obtain ⟨hx, hb, hml, hown, hts, hK⟩ := hZ
  intro σ x1 x2 x3 H locs ls h hl hC hS
  unfold fn_X8_list_B21b at h
  refine lv_iload_n hx hb dX8_list_21 rfl (lv_at hl 3 rfl) ?_
  refine lv_bipush (v := 48) hx hb dX8_list_22 (by decide) ?_
  refine lv_icmp_ge (tgt := 182) hx hb dX8_list_24 (by decide) (fun hc => ?_) (fun hc => ?_)
  · replace h := (if_pos hc).symm.trans h
    refine lv_aload_n hx hb dX8_list_182 rfl (lv_at hl 0 rfl) ?_
    refine va_get (D := D) (ci := 8) (v := .int (σ.1 b 15)) (C := RX8) (T := TX8) (N := 21) hx hb hts (wqs inW_X8) hown hK.1 hC.1 (b - b) sg_gModel rfl 15 (by decide) (hts _ (wq wt_663)) (fun _ h9 => h9) rfl dX8_list_183 ?_
    exact hret _ _ _ _ _ _ h hC hS dX8_list_186
  · replace h := (if_neg hc).symm.trans h
    refine lv_aload_n hx hb dX8_list_27 rfl (lv_at hl 0 rfl) ?_
    refine lv_iload_n hx hb dX8_list_28 rfl (lv_at hl 3 rfl) ?_
    refine lv_bipush (v := 8) hx hb dX8_list_29 (by decide) ?_
    refine lv_idiv hx hb dX8_list_31 (by decide) ?_
    refine lv_iload_n hx hb dX8_list_32 rfl (lv_at hl 3 rfl) ?_
    refine lv_bipush (v := 8) hx hb dX8_list_33 (by decide) ?_
    refine lv_irem hx hb dX8_list_35 (by decide) ?_
    obtain ⟨r1, er1, h⟩ := Option.bind_eq_some_iff.mp h
    refine va_calli (va_runV (As := [.int (x3 / 8), .int (x3 - x3 / 8 * 8)]) (rest := []) ⟨hx, hb, hml, hown, hts⟩ (c_X8_isField l D κ b σ (x3 / 8) (x3 - x3 / 8 * 8) _ er1) (cwV 2 hts (gwV wt_808 wt_810 wp_42 wt_9 wt_811) rfl rfl rfl (by decide +kernel) ⟨Nat.le_of_ble_eq_true rfl, Nat.le_of_ble_eq_true rfl⟩) (MW_preV hK hC sg_gModel rfl) rfl rfl hl.1 rfl (lv_room (Nat.le_of_ble_eq_true rfl)) dX8_list_36 ⟨Nat.zero_le _, Nat.zero_le _⟩) hS (fun _ _ h => h) (fun _ h => h) (fun r u t H locs ht _ hp hB _ _ hS => ?_)
    refine sg_topi hp.1 ?_
    have hC : MW D κ b σ H := MW_b hB ht hp.2
    refine lv_if_eq (tgt := 56) hx hb dX8_list_39 (by decide) (fun hc => ?_) (fun hc => ?_)
    · replace h := (if_pos hc).symm.trans h
      exact w_X8_list_B56 ⟨hx, hb, hml, hown, hts, hK⟩ hret hr21 h (lv_sub hl [0, 1, 2, 3] rfl) hC hS
    · replace h := (if_neg hc).symm.trans h
      refine lv_aload_n hx hb dX8_list_42 rfl (lv_at hl 0 rfl) ?_
      refine va_get (D := D) (ci := 8) (v := .ref (b + 4)) (C := RX8) (T := TX8) (N := 21) hx hb hts (wqs inW_X8) hown hK.1 hC.1 (b - b) sg_gModel rfl 5 (by decide) (hts _ (wq wt_653)) (fun _ h9 => h9) rfl dX8_list_43 ?_
      refine lv_iload_n hx hb dX8_list_46 rfl (lv_at hl 3 rfl) ?_
      obtain ⟨hg, h⟩ := sg_gd h
      refine va_iald hx hb hK.1 hC.1 ((b + 4) - b) 0 sg_ga_tags rfl (sg_in hg) dX8_list_47 ?_
      refine lv_iload_n hx hb dX8_list_48 rfl (lv_at hl 1 rfl) ?_
      refine lv_icmp_ne (tgt := 56) hx hb dX8_list_49 (by decide) (fun hc => ?_) (fun hc => ?_)
      · replace h := (if_neg hc).symm.trans h
        exact w_X8_list_B56 ⟨hx, hb, hml, hown, hts, hK⟩ hret hr21 h (lv_sub hl [0, 1, 2, 3] rfl) hC hS
      · replace h := (if_pos hc).symm.trans h
        refine lv_iconst (v := 1) hx hb dX8_list_52 (by decide) ?_
        refine lv_goto (tgt := 57) hx hb dX8_list_53 (by decide) ?_
        exact w_X8_list_B57 ⟨hx, hb, hml, hown, hts, hK⟩ hret hr21 h (lv_sub hl [0, 1, 2, 3] rfl) hC hS
set_option maxHeartbeats 4000000 in
theorem w_X8_list_B21 {p : Program} {l : Launch} {e : Env} {s : State} {m : MethodId} {args : Array Value} {below : List Frame} {meth : Method} {c : Code} {Q : State → Prop} {D : va_G} {κ : Nat → ClassId} {b : Nat} {H0 : Heap} {rr : Int32 × Sg} (hZ : sg_Z p c s m args D κ cX8_list 7 RX8 wsX8_list) (hret : ∀ (v : Int32) (u : Sg) (H : Heap) (locs : List Loc) (pc : Nat) (ls : Array Slot), some (v, u) = some rr → MW D κ b u H → va_S (sg_A b 16) H0 H locs → decode cX8_list pc = .ok (.ireturn, 1) → W p l e rm_X8_list s m args below meth c H locs 0 0 Q (F0 m pc ls [.int v])) : ∀ n : Nat, ∀ {σ : Sg} {x1 : Int32} {x2 : Int32} {x3 : Int32} {H : Heap} {locs : List Loc} {ls : Array Slot}, fn_X8_list_B21 b n σ x1 x2 x3 = some rr → lv_has ls 7 [(0, .ref b), (1, .int x1), (2, .int x2), (3, .int x3)] → MW D κ b σ H → va_S (sg_A b 16) H0 H locs → W p l e rm_X8_list s m args below meth c H locs 0 0 Q (F0 m 21 ls []) := by
  intro n
  induction n with
  | zero => intro σ x1 x2 x3 H locs ls h hl hC hS; cases (show (none : Option (Int32 × Sg)) = some rr from h)
  | succ n ih =>
    intro σ x1 x2 x3 H locs ls h hl hC hS
    exact w_X8_list_B21b hZ hret ih (show fn_X8_list_B21b b (fn_X8_list_B21 b n) σ x1 x2 x3 = some rr from h)  hl hC hS
def fn_X8_list (b : Nat) (σ : Sg) (x1 : Int32) (x2 : Int32) : Option (Int32 × Sg) :=
  (sg_lt (sg_w σ b 15 0) fun σ1 =>
  (if x1 < 1 then
  some ((-1), σ1)
  else (if x1 ≤ 999 then
  fn_X8_list_B21 b sg_N σ1 x1 x2 0
  else some ((-1), σ1))))
set_option maxHeartbeats 4000000 in
set_option maxRecDepth 100000 in
theorem w_X8_list_B0 {p : Program} {l : Launch} {e : Env} {s : State} {m : MethodId} {args : Array Value} {below : List Frame} {meth : Method} {c : Code} {Q : State → Prop} {D : va_G} {κ : Nat → ClassId} {b : Nat} {H0 : Heap} {rr : Int32 × Sg} (hZ : sg_Z p c s m args D κ cX8_list 7 RX8 wsX8_list) (hret : ∀ (v : Int32) (u : Sg) (H : Heap) (locs : List Loc) (pc : Nat) (ls : Array Slot), some (v, u) = some rr → MW D κ b u H → va_S (sg_A b 16) H0 H locs → decode cX8_list pc = .ok (.ireturn, 1) → W p l e rm_X8_list s m args below meth c H locs 0 0 Q (F0 m pc ls [.int v])) : ∀ {σ : Sg} {x1 : Int32} {x2 : Int32} {H : Heap} {locs : List Loc} {ls : Array Slot}, fn_X8_list b σ x1 x2 = some rr → lv_has ls 7 [(0, .ref b), (1, .int x1), (2, .int x2)] → MW D κ b σ H → va_S (sg_A b 16) H0 H locs → W p l e rm_X8_list s m args below meth c H locs 0 0 Q (F0 m 0 ls []) := by
  obtain ⟨hx, hb, hml, hown, hts, hK⟩ := hZ
  intro σ x1 x2 H locs ls h hl hC hS
  unfold fn_X8_list at h
  refine lv_aload_n hx hb dX8_list_0 rfl (lv_at hl 0 rfl) ?_
  refine lv_iconst (v := 0) hx hb dX8_list_1 (by decide) ?_
  refine va_put (D := D) (ci := 8) (v := .int 0) (ty := .int) (C := RX8) (T := TX8) (N := 21) hx hb hts (wqs inW_X8) tyX8 tyX8_ok nmX8 hown hK.1 hC.1 sg_D hS (b - b) sg_gModel rfl 15 (by decide) (hts _ (wq wt_663)) (fun _ h9 => h9) rfl (by decide +kernel) rfl rfl (Nat.le_of_ble_eq_true rfl) dX8_list_2 (fun H locs hP _ hS => ?_)
  obtain ⟨σ1, eσ1, h⟩ := sg_lte h
  have hC : MW D κ b σ1 H := eσ1 ▸ MW_put (k := 15) (v := 0) hC sg_aModel (sg_yModel _ _) hP
  refine lv_iload_n hx hb dX8_list_5 rfl (lv_at hl 1 rfl) ?_
  refine lv_iconst (v := 1) hx hb dX8_list_6 (by decide) ?_
  refine lv_icmp_lt (tgt := 17) hx hb dX8_list_7 (by decide) (fun hc => ?_) (fun hc => ?_)
  · replace h := (if_pos hc).symm.trans h
    refine lv_iconst (v := (-1)) hx hb dX8_list_17 (by decide) ?_
    exact hret _ _ _ _ _ _ h hC hS dX8_list_18
  · replace h := (if_neg hc).symm.trans h
    refine lv_iload_n hx hb dX8_list_10 rfl (lv_at hl 1 rfl) ?_
    refine lv_sipush (v := 999) hx hb dX8_list_11 (by decide) ?_
    refine lv_icmp_le (tgt := 19) hx hb dX8_list_14 (by decide) (fun hc => ?_) (fun hc => ?_)
    · replace h := (if_pos hc).symm.trans h
      refine lv_iconst (v := 0) hx hb dX8_list_19 (by decide) ?_
      refine lv_istore_n (lv' := [(3, .int 0), (0, .ref b), (1, .int x1), (2, .int x2)]) hx hb dX8_list_20 rfl hl (by decide) rfl (fun ls hl => ?_)
      exact w_X8_list_B21 ⟨hx, hb, hml, hown, hts, hK⟩ hret  sg_N h (lv_sub hl [1, 2, 3, 0] rfl) hC hS
    · replace h := (if_neg hc).symm.trans h
      refine lv_iconst (v := (-1)) hx hb dX8_list_17 (by decide) ?_
      exact hret _ _ _ _ _ _ h hC hS dX8_list_18
set_option maxHeartbeats 4000000 in
set_option maxRecDepth 100000 in
theorem c_X8_list (l : Launch) (D : va_G) (κ : Nat → ClassId) (b : Nat) (σ : Sg) (x1 : Int32) (x2 : Int32) (rr : Int32 × Sg)  (h : fn_X8_list b σ x1 x2 = some rr) : Met l yX8_list wsX8_list rm_X8_list (va_Pc [.ref b, .int x1, .int x2] (fun U => KK D κ U ∧ MW D κ b σ U.heap)) (va_Qi (fun (r : Int32) (u : Sg) => r = rr.1 ∧ u = rr.2) (fun u t => MW D κ b u t.heap) (sg_A b 16)) 0 0 (sg_A b 16) := by
  refine Met.ofW (cc := cX8_list) (maxL := 7) (ret := (some .int)) (by decide) rfl ?_
  intro p e s m args below meth c s₁ B hml hv
  obtain ⟨rfl, hK, hC⟩ := hv
  have hr := B.returns
  have hlocks := B.notSynchronized
  have hl := lv_entry ([.ref b, .int x1, .int x2]) (n := 7) (Nat.le_of_ble_eq_true rfl)
  rw [lg_entry_eq]
  generalize (lg_sl ([.ref b, .int x1, .int x2]) ++ List.replicate (7 - (lg_sl ([.ref b, .int x1, .int x2])).length) Slot.unset).toArray = ls at hl ⊢
  have hl : lv_has ls 7 [(0, .ref b), (1, .int x1), (2, .int x2)] := hl
  exact w_X8_list_B0 ⟨B.exec, B.bytes, hml, findClass_of_methodNamed B.named, atoms_spec (ws := wsX8_list) B.pre, hK⟩ (fun v u H locs pc ls hq hC hS hd => W.iret B.exec B.bytes hr (fun t ht hW => ⟨⟨v, _, rfl, ⟨congrArg Prod.fst (Option.some.inj hq), congrArg Prod.snd (Option.some.inj hq)⟩, MW_e ht hC⟩, hS.F ht⟩) hS.2.2 hd) h  hl hC va_S.rf

-- RecordShelfModel.standsAt(II)Z
theorem dX8_standsAt_0 : decode cX8_standsAt 0 = .ok (.iload_n 2, 1) := by decide +kernel
theorem dX8_standsAt_1 : decode cX8_standsAt 1 = .ok (.aload_n 0, 1) := by decide +kernel
theorem dX8_standsAt_2 : decode cX8_standsAt 2 = .ok (.getfield 149, 3) := by decide +kernel
theorem dX8_standsAt_5 : decode cX8_standsAt 5 = .ok (.iadd, 1) := by decide +kernel
theorem dX8_standsAt_6 : decode cX8_standsAt 6 = .ok (.aload_n 0, 1) := by decide +kernel
theorem dX8_standsAt_7 : decode cX8_standsAt 7 = .ok (.getfield 53, 3) := by decide +kernel
theorem dX8_standsAt_10 : decode cX8_standsAt 10 = .ok (.iload_n 1, 1) := by decide +kernel
theorem dX8_standsAt_11 : decode cX8_standsAt 11 = .ok (.iaload, 1) := by decide +kernel
theorem dX8_standsAt_12 : decode cX8_standsAt 12 = .ok (.if_icmp .le 5, 3) := by decide +kernel
theorem dX8_standsAt_15 : decode cX8_standsAt 15 = .ok (.iconst 0, 1) := by decide +kernel
theorem dX8_standsAt_16 : decode cX8_standsAt 16 = .ok (.ireturn, 1) := by decide +kernel
theorem dX8_standsAt_17 : decode cX8_standsAt 17 = .ok (.iconst 0, 1) := by decide +kernel
theorem dX8_standsAt_18 : decode cX8_standsAt 18 = .ok (.istore_n 3, 1) := by decide +kernel
theorem dX8_standsAt_19 : decode cX8_standsAt 19 = .ok (.iload_n 3, 1) := by decide +kernel
theorem dX8_standsAt_20 : decode cX8_standsAt 20 = .ok (.aload_n 0, 1) := by decide +kernel
theorem dX8_standsAt_21 : decode cX8_standsAt 21 = .ok (.getfield 149, 3) := by decide +kernel
theorem dX8_standsAt_24 : decode cX8_standsAt 24 = .ok (.if_icmp .ge 33, 3) := by decide +kernel
theorem dX8_standsAt_27 : decode cX8_standsAt 27 = .ok (.aload_n 0, 1) := by decide +kernel
theorem dX8_standsAt_28 : decode cX8_standsAt 28 = .ok (.getfield 50, 3) := by decide +kernel
theorem dX8_standsAt_31 : decode cX8_standsAt 31 = .ok (.bipush 20, 2) := by decide +kernel
theorem dX8_standsAt_33 : decode cX8_standsAt 33 = .ok (.iload_n 1, 1) := by decide +kernel
theorem dX8_standsAt_34 : decode cX8_standsAt 34 = .ok (.imul, 1) := by decide +kernel
theorem dX8_standsAt_35 : decode cX8_standsAt 35 = .ok (.iload_n 2, 1) := by decide +kernel
theorem dX8_standsAt_36 : decode cX8_standsAt 36 = .ok (.iadd, 1) := by decide +kernel
theorem dX8_standsAt_37 : decode cX8_standsAt 37 = .ok (.iload_n 3, 1) := by decide +kernel
theorem dX8_standsAt_38 : decode cX8_standsAt 38 = .ok (.iadd, 1) := by decide +kernel
theorem dX8_standsAt_39 : decode cX8_standsAt 39 = .ok (.iaload, 1) := by decide +kernel
theorem dX8_standsAt_40 : decode cX8_standsAt 40 = .ok (.aload_n 0, 1) := by decide +kernel
theorem dX8_standsAt_41 : decode cX8_standsAt 41 = .ok (.getfield 56, 3) := by decide +kernel
theorem dX8_standsAt_44 : decode cX8_standsAt 44 = .ok (.iload_n 3, 1) := by decide +kernel
theorem dX8_standsAt_45 : decode cX8_standsAt 45 = .ok (.iaload, 1) := by decide +kernel
theorem dX8_standsAt_46 : decode cX8_standsAt 46 = .ok (.if_icmp .eq 5, 3) := by decide +kernel
theorem dX8_standsAt_49 : decode cX8_standsAt 49 = .ok (.iconst 0, 1) := by decide +kernel
theorem dX8_standsAt_50 : decode cX8_standsAt 50 = .ok (.ireturn, 1) := by decide +kernel
theorem dX8_standsAt_51 : decode cX8_standsAt 51 = .ok (.iinc 3 1, 3) := by decide +kernel
theorem dX8_standsAt_54 : decode cX8_standsAt 54 = .ok (.goto (-35), 3) := by decide +kernel
theorem dX8_standsAt_57 : decode cX8_standsAt 57 = .ok (.iconst 1, 1) := by decide +kernel
theorem dX8_standsAt_58 : decode cX8_standsAt 58 = .ok (.ireturn, 1) := by decide +kernel
def rm_X8_standsAt : Room := { frames := 0, cells := 0, slots := 0, locals := 0 }
def fn_X8_standsAt_B19b (b : Nat) (σ : Sg) (z19 : Int32 → Int32 → Int32 → Option (Int32)) (x1 : Int32) (x2 : Int32) (x3 : Int32) : Option (Int32) :=
  (if ((σ.1 b 20) : Int32) ≤ x3 then
  some 1
  else (if sg_ib (((20 * x1) + x2) + x3) 3840 then
  (if sg_ib x3 600 then
  (if (σ.1 (b + 13) (sg_x (((20 * x1) + x2) + x3))) = (σ.1 (b + 15) (sg_x x3)) then
  (sg_lt (x3 + 1 : Int32) fun v1 =>
  z19 x1 x2 v1)
  else some 0)
  else none)
  else none))
def fn_X8_standsAt_B19 (b : Nat) (σ : Sg) : Nat → Int32 → Int32 → Int32 → Option (Int32)
  | 0 => fun _ _ _ => none
  | n + 1 => fun x1 x2 x3 => fn_X8_standsAt_B19b b σ (fn_X8_standsAt_B19 b σ n) x1 x2 x3
set_option maxHeartbeats 4000000 in
set_option maxRecDepth 100000 in
theorem w_X8_standsAt_B19b {p : Program} {l : Launch} {e : Env} {s : State} {m : MethodId} {args : Array Value} {below : List Frame} {meth : Method} {c : Code} {Q : State → Prop} {D : va_G} {κ : Nat → ClassId} {b : Nat} {H0 : Heap} {rr : Int32} {σ : Sg} (hZ : sg_Z p c s m args D κ cX8_standsAt 4 RX8 wsX8_standsAt) (hret : ∀ (v : Int32) (H : Heap) (locs : List Loc) (pc : Nat) (ls : Array Slot), some v = some rr → narrow .boolean (.int v) = .int v → MW D κ b σ H → va_S (sg_A b 16) H0 H locs → decode cX8_standsAt pc = .ok (.ireturn, 1) → W p l e rm_X8_standsAt s m args below meth c H locs 0 0 Q (F0 m pc ls [.int v])) {z19 : Int32 → Int32 → Int32 → Option (Int32)} (hr19 : ∀ {x1 : Int32} {x2 : Int32} {x3 : Int32} {H : Heap} {locs : List Loc} {ls : Array Slot}, z19 x1 x2 x3 = some rr → lv_has ls 4 [(0, .ref b), (1, .int x1), (2, .int x2), (3, .int x3)] → MW D κ b σ H → va_S (sg_A b 16) H0 H locs → W p l e rm_X8_standsAt s m args below meth c H locs 0 0 Q (F0 m 19 ls [])) : ∀ {x1 : Int32} {x2 : Int32} {x3 : Int32} {H : Heap} {locs : List Loc} {ls : Array Slot}, fn_X8_standsAt_B19b b σ z19 x1 x2 x3 = some rr → lv_has ls 4 [(0, .ref b), (1, .int x1), (2, .int x2), (3, .int x3)] → MW D κ b σ H → va_S (sg_A b 16) H0 H locs → W p l e rm_X8_standsAt s m args below meth c H locs 0 0 Q (F0 m 19 ls []) := by
  obtain ⟨hx, hb, hml, hown, hts, hK⟩ := hZ
  intro x1 x2 x3 H locs ls h hl hC hS
  unfold fn_X8_standsAt_B19b at h
  refine lv_iload_n hx hb dX8_standsAt_19 rfl (lv_at hl 3 rfl) ?_
  refine lv_aload_n hx hb dX8_standsAt_20 rfl (lv_at hl 0 rfl) ?_
  refine va_get (D := D) (ci := 8) (v := .int (σ.1 b 20)) (C := RX8) (T := TX8) (N := 21) hx hb hts (wqs inW_X8) hown hK.1 hC.1 (b - b) sg_gModel rfl 20 (by decide) (hts _ (wq wt_668)) (fun _ h9 => h9) rfl dX8_standsAt_21 ?_
  refine lv_icmp_ge (tgt := 57) hx hb dX8_standsAt_24 (by decide) (fun hc => ?_) (fun hc => ?_)
  · replace h := (if_pos hc).symm.trans h
    refine lv_iconst (v := 1) hx hb dX8_standsAt_57 (by decide) ?_
    exact hret _ _ _ _ _ h (by decide) hC hS dX8_standsAt_58
  · replace h := (if_neg hc).symm.trans h
    refine lv_aload_n hx hb dX8_standsAt_27 rfl (lv_at hl 0 rfl) ?_
    refine va_get (D := D) (ci := 8) (v := .ref (b + 13)) (C := RX8) (T := TX8) (N := 21) hx hb hts (wqs inW_X8) hown hK.1 hC.1 (b - b) sg_gModel rfl 17 (by decide) (hts _ (wq wt_665)) (fun _ h9 => h9) rfl dX8_standsAt_28 ?_
    refine lv_bipush (v := 20) hx hb dX8_standsAt_31 (by decide) ?_
    refine lv_iload_n hx hb dX8_standsAt_33 rfl (lv_at hl 1 rfl) ?_
    refine lv_imul hx hb dX8_standsAt_34 ?_
    refine lv_iload_n hx hb dX8_standsAt_35 rfl (lv_at hl 2 rfl) ?_
    refine lv_iadd hx hb dX8_standsAt_36 ?_
    refine lv_iload_n hx hb dX8_standsAt_37 rfl (lv_at hl 3 rfl) ?_
    refine lv_iadd hx hb dX8_standsAt_38 ?_
    obtain ⟨hg, h⟩ := sg_gd h
    refine va_iald hx hb hK.1 hC.1 ((b + 13) - b) 0 sg_ga_keys rfl (sg_in hg) dX8_standsAt_39 ?_
    refine lv_aload_n hx hb dX8_standsAt_40 rfl (lv_at hl 0 rfl) ?_
    refine va_get (D := D) (ci := 8) (v := .ref (b + 15)) (C := RX8) (T := TX8) (N := 21) hx hb hts (wqs inW_X8) hown hK.1 hC.1 (b - b) sg_gModel rfl 19 (by decide) (hts _ (wq wt_667)) (fun _ h9 => h9) rfl dX8_standsAt_41 ?_
    refine lv_iload_n hx hb dX8_standsAt_44 rfl (lv_at hl 3 rfl) ?_
    obtain ⟨hg, h⟩ := sg_gd h
    refine va_iald hx hb hK.1 hC.1 ((b + 15) - b) 0 sg_ga_wanted rfl (sg_in hg) dX8_standsAt_45 ?_
    refine lv_icmp_eq (tgt := 51) hx hb dX8_standsAt_46 (by decide) (fun hc => ?_) (fun hc => ?_)
    · replace h := (if_pos hc).symm.trans h
      obtain ⟨v1, ev1, h⟩ := sg_lte h
      refine lv_iinc (v := v1) (lv' := [(3, .int v1), (0, .ref b), (1, .int x1), (2, .int x2)]) (k := 3) hx hb dX8_standsAt_51 hl rfl (sg_inc (by decide) ev1) (by decide) rfl (fun ls hl => ?_)
      refine lv_goto (tgt := 19) hx hb dX8_standsAt_54 (by decide) ?_
      exact hr19 h (lv_sub hl [1, 2, 3, 0] rfl) hC hS
    · replace h := (if_neg hc).symm.trans h
      refine lv_iconst (v := 0) hx hb dX8_standsAt_49 (by decide) ?_
      exact hret _ _ _ _ _ h (by decide) hC hS dX8_standsAt_50
set_option maxHeartbeats 4000000 in
theorem w_X8_standsAt_B19 {p : Program} {l : Launch} {e : Env} {s : State} {m : MethodId} {args : Array Value} {below : List Frame} {meth : Method} {c : Code} {Q : State → Prop} {D : va_G} {κ : Nat → ClassId} {b : Nat} {H0 : Heap} {rr : Int32} {σ : Sg} (hZ : sg_Z p c s m args D κ cX8_standsAt 4 RX8 wsX8_standsAt) (hret : ∀ (v : Int32) (H : Heap) (locs : List Loc) (pc : Nat) (ls : Array Slot), some v = some rr → narrow .boolean (.int v) = .int v → MW D κ b σ H → va_S (sg_A b 16) H0 H locs → decode cX8_standsAt pc = .ok (.ireturn, 1) → W p l e rm_X8_standsAt s m args below meth c H locs 0 0 Q (F0 m pc ls [.int v])) : ∀ n : Nat, ∀ {x1 : Int32} {x2 : Int32} {x3 : Int32} {H : Heap} {locs : List Loc} {ls : Array Slot}, fn_X8_standsAt_B19 b σ n x1 x2 x3 = some rr → lv_has ls 4 [(0, .ref b), (1, .int x1), (2, .int x2), (3, .int x3)] → MW D κ b σ H → va_S (sg_A b 16) H0 H locs → W p l e rm_X8_standsAt s m args below meth c H locs 0 0 Q (F0 m 19 ls []) := by
  intro n
  induction n with
  | zero => intro x1 x2 x3 H locs ls h hl hC hS; cases (show (none : Option (Int32)) = some rr from h)
  | succ n ih =>
    intro x1 x2 x3 H locs ls h hl hC hS
    exact w_X8_standsAt_B19b hZ hret ih (show fn_X8_standsAt_B19b b σ (fn_X8_standsAt_B19 b σ n) x1 x2 x3 = some rr from h)  hl hC hS
def fn_X8_standsAt (b : Nat) (σ : Sg) (x1 : Int32) (x2 : Int32) : Option (Int32) :=
  (if sg_ib x1 192 then
  (if (x2 + (σ.1 b 20)) ≤ (σ.1 (b + 14) (sg_x x1)) then
  fn_X8_standsAt_B19 b σ sg_N x1 x2 0
  else some 0)
  else none)
set_option maxHeartbeats 4000000 in
set_option maxRecDepth 100000 in
theorem w_X8_standsAt_B0 {p : Program} {l : Launch} {e : Env} {s : State} {m : MethodId} {args : Array Value} {below : List Frame} {meth : Method} {c : Code} {Q : State → Prop} {D : va_G} {κ : Nat → ClassId} {b : Nat} {H0 : Heap} {rr : Int32} {σ : Sg} (hZ : sg_Z p c s m args D κ cX8_standsAt 4 RX8 wsX8_standsAt) (hret : ∀ (v : Int32) (H : Heap) (locs : List Loc) (pc : Nat) (ls : Array Slot), some v = some rr → narrow .boolean (.int v) = .int v → MW D κ b σ H → va_S (sg_A b 16) H0 H locs → decode cX8_standsAt pc = .ok (.ireturn, 1) → W p l e rm_X8_standsAt s m args below meth c H locs 0 0 Q (F0 m pc ls [.int v])) : ∀ {x1 : Int32} {x2 : Int32} {H : Heap} {locs : List Loc} {ls : Array Slot}, fn_X8_standsAt b σ x1 x2 = some rr → lv_has ls 4 [(0, .ref b), (1, .int x1), (2, .int x2)] → MW D κ b σ H → va_S (sg_A b 16) H0 H locs → W p l e rm_X8_standsAt s m args below meth c H locs 0 0 Q (F0 m 0 ls []) := by
  obtain ⟨hx, hb, hml, hown, hts, hK⟩ := hZ
  intro x1 x2 H locs ls h hl hC hS
  unfold fn_X8_standsAt at h
  refine lv_iload_n hx hb dX8_standsAt_0 rfl (lv_at hl 2 rfl) ?_
  refine lv_aload_n hx hb dX8_standsAt_1 rfl (lv_at hl 0 rfl) ?_
  refine va_get (D := D) (ci := 8) (v := .int (σ.1 b 20)) (C := RX8) (T := TX8) (N := 21) hx hb hts (wqs inW_X8) hown hK.1 hC.1 (b - b) sg_gModel rfl 20 (by decide) (hts _ (wq wt_668)) (fun _ h9 => h9) rfl dX8_standsAt_2 ?_
  refine lv_iadd hx hb dX8_standsAt_5 ?_
  refine lv_aload_n hx hb dX8_standsAt_6 rfl (lv_at hl 0 rfl) ?_
  refine va_get (D := D) (ci := 8) (v := .ref (b + 14)) (C := RX8) (T := TX8) (N := 21) hx hb hts (wqs inW_X8) hown hK.1 hC.1 (b - b) sg_gModel rfl 18 (by decide) (hts _ (wq wt_666)) (fun _ h9 => h9) rfl dX8_standsAt_7 ?_
  refine lv_iload_n hx hb dX8_standsAt_10 rfl (lv_at hl 1 rfl) ?_
  obtain ⟨hg, h⟩ := sg_gd h
  refine va_iald hx hb hK.1 hC.1 ((b + 14) - b) 0 sg_ga_keySizes rfl (sg_in hg) dX8_standsAt_11 ?_
  refine lv_icmp_le (tgt := 17) hx hb dX8_standsAt_12 (by decide) (fun hc => ?_) (fun hc => ?_)
  · replace h := (if_pos hc).symm.trans h
    refine lv_iconst (v := 0) hx hb dX8_standsAt_17 (by decide) ?_
    refine lv_istore_n (lv' := [(3, .int 0), (0, .ref b), (1, .int x1), (2, .int x2)]) hx hb dX8_standsAt_18 rfl hl (by decide) rfl (fun ls hl => ?_)
    exact w_X8_standsAt_B19 ⟨hx, hb, hml, hown, hts, hK⟩ hret  sg_N h (lv_sub hl [1, 2, 3, 0] rfl) hC hS
  · replace h := (if_neg hc).symm.trans h
    refine lv_iconst (v := 0) hx hb dX8_standsAt_15 (by decide) ?_
    exact hret _ _ _ _ _ h (by decide) hC hS dX8_standsAt_16
set_option maxHeartbeats 4000000 in
set_option maxRecDepth 100000 in
theorem c_X8_standsAt (l : Launch) (D : va_G) (κ : Nat → ClassId) (b : Nat) (σ : Sg) (x1 : Int32) (x2 : Int32) (rr : Int32)  (h : fn_X8_standsAt b σ x1 x2 = some rr) : Met l yX8_standsAt wsX8_standsAt rm_X8_standsAt (va_Pc [.ref b, .int x1, .int x2] (fun U => KK D κ U ∧ MW D κ b σ U.heap)) (va_Qi (fun (r : Int32) (u : Sg) => r = rr ∧ u = σ) (fun u t => MW D κ b u t.heap) (sg_A b 16)) 0 0 (sg_A b 16) := by
  refine Met.ofW (cc := cX8_standsAt) (maxL := 4) (ret := (some .boolean)) (by decide) rfl ?_
  intro p e s m args below meth c s₁ B hml hv
  obtain ⟨rfl, hK, hC⟩ := hv
  have hr := B.returns
  have hlocks := B.notSynchronized
  have hl := lv_entry ([.ref b, .int x1, .int x2]) (n := 4) (Nat.le_of_ble_eq_true rfl)
  rw [lg_entry_eq]
  generalize (lg_sl ([.ref b, .int x1, .int x2]) ++ List.replicate (4 - (lg_sl ([.ref b, .int x1, .int x2])).length) Slot.unset).toArray = ls at hl ⊢
  have hl : lv_has ls 4 [(0, .ref b), (1, .int x1), (2, .int x2)] := hl
  exact w_X8_standsAt_B0 ⟨B.exec, B.bytes, hml, findClass_of_methodNamed B.named, atoms_spec (ws := wsX8_standsAt) B.pre, hK⟩ (fun v H locs pc ls hq hbo hC hS hd => W.zret B.exec B.bytes hr hbo (fun t ht hW => ⟨⟨v, _, rfl, ⟨Option.some.inj hq, rfl⟩, MW_e ht hC⟩, hS.F ht⟩) hS.2.2 hd) h  hl hC va_S.rf

-- RecordShelfModel.isFound(II)Z
theorem dX8_isFound_0 : decode cX8_isFound 0 = .ok (.aload_n 0, 1) := by decide +kernel
theorem dX8_isFound_1 : decode cX8_isFound 1 = .ok (.getfield 53, 3) := by decide +kernel
theorem dX8_isFound_4 : decode cX8_isFound 4 = .ok (.iload_n 1, 1) := by decide +kernel
theorem dX8_isFound_5 : decode cX8_isFound 5 = .ok (.iaload, 1) := by decide +kernel
theorem dX8_isFound_6 : decode cX8_isFound 6 = .ok (.istore_n 3, 1) := by decide +kernel
theorem dX8_isFound_7 : decode cX8_isFound 7 = .ok (.iload_n 2, 1) := by decide +kernel
theorem dX8_isFound_8 : decode cX8_isFound 8 = .ok (.ifCond .eq 15, 3) := by decide +kernel
theorem dX8_isFound_11 : decode cX8_isFound 11 = .ok (.iload_n 2, 1) := by decide +kernel
theorem dX8_isFound_12 : decode cX8_isFound 12 = .ok (.iconst 2, 1) := by decide +kernel
theorem dX8_isFound_13 : decode cX8_isFound 13 = .ok (.if_icmp .ne 33, 3) := by decide +kernel
theorem dX8_isFound_16 : decode cX8_isFound 16 = .ok (.aload_n 0, 1) := by decide +kernel
theorem dX8_isFound_17 : decode cX8_isFound 17 = .ok (.getfield 149, 3) := by decide +kernel
theorem dX8_isFound_20 : decode cX8_isFound 20 = .ok (.ifCond .ne 26, 3) := by decide +kernel
theorem dX8_isFound_23 : decode cX8_isFound 23 = .ok (.iload_n 3, 1) := by decide +kernel
theorem dX8_isFound_24 : decode cX8_isFound 24 = .ok (.aload_n 0, 1) := by decide +kernel
theorem dX8_isFound_25 : decode cX8_isFound 25 = .ok (.getfield 149, 3) := by decide +kernel
theorem dX8_isFound_28 : decode cX8_isFound 28 = .ok (.if_icmp .ne 16, 3) := by decide +kernel
theorem dX8_isFound_31 : decode cX8_isFound 31 = .ok (.aload_n 0, 1) := by decide +kernel
theorem dX8_isFound_32 : decode cX8_isFound 32 = .ok (.iload_n 1, 1) := by decide +kernel
theorem dX8_isFound_33 : decode cX8_isFound 33 = .ok (.iconst 0, 1) := by decide +kernel
theorem dX8_isFound_34 : decode cX8_isFound 34 = .ok (.invokevirtual 164, 3) := by decide +kernel
theorem dX8_isFound_37 : decode cX8_isFound 37 = .ok (.ifCond .eq 7, 3) := by decide +kernel
theorem dX8_isFound_40 : decode cX8_isFound 40 = .ok (.iconst 1, 1) := by decide +kernel
theorem dX8_isFound_41 : decode cX8_isFound 41 = .ok (.goto 4, 3) := by decide +kernel
theorem dX8_isFound_44 : decode cX8_isFound 44 = .ok (.iconst 0, 1) := by decide +kernel
theorem dX8_isFound_45 : decode cX8_isFound 45 = .ok (.ireturn, 1) := by decide +kernel
theorem dX8_isFound_46 : decode cX8_isFound 46 = .ok (.iload_n 2, 1) := by decide +kernel
theorem dX8_isFound_47 : decode cX8_isFound 47 = .ok (.iconst 1, 1) := by decide +kernel
theorem dX8_isFound_48 : decode cX8_isFound 48 = .ok (.if_icmp .ne 10, 3) := by decide +kernel
theorem dX8_isFound_51 : decode cX8_isFound 51 = .ok (.aload_n 0, 1) := by decide +kernel
theorem dX8_isFound_52 : decode cX8_isFound 52 = .ok (.iload_n 1, 1) := by decide +kernel
theorem dX8_isFound_53 : decode cX8_isFound 53 = .ok (.iconst 0, 1) := by decide +kernel
theorem dX8_isFound_54 : decode cX8_isFound 54 = .ok (.invokevirtual 164, 3) := by decide +kernel
theorem dX8_isFound_57 : decode cX8_isFound 57 = .ok (.ireturn, 1) := by decide +kernel
theorem dX8_isFound_58 : decode cX8_isFound 58 = .ok (.iconst 0, 1) := by decide +kernel
theorem dX8_isFound_59 : decode cX8_isFound 59 = .ok (.istore 4, 2) := by decide +kernel
theorem dX8_isFound_61 : decode cX8_isFound 61 = .ok (.iconst 0, 1) := by decide +kernel
theorem dX8_isFound_62 : decode cX8_isFound 62 = .ok (.istore 5, 2) := by decide +kernel
theorem dX8_isFound_64 : decode cX8_isFound 64 = .ok (.iload 5, 2) := by decide +kernel
theorem dX8_isFound_66 : decode cX8_isFound 66 = .ok (.iload_n 3, 1) := by decide +kernel
theorem dX8_isFound_67 : decode cX8_isFound 67 = .ok (.if_icmp .ge 99, 3) := by decide +kernel
theorem dX8_isFound_70 : decode cX8_isFound 70 = .ok (.iload 5, 2) := by decide +kernel
theorem dX8_isFound_72 : decode cX8_isFound 72 = .ok (.ifCond .eq 22, 3) := by decide +kernel
theorem dX8_isFound_75 : decode cX8_isFound 75 = .ok (.aload_n 0, 1) := by decide +kernel
theorem dX8_isFound_76 : decode cX8_isFound 76 = .ok (.getfield 50, 3) := by decide +kernel
theorem dX8_isFound_79 : decode cX8_isFound 79 = .ok (.bipush 20, 2) := by decide +kernel
theorem dX8_isFound_81 : decode cX8_isFound 81 = .ok (.iload_n 1, 1) := by decide +kernel
theorem dX8_isFound_82 : decode cX8_isFound 82 = .ok (.imul, 1) := by decide +kernel
theorem dX8_isFound_83 : decode cX8_isFound 83 = .ok (.iload 5, 2) := by decide +kernel
theorem dX8_isFound_85 : decode cX8_isFound 85 = .ok (.iadd, 1) := by decide +kernel
theorem dX8_isFound_86 : decode cX8_isFound 86 = .ok (.iconst 1, 1) := by decide +kernel
theorem dX8_isFound_87 : decode cX8_isFound 87 = .ok (.isub, 1) := by decide +kernel
theorem dX8_isFound_88 : decode cX8_isFound 88 = .ok (.iaload, 1) := by decide +kernel
theorem dX8_isFound_89 : decode cX8_isFound 89 = .ok (.bipush 32, 2) := by decide +kernel
theorem dX8_isFound_91 : decode cX8_isFound 91 = .ok (.if_icmp .ne 7, 3) := by decide +kernel
theorem dX8_isFound_94 : decode cX8_isFound 94 = .ok (.iconst 1, 1) := by decide +kernel
theorem dX8_isFound_95 : decode cX8_isFound 95 = .ok (.goto 4, 3) := by decide +kernel
theorem dX8_isFound_98 : decode cX8_isFound 98 = .ok (.iconst 0, 1) := by decide +kernel
theorem dX8_isFound_99 : decode cX8_isFound 99 = .ok (.istore 6, 2) := by decide +kernel
theorem dX8_isFound_101 : decode cX8_isFound 101 = .ok (.iload 5, 2) := by decide +kernel
theorem dX8_isFound_103 : decode cX8_isFound 103 = .ok (.aload_n 0, 1) := by decide +kernel
theorem dX8_isFound_104 : decode cX8_isFound 104 = .ok (.getfield 149, 3) := by decide +kernel
theorem dX8_isFound_107 : decode cX8_isFound 107 = .ok (.iadd, 1) := by decide +kernel
theorem dX8_isFound_108 : decode cX8_isFound 108 = .ok (.istore 7, 2) := by decide +kernel
theorem dX8_isFound_110 : decode cX8_isFound 110 = .ok (.iload 4, 2) := by decide +kernel
theorem dX8_isFound_112 : decode cX8_isFound 112 = .ok (.ifCond .ne 41, 3) := by decide +kernel
theorem dX8_isFound_115 : decode cX8_isFound 115 = .ok (.iload 6, 2) := by decide +kernel
theorem dX8_isFound_117 : decode cX8_isFound 117 = .ok (.ifCond .eq 40, 3) := by decide +kernel
theorem dX8_isFound_120 : decode cX8_isFound 120 = .ok (.aload_n 0, 1) := by decide +kernel
theorem dX8_isFound_121 : decode cX8_isFound 121 = .ok (.iload_n 1, 1) := by decide +kernel
theorem dX8_isFound_122 : decode cX8_isFound 122 = .ok (.iload 5, 2) := by decide +kernel
theorem dX8_isFound_124 : decode cX8_isFound 124 = .ok (.invokevirtual 164, 3) := by decide +kernel
theorem dX8_isFound_127 : decode cX8_isFound 127 = .ok (.ifCond .eq 30, 3) := by decide +kernel
theorem dX8_isFound_130 : decode cX8_isFound 130 = .ok (.iload 7, 2) := by decide +kernel
theorem dX8_isFound_132 : decode cX8_isFound 132 = .ok (.iload_n 3, 1) := by decide +kernel
theorem dX8_isFound_133 : decode cX8_isFound 133 = .ok (.if_icmp .eq 20, 3) := by decide +kernel
theorem dX8_isFound_136 : decode cX8_isFound 136 = .ok (.aload_n 0, 1) := by decide +kernel
theorem dX8_isFound_137 : decode cX8_isFound 137 = .ok (.getfield 50, 3) := by decide +kernel
theorem dX8_isFound_140 : decode cX8_isFound 140 = .ok (.bipush 20, 2) := by decide +kernel
theorem dX8_isFound_142 : decode cX8_isFound 142 = .ok (.iload_n 1, 1) := by decide +kernel
theorem dX8_isFound_143 : decode cX8_isFound 143 = .ok (.imul, 1) := by decide +kernel
theorem dX8_isFound_144 : decode cX8_isFound 144 = .ok (.iload 7, 2) := by decide +kernel
theorem dX8_isFound_146 : decode cX8_isFound 146 = .ok (.iadd, 1) := by decide +kernel
theorem dX8_isFound_147 : decode cX8_isFound 147 = .ok (.iaload, 1) := by decide +kernel
theorem dX8_isFound_148 : decode cX8_isFound 148 = .ok (.bipush 32, 2) := by decide +kernel
theorem dX8_isFound_150 : decode cX8_isFound 150 = .ok (.if_icmp .ne 7, 3) := by decide +kernel
theorem dX8_isFound_153 : decode cX8_isFound 153 = .ok (.iconst 1, 1) := by decide +kernel
theorem dX8_isFound_154 : decode cX8_isFound 154 = .ok (.goto 4, 3) := by decide +kernel
theorem dX8_isFound_157 : decode cX8_isFound 157 = .ok (.iconst 0, 1) := by decide +kernel
theorem dX8_isFound_158 : decode cX8_isFound 158 = .ok (.istore 4, 2) := by decide +kernel
theorem dX8_isFound_160 : decode cX8_isFound 160 = .ok (.iinc 5 1, 3) := by decide +kernel
theorem dX8_isFound_163 : decode cX8_isFound 163 = .ok (.goto (-99), 3) := by decide +kernel
theorem dX8_isFound_166 : decode cX8_isFound 166 = .ok (.iload 4, 2) := by decide +kernel
theorem dX8_isFound_168 : decode cX8_isFound 168 = .ok (.ireturn, 1) := by decide +kernel
def rm_X8_isFound : Room := { frames := 1, cells := 0, slots := 0, locals := 23 }
def fn_X8_isFound_B23 (b : Nat) (σ : Sg) (x1 : Int32) (x3 : Int32) : Option (Int32) :=
  (if x3 = (σ.1 b 20) then
  ((fn_X8_standsAt b σ x1 0).bind fun r1 =>
  (if r1 = 0 then
  some 0
  else some 1))
  else some 0)
set_option maxHeartbeats 4000000 in
set_option maxRecDepth 100000 in
theorem w_X8_isFound_B23 {p : Program} {l : Launch} {e : Env} {s : State} {m : MethodId} {args : Array Value} {below : List Frame} {meth : Method} {c : Code} {Q : State → Prop} {D : va_G} {κ : Nat → ClassId} {b : Nat} {H0 : Heap} {rr : Int32} {σ : Sg} (hZ : sg_Z p c s m args D κ cX8_isFound 8 RX8 wsX8_isFound) (hret : ∀ (v : Int32) (H : Heap) (locs : List Loc) (pc : Nat) (ls : Array Slot), some v = some rr → narrow .boolean (.int v) = .int v → MW D κ b σ H → va_S (sg_A b 16) H0 H locs → decode cX8_isFound pc = .ok (.ireturn, 1) → W p l e rm_X8_isFound s m args below meth c H locs 0 0 Q (F0 m pc ls [.int v])) : ∀ {x1 : Int32} {x3 : Int32} {H : Heap} {locs : List Loc} {ls : Array Slot}, fn_X8_isFound_B23 b σ x1 x3 = some rr → lv_has ls 8 [(0, .ref b), (1, .int x1), (3, .int x3)] → MW D κ b σ H → va_S (sg_A b 16) H0 H locs → W p l e rm_X8_isFound s m args below meth c H locs 0 0 Q (F0 m 23 ls []) := by
  obtain ⟨hx, hb, hml, hown, hts, hK⟩ := hZ
  intro x1 x3 H locs ls h hl hC hS
  unfold fn_X8_isFound_B23 at h
  refine lv_iload_n hx hb dX8_isFound_23 rfl (lv_at hl 2 rfl) ?_
  refine lv_aload_n hx hb dX8_isFound_24 rfl (lv_at hl 0 rfl) ?_
  refine va_get (D := D) (ci := 8) (v := .int (σ.1 b 20)) (C := RX8) (T := TX8) (N := 21) hx hb hts (wqs inW_X8) hown hK.1 hC.1 (b - b) sg_gModel rfl 20 (by decide) (hts _ (wq wt_668)) (fun _ h9 => h9) rfl dX8_isFound_25 ?_
  refine lv_icmp_ne (tgt := 44) hx hb dX8_isFound_28 (by decide) (fun hc => ?_) (fun hc => ?_)
  · replace h := (if_neg hc).symm.trans h
    refine lv_iconst (v := 0) hx hb dX8_isFound_44 (by decide) ?_
    exact hret _ _ _ _ _ h (by decide) hC hS dX8_isFound_45
  · replace h := (if_pos hc).symm.trans h
    refine lv_aload_n hx hb dX8_isFound_31 rfl (lv_at hl 0 rfl) ?_
    refine lv_iload_n hx hb dX8_isFound_32 rfl (lv_at hl 1 rfl) ?_
    refine lv_iconst (v := 0) hx hb dX8_isFound_33 (by decide) ?_
    obtain ⟨r1, er1, h⟩ := Option.bind_eq_some_iff.mp h
    refine va_calli (va_runV (As := [.int x1, .int 0]) (rest := []) ⟨hx, hb, hml, hown, hts⟩ (c_X8_standsAt l D κ b σ x1 0 _ er1) (cwV 2 hts (gwV wt_887 wt_889 wp_52 wt_9 wt_890) rfl rfl rfl (by decide +kernel) ⟨Nat.le_of_ble_eq_true rfl, Nat.le_of_ble_eq_true rfl⟩) (MW_preV hK hC sg_gModel rfl) rfl rfl hl.1 rfl (lv_room (Nat.le_of_ble_eq_true rfl)) dX8_isFound_34 ⟨Nat.zero_le _, Nat.zero_le _⟩) hS (fun _ _ h => h) (fun _ h => h) (fun r u t H locs ht _ hp hB _ _ hS => ?_)
    refine sg_topi hp.1 ?_
    have hC : MW D κ b σ H := MW_b hB ht hp.2
    refine lv_if_eq (tgt := 44) hx hb dX8_isFound_37 (by decide) (fun hc => ?_) (fun hc => ?_)
    · replace h := (if_pos hc).symm.trans h
      refine lv_iconst (v := 0) hx hb dX8_isFound_44 (by decide) ?_
      exact hret _ _ _ _ _ h (by decide) hC hS dX8_isFound_45
    · replace h := (if_neg hc).symm.trans h
      refine lv_iconst (v := 1) hx hb dX8_isFound_40 (by decide) ?_
      refine lv_goto (tgt := 45) hx hb dX8_isFound_41 (by decide) ?_
      exact hret _ _ _ _ _ h (by decide) hC hS dX8_isFound_45
def fn_X8_isFound_B158 (b : Nat) (σ : Sg) (z64 : Int32 → Int32 → Int32 → Int32 → Option (Int32)) (x1 : Int32) (x3 : Int32) (x5 : Int32) (y0 : Int32) : Option (Int32) :=
  (sg_lt (x5 + 1 : Int32) fun v1 =>
  z64 x1 x3 y0 v1)
set_option maxHeartbeats 4000000 in
set_option maxRecDepth 100000 in
theorem w_X8_isFound_B158 {p : Program} {l : Launch} {e : Env} {s : State} {m : MethodId} {args : Array Value} {below : List Frame} {meth : Method} {c : Code} {Q : State → Prop} {D : va_G} {κ : Nat → ClassId} {b : Nat} {H0 : Heap} {rr : Int32} {σ : Sg} (hZ : sg_Z p c s m args D κ cX8_isFound 8 RX8 wsX8_isFound) (hret : ∀ (v : Int32) (H : Heap) (locs : List Loc) (pc : Nat) (ls : Array Slot), some v = some rr → narrow .boolean (.int v) = .int v → MW D κ b σ H → va_S (sg_A b 16) H0 H locs → decode cX8_isFound pc = .ok (.ireturn, 1) → W p l e rm_X8_isFound s m args below meth c H locs 0 0 Q (F0 m pc ls [.int v])) {z64 : Int32 → Int32 → Int32 → Int32 → Option (Int32)} (hr64 : ∀ {x1 : Int32} {x3 : Int32} {x4 : Int32} {x5 : Int32} {H : Heap} {locs : List Loc} {ls : Array Slot}, z64 x1 x3 x4 x5 = some rr → lv_has ls 8 [(0, .ref b), (1, .int x1), (3, .int x3), (4, .int x4), (5, .int x5)] → MW D κ b σ H → va_S (sg_A b 16) H0 H locs → W p l e rm_X8_isFound s m args below meth c H locs 0 0 Q (F0 m 64 ls [])) : ∀ {x1 : Int32} {x3 : Int32} {x5 : Int32} {y0 : Int32} {H : Heap} {locs : List Loc} {ls : Array Slot}, fn_X8_isFound_B158 b σ z64 x1 x3 x5 y0 = some rr → lv_has ls 8 [(0, .ref b), (1, .int x1), (3, .int x3), (5, .int x5)] → MW D κ b σ H → va_S (sg_A b 16) H0 H locs → W p l e rm_X8_isFound s m args below meth c H locs 0 0 Q (F0 m 158 ls [.int y0]) := by
  obtain ⟨hx, hb, hml, hown, hts, hK⟩ := hZ
  intro x1 x3 x5 y0 H locs ls h hl hC hS
  unfold fn_X8_isFound_B158 at h
  refine lv_istore (lv' := [(4, .int y0), (0, .ref b), (1, .int x1), (3, .int x3), (5, .int x5)]) hx hb dX8_isFound_158 hl (by decide) rfl (fun ls hl => ?_)
  obtain ⟨v1, ev1, h⟩ := sg_lte h
  refine lv_iinc (v := v1) (lv' := [(5, .int v1), (4, .int y0), (0, .ref b), (1, .int x1), (3, .int x3)]) (k := 4) hx hb dX8_isFound_160 hl rfl (sg_inc (by decide) ev1) (by decide) rfl (fun ls hl => ?_)
  refine lv_goto (tgt := 64) hx hb dX8_isFound_163 (by decide) ?_
  exact hr64 h (lv_sub hl [2, 3, 4, 1, 0] rfl) hC hS
def fn_X8_isFound_B153 (b : Nat) (σ : Sg) (z64 : Int32 → Int32 → Int32 → Int32 → Option (Int32)) (x1 : Int32) (x3 : Int32) (x5 : Int32) : Option (Int32) :=
  fn_X8_isFound_B158 b σ z64 x1 x3 x5 1
set_option maxHeartbeats 4000000 in
set_option maxRecDepth 100000 in
theorem w_X8_isFound_B153 {p : Program} {l : Launch} {e : Env} {s : State} {m : MethodId} {args : Array Value} {below : List Frame} {meth : Method} {c : Code} {Q : State → Prop} {D : va_G} {κ : Nat → ClassId} {b : Nat} {H0 : Heap} {rr : Int32} {σ : Sg} (hZ : sg_Z p c s m args D κ cX8_isFound 8 RX8 wsX8_isFound) (hret : ∀ (v : Int32) (H : Heap) (locs : List Loc) (pc : Nat) (ls : Array Slot), some v = some rr → narrow .boolean (.int v) = .int v → MW D κ b σ H → va_S (sg_A b 16) H0 H locs → decode cX8_isFound pc = .ok (.ireturn, 1) → W p l e rm_X8_isFound s m args below meth c H locs 0 0 Q (F0 m pc ls [.int v])) {z64 : Int32 → Int32 → Int32 → Int32 → Option (Int32)} (hr64 : ∀ {x1 : Int32} {x3 : Int32} {x4 : Int32} {x5 : Int32} {H : Heap} {locs : List Loc} {ls : Array Slot}, z64 x1 x3 x4 x5 = some rr → lv_has ls 8 [(0, .ref b), (1, .int x1), (3, .int x3), (4, .int x4), (5, .int x5)] → MW D κ b σ H → va_S (sg_A b 16) H0 H locs → W p l e rm_X8_isFound s m args below meth c H locs 0 0 Q (F0 m 64 ls [])) : ∀ {x1 : Int32} {x3 : Int32} {x5 : Int32} {H : Heap} {locs : List Loc} {ls : Array Slot}, fn_X8_isFound_B153 b σ z64 x1 x3 x5 = some rr → lv_has ls 8 [(0, .ref b), (1, .int x1), (3, .int x3), (5, .int x5)] → MW D κ b σ H → va_S (sg_A b 16) H0 H locs → W p l e rm_X8_isFound s m args below meth c H locs 0 0 Q (F0 m 153 ls []) := by
  obtain ⟨hx, hb, hml, hown, hts, hK⟩ := hZ
  intro x1 x3 x5 H locs ls h hl hC hS
  unfold fn_X8_isFound_B153 at h
  refine lv_iconst (v := 1) hx hb dX8_isFound_153 (by decide) ?_
  refine lv_goto (tgt := 158) hx hb dX8_isFound_154 (by decide) ?_
  exact w_X8_isFound_B158 ⟨hx, hb, hml, hown, hts, hK⟩ hret hr64 h (lv_sub hl [0, 1, 2, 3] rfl) hC hS
def fn_X8_isFound_B157 (b : Nat) (σ : Sg) (z64 : Int32 → Int32 → Int32 → Int32 → Option (Int32)) (x1 : Int32) (x3 : Int32) (x5 : Int32) : Option (Int32) :=
  fn_X8_isFound_B158 b σ z64 x1 x3 x5 0
set_option maxHeartbeats 4000000 in
set_option maxRecDepth 100000 in
theorem w_X8_isFound_B157 {p : Program} {l : Launch} {e : Env} {s : State} {m : MethodId} {args : Array Value} {below : List Frame} {meth : Method} {c : Code} {Q : State → Prop} {D : va_G} {κ : Nat → ClassId} {b : Nat} {H0 : Heap} {rr : Int32} {σ : Sg} (hZ : sg_Z p c s m args D κ cX8_isFound 8 RX8 wsX8_isFound) (hret : ∀ (v : Int32) (H : Heap) (locs : List Loc) (pc : Nat) (ls : Array Slot), some v = some rr → narrow .boolean (.int v) = .int v → MW D κ b σ H → va_S (sg_A b 16) H0 H locs → decode cX8_isFound pc = .ok (.ireturn, 1) → W p l e rm_X8_isFound s m args below meth c H locs 0 0 Q (F0 m pc ls [.int v])) {z64 : Int32 → Int32 → Int32 → Int32 → Option (Int32)} (hr64 : ∀ {x1 : Int32} {x3 : Int32} {x4 : Int32} {x5 : Int32} {H : Heap} {locs : List Loc} {ls : Array Slot}, z64 x1 x3 x4 x5 = some rr → lv_has ls 8 [(0, .ref b), (1, .int x1), (3, .int x3), (4, .int x4), (5, .int x5)] → MW D κ b σ H → va_S (sg_A b 16) H0 H locs → W p l e rm_X8_isFound s m args below meth c H locs 0 0 Q (F0 m 64 ls [])) : ∀ {x1 : Int32} {x3 : Int32} {x5 : Int32} {H : Heap} {locs : List Loc} {ls : Array Slot}, fn_X8_isFound_B157 b σ z64 x1 x3 x5 = some rr → lv_has ls 8 [(0, .ref b), (1, .int x1), (3, .int x3), (5, .int x5)] → MW D κ b σ H → va_S (sg_A b 16) H0 H locs → W p l e rm_X8_isFound s m args below meth c H locs 0 0 Q (F0 m 157 ls []) := by
  obtain ⟨hx, hb, hml, hown, hts, hK⟩ := hZ
  intro x1 x3 x5 H locs ls h hl hC hS
  unfold fn_X8_isFound_B157 at h
  refine lv_iconst (v := 0) hx hb dX8_isFound_157 (by decide) ?_
  exact w_X8_isFound_B158 ⟨hx, hb, hml, hown, hts, hK⟩ hret hr64 h (lv_sub hl [0, 1, 2, 3] rfl) hC hS
def fn_X8_isFound_B99 (b : Nat) (σ : Sg) (z64 : Int32 → Int32 → Int32 → Int32 → Option (Int32)) (x1 : Int32) (x3 : Int32) (x4 : Int32) (x5 : Int32) (y0 : Int32) : Option (Int32) :=
  (sg_lt ((x5 + (σ.1 b 20)) : Int32) fun v1 =>
  (if x4 = 0 then
  (if y0 = 0 then
  fn_X8_isFound_B157 b σ z64 x1 x3 x5
  else ((fn_X8_standsAt b σ x1 x5).bind fun r2 =>
  (if r2 = 0 then
  fn_X8_isFound_B157 b σ z64 x1 x3 x5
  else (if v1 = x3 then
  fn_X8_isFound_B153 b σ z64 x1 x3 x5
  else (if sg_ib ((20 * x1) + v1) 3840 then
  (if (σ.1 (b + 13) (sg_x ((20 * x1) + v1))) = 32 then
  fn_X8_isFound_B153 b σ z64 x1 x3 x5
  else fn_X8_isFound_B157 b σ z64 x1 x3 x5)
  else none)))))
  else fn_X8_isFound_B153 b σ z64 x1 x3 x5))
set_option maxHeartbeats 4000000 in
set_option maxRecDepth 100000 in
theorem w_X8_isFound_B99 {p : Program} {l : Launch} {e : Env} {s : State} {m : MethodId} {args : Array Value} {below : List Frame} {meth : Method} {c : Code} {Q : State → Prop} {D : va_G} {κ : Nat → ClassId} {b : Nat} {H0 : Heap} {rr : Int32} {σ : Sg} (hZ : sg_Z p c s m args D κ cX8_isFound 8 RX8 wsX8_isFound) (hret : ∀ (v : Int32) (H : Heap) (locs : List Loc) (pc : Nat) (ls : Array Slot), some v = some rr → narrow .boolean (.int v) = .int v → MW D κ b σ H → va_S (sg_A b 16) H0 H locs → decode cX8_isFound pc = .ok (.ireturn, 1) → W p l e rm_X8_isFound s m args below meth c H locs 0 0 Q (F0 m pc ls [.int v])) {z64 : Int32 → Int32 → Int32 → Int32 → Option (Int32)} (hr64 : ∀ {x1 : Int32} {x3 : Int32} {x4 : Int32} {x5 : Int32} {H : Heap} {locs : List Loc} {ls : Array Slot}, z64 x1 x3 x4 x5 = some rr → lv_has ls 8 [(0, .ref b), (1, .int x1), (3, .int x3), (4, .int x4), (5, .int x5)] → MW D κ b σ H → va_S (sg_A b 16) H0 H locs → W p l e rm_X8_isFound s m args below meth c H locs 0 0 Q (F0 m 64 ls [])) : ∀ {x1 : Int32} {x3 : Int32} {x4 : Int32} {x5 : Int32} {y0 : Int32} {H : Heap} {locs : List Loc} {ls : Array Slot}, fn_X8_isFound_B99 b σ z64 x1 x3 x4 x5 y0 = some rr → lv_has ls 8 [(0, .ref b), (1, .int x1), (3, .int x3), (4, .int x4), (5, .int x5)] → MW D κ b σ H → va_S (sg_A b 16) H0 H locs → W p l e rm_X8_isFound s m args below meth c H locs 0 0 Q (F0 m 99 ls [.int y0]) := by
  obtain ⟨hx, hb, hml, hown, hts, hK⟩ := hZ
  intro x1 x3 x4 x5 y0 H locs ls h hl hC hS
  unfold fn_X8_isFound_B99 at h
  refine lv_istore (lv' := [(6, .int y0), (0, .ref b), (1, .int x1), (3, .int x3), (4, .int x4), (5, .int x5)]) hx hb dX8_isFound_99 hl (by decide) rfl (fun ls hl => ?_)
  refine lv_iload hx hb dX8_isFound_101 (lv_at hl 5 rfl) ?_
  refine lv_aload_n hx hb dX8_isFound_103 rfl (lv_at hl 1 rfl) ?_
  refine va_get (D := D) (ci := 8) (v := .int (σ.1 b 20)) (C := RX8) (T := TX8) (N := 21) hx hb hts (wqs inW_X8) hown hK.1 hC.1 (b - b) sg_gModel rfl 20 (by decide) (hts _ (wq wt_668)) (fun _ h9 => h9) rfl dX8_isFound_104 ?_
  refine lv_iadd hx hb dX8_isFound_107 ?_
  obtain ⟨v1, ev1, h⟩ := sg_lte h
  refine sg_topi ev1 ?_
  refine lv_istore (lv' := [(7, .int v1), (6, .int y0), (0, .ref b), (1, .int x1), (3, .int x3), (4, .int x4), (5, .int x5)]) hx hb dX8_isFound_108 hl (by decide) rfl (fun ls hl => ?_)
  refine lv_iload hx hb dX8_isFound_110 (lv_at hl 5 rfl) ?_
  refine lv_if_ne (tgt := 153) hx hb dX8_isFound_112 (by decide) (fun hc => ?_) (fun hc => ?_)
  · replace h := (if_neg hc).symm.trans h
    exact w_X8_isFound_B153 ⟨hx, hb, hml, hown, hts, hK⟩ hret hr64 h (lv_sub hl [2, 3, 4, 6] rfl) hC hS
  · replace h := (if_pos hc).symm.trans h
    refine lv_iload hx hb dX8_isFound_115 (lv_at hl 1 rfl) ?_
    refine lv_if_eq (tgt := 157) hx hb dX8_isFound_117 (by decide) (fun hc => ?_) (fun hc => ?_)
    · replace h := (if_pos hc).symm.trans h
      exact w_X8_isFound_B157 ⟨hx, hb, hml, hown, hts, hK⟩ hret hr64 h (lv_sub hl [2, 3, 4, 6] rfl) hC hS
    · replace h := (if_neg hc).symm.trans h
      refine lv_aload_n hx hb dX8_isFound_120 rfl (lv_at hl 2 rfl) ?_
      refine lv_iload_n hx hb dX8_isFound_121 rfl (lv_at hl 3 rfl) ?_
      refine lv_iload hx hb dX8_isFound_122 (lv_at hl 6 rfl) ?_
      obtain ⟨r2, er2, h⟩ := Option.bind_eq_some_iff.mp h
      refine va_calli (va_runV (As := [.int x1, .int x5]) (rest := []) ⟨hx, hb, hml, hown, hts⟩ (c_X8_standsAt l D κ b σ x1 x5 _ er2) (cwV 2 hts (gwV wt_887 wt_889 wp_52 wt_9 wt_890) rfl rfl rfl (by decide +kernel) ⟨Nat.le_of_ble_eq_true rfl, Nat.le_of_ble_eq_true rfl⟩) (MW_preV hK hC sg_gModel rfl) rfl rfl hl.1 rfl (lv_room (Nat.le_of_ble_eq_true rfl)) dX8_isFound_124 ⟨Nat.zero_le _, Nat.zero_le _⟩) hS (fun _ _ h => h) (fun _ h => h) (fun r u t H locs ht _ hp hB _ _ hS => ?_)
      refine sg_topi hp.1 ?_
      have hC : MW D κ b σ H := MW_b hB ht hp.2
      refine lv_if_eq (tgt := 157) hx hb dX8_isFound_127 (by decide) (fun hc => ?_) (fun hc => ?_)
      · replace h := (if_pos hc).symm.trans h
        exact w_X8_isFound_B157 ⟨hx, hb, hml, hown, hts, hK⟩ hret hr64 h (lv_sub hl [2, 3, 4, 6] rfl) hC hS
      · replace h := (if_neg hc).symm.trans h
        refine lv_iload hx hb dX8_isFound_130 (lv_at hl 0 rfl) ?_
        refine lv_iload_n hx hb dX8_isFound_132 rfl (lv_at hl 4 rfl) ?_
        refine lv_icmp_eq (tgt := 153) hx hb dX8_isFound_133 (by decide) (fun hc => ?_) (fun hc => ?_)
        · replace h := (if_pos hc).symm.trans h
          exact w_X8_isFound_B153 ⟨hx, hb, hml, hown, hts, hK⟩ hret hr64 h (lv_sub hl [2, 3, 4, 6] rfl) hC hS
        · replace h := (if_neg hc).symm.trans h
          refine lv_aload_n hx hb dX8_isFound_136 rfl (lv_at hl 2 rfl) ?_
          refine va_get (D := D) (ci := 8) (v := .ref (b + 13)) (C := RX8) (T := TX8) (N := 21) hx hb hts (wqs inW_X8) hown hK.1 hC.1 (b - b) sg_gModel rfl 17 (by decide) (hts _ (wq wt_665)) (fun _ h9 => h9) rfl dX8_isFound_137 ?_
          refine lv_bipush (v := 20) hx hb dX8_isFound_140 (by decide) ?_
          refine lv_iload_n hx hb dX8_isFound_142 rfl (lv_at hl 3 rfl) ?_
          refine lv_imul hx hb dX8_isFound_143 ?_
          refine lv_iload hx hb dX8_isFound_144 (lv_at hl 0 rfl) ?_
          refine lv_iadd hx hb dX8_isFound_146 ?_
          obtain ⟨hg, h⟩ := sg_gd h
          refine va_iald hx hb hK.1 hC.1 ((b + 13) - b) 0 sg_ga_keys rfl (sg_in hg) dX8_isFound_147 ?_
          refine lv_bipush (v := 32) hx hb dX8_isFound_148 (by decide) ?_
          refine lv_icmp_ne (tgt := 157) hx hb dX8_isFound_150 (by decide) (fun hc => ?_) (fun hc => ?_)
          · replace h := (if_neg hc).symm.trans h
            exact w_X8_isFound_B157 ⟨hx, hb, hml, hown, hts, hK⟩ hret hr64 h (lv_sub hl [2, 3, 4, 6] rfl) hC hS
          · replace h := (if_pos hc).symm.trans h
            exact w_X8_isFound_B153 ⟨hx, hb, hml, hown, hts, hK⟩ hret hr64 h (lv_sub hl [2, 3, 4, 6] rfl) hC hS
def fn_X8_isFound_B94 (b : Nat) (σ : Sg) (z64 : Int32 → Int32 → Int32 → Int32 → Option (Int32)) (x1 : Int32) (x3 : Int32) (x4 : Int32) (x5 : Int32) : Option (Int32) :=
  fn_X8_isFound_B99 b σ z64 x1 x3 x4 x5 1
set_option maxHeartbeats 4000000 in
set_option maxRecDepth 100000 in
theorem w_X8_isFound_B94 {p : Program} {l : Launch} {e : Env} {s : State} {m : MethodId} {args : Array Value} {below : List Frame} {meth : Method} {c : Code} {Q : State → Prop} {D : va_G} {κ : Nat → ClassId} {b : Nat} {H0 : Heap} {rr : Int32} {σ : Sg} (hZ : sg_Z p c s m args D κ cX8_isFound 8 RX8 wsX8_isFound) (hret : ∀ (v : Int32) (H : Heap) (locs : List Loc) (pc : Nat) (ls : Array Slot), some v = some rr → narrow .boolean (.int v) = .int v → MW D κ b σ H → va_S (sg_A b 16) H0 H locs → decode cX8_isFound pc = .ok (.ireturn, 1) → W p l e rm_X8_isFound s m args below meth c H locs 0 0 Q (F0 m pc ls [.int v])) {z64 : Int32 → Int32 → Int32 → Int32 → Option (Int32)} (hr64 : ∀ {x1 : Int32} {x3 : Int32} {x4 : Int32} {x5 : Int32} {H : Heap} {locs : List Loc} {ls : Array Slot}, z64 x1 x3 x4 x5 = some rr → lv_has ls 8 [(0, .ref b), (1, .int x1), (3, .int x3), (4, .int x4), (5, .int x5)] → MW D κ b σ H → va_S (sg_A b 16) H0 H locs → W p l e rm_X8_isFound s m args below meth c H locs 0 0 Q (F0 m 64 ls [])) : ∀ {x1 : Int32} {x3 : Int32} {x4 : Int32} {x5 : Int32} {H : Heap} {locs : List Loc} {ls : Array Slot}, fn_X8_isFound_B94 b σ z64 x1 x3 x4 x5 = some rr → lv_has ls 8 [(0, .ref b), (1, .int x1), (3, .int x3), (4, .int x4), (5, .int x5)] → MW D κ b σ H → va_S (sg_A b 16) H0 H locs → W p l e rm_X8_isFound s m args below meth c H locs 0 0 Q (F0 m 94 ls []) := by
  obtain ⟨hx, hb, hml, hown, hts, hK⟩ := hZ
  intro x1 x3 x4 x5 H locs ls h hl hC hS
  unfold fn_X8_isFound_B94 at h
  refine lv_iconst (v := 1) hx hb dX8_isFound_94 (by decide) ?_
  refine lv_goto (tgt := 99) hx hb dX8_isFound_95 (by decide) ?_
  exact w_X8_isFound_B99 ⟨hx, hb, hml, hown, hts, hK⟩ hret hr64 h (lv_sub hl [0, 1, 2, 3, 4] rfl) hC hS
def fn_X8_isFound_B64b (b : Nat) (σ : Sg) (z64 : Int32 → Int32 → Int32 → Int32 → Option (Int32)) (x1 : Int32) (x3 : Int32) (x4 : Int32) (x5 : Int32) : Option (Int32) :=
  (if (x3 : Int32) ≤ x5 then
  (if sg_bo x4 then some x4 else none)
  else (if x5 = 0 then
  fn_X8_isFound_B94 b σ z64 x1 x3 x4 x5
  else (if sg_ib (((20 * x1) + x5) - 1) 3840 then
  (if (σ.1 (b + 13) (sg_x (((20 * x1) + x5) - 1))) = 32 then
  fn_X8_isFound_B94 b σ z64 x1 x3 x4 x5
  else fn_X8_isFound_B99 b σ z64 x1 x3 x4 x5 0)
  else none)))
def fn_X8_isFound_B64 (b : Nat) (σ : Sg) : Nat → Int32 → Int32 → Int32 → Int32 → Option (Int32)
  | 0 => fun _ _ _ _ => none
  | n + 1 => fun x1 x3 x4 x5 => fn_X8_isFound_B64b b σ (fn_X8_isFound_B64 b σ n) x1 x3 x4 x5
set_option maxHeartbeats 4000000 in
set_option maxRecDepth 100000 in
theorem w_X8_isFound_B64b {p : Program} {l : Launch} {e : Env} {s : State} {m : MethodId} {args : Array Value} {below : List Frame} {meth : Method} {c : Code} {Q : State → Prop} {D : va_G} {κ : Nat → ClassId} {b : Nat} {H0 : Heap} {rr : Int32} {σ : Sg} (hZ : sg_Z p c s m args D κ cX8_isFound 8 RX8 wsX8_isFound) (hret : ∀ (v : Int32) (H : Heap) (locs : List Loc) (pc : Nat) (ls : Array Slot), some v = some rr → narrow .boolean (.int v) = .int v → MW D κ b σ H → va_S (sg_A b 16) H0 H locs → decode cX8_isFound pc = .ok (.ireturn, 1) → W p l e rm_X8_isFound s m args below meth c H locs 0 0 Q (F0 m pc ls [.int v])) {z64 : Int32 → Int32 → Int32 → Int32 → Option (Int32)} (hr64 : ∀ {x1 : Int32} {x3 : Int32} {x4 : Int32} {x5 : Int32} {H : Heap} {locs : List Loc} {ls : Array Slot}, z64 x1 x3 x4 x5 = some rr → lv_has ls 8 [(0, .ref b), (1, .int x1), (3, .int x3), (4, .int x4), (5, .int x5)] → MW D κ b σ H → va_S (sg_A b 16) H0 H locs → W p l e rm_X8_isFound s m args below meth c H locs 0 0 Q (F0 m 64 ls [])) : ∀ {x1 : Int32} {x3 : Int32} {x4 : Int32} {x5 : Int32} {H : Heap} {locs : List Loc} {ls : Array Slot}, fn_X8_isFound_B64b b σ z64 x1 x3 x4 x5 = some rr → lv_has ls 8 [(0, .ref b), (1, .int x1), (3, .int x3), (4, .int x4), (5, .int x5)] → MW D κ b σ H → va_S (sg_A b 16) H0 H locs → W p l e rm_X8_isFound s m args below meth c H locs 0 0 Q (F0 m 64 ls []) := by
  obtain ⟨hx, hb, hml, hown, hts, hK⟩ := hZ
  intro x1 x3 x4 x5 H locs ls h hl hC hS
  unfold fn_X8_isFound_B64b at h
  refine lv_iload hx hb dX8_isFound_64 (lv_at hl 4 rfl) ?_
  refine lv_iload_n hx hb dX8_isFound_66 rfl (lv_at hl 2 rfl) ?_
  refine lv_icmp_ge (tgt := 166) hx hb dX8_isFound_67 (by decide) (fun hc => ?_) (fun hc => ?_)
  · replace h := (if_pos hc).symm.trans h
    refine lv_iload hx hb dX8_isFound_166 (lv_at hl 3 rfl) ?_
    obtain ⟨hg, h⟩ := sg_gd h
    exact hret _ _ _ _ _ h (sg_bn hg) hC hS dX8_isFound_168
  · replace h := (if_neg hc).symm.trans h
    refine lv_iload hx hb dX8_isFound_70 (lv_at hl 4 rfl) ?_
    refine lv_if_eq (tgt := 94) hx hb dX8_isFound_72 (by decide) (fun hc => ?_) (fun hc => ?_)
    · replace h := (if_pos hc).symm.trans h
      exact w_X8_isFound_B94 ⟨hx, hb, hml, hown, hts, hK⟩ hret hr64 h (lv_sub hl [0, 1, 2, 3, 4] rfl) hC hS
    · replace h := (if_neg hc).symm.trans h
      refine lv_aload_n hx hb dX8_isFound_75 rfl (lv_at hl 0 rfl) ?_
      refine va_get (D := D) (ci := 8) (v := .ref (b + 13)) (C := RX8) (T := TX8) (N := 21) hx hb hts (wqs inW_X8) hown hK.1 hC.1 (b - b) sg_gModel rfl 17 (by decide) (hts _ (wq wt_665)) (fun _ h9 => h9) rfl dX8_isFound_76 ?_
      refine lv_bipush (v := 20) hx hb dX8_isFound_79 (by decide) ?_
      refine lv_iload_n hx hb dX8_isFound_81 rfl (lv_at hl 1 rfl) ?_
      refine lv_imul hx hb dX8_isFound_82 ?_
      refine lv_iload hx hb dX8_isFound_83 (lv_at hl 4 rfl) ?_
      refine lv_iadd hx hb dX8_isFound_85 ?_
      refine lv_iconst (v := 1) hx hb dX8_isFound_86 (by decide) ?_
      refine lv_isub hx hb dX8_isFound_87 ?_
      obtain ⟨hg, h⟩ := sg_gd h
      refine va_iald hx hb hK.1 hC.1 ((b + 13) - b) 0 sg_ga_keys rfl (sg_in hg) dX8_isFound_88 ?_
      refine lv_bipush (v := 32) hx hb dX8_isFound_89 (by decide) ?_
      refine lv_icmp_ne (tgt := 98) hx hb dX8_isFound_91 (by decide) (fun hc => ?_) (fun hc => ?_)
      · replace h := (if_neg hc).symm.trans h
        refine lv_iconst (v := 0) hx hb dX8_isFound_98 (by decide) ?_
        exact w_X8_isFound_B99 ⟨hx, hb, hml, hown, hts, hK⟩ hret hr64 h (lv_sub hl [0, 1, 2, 3, 4] rfl) hC hS
      · replace h := (if_pos hc).symm.trans h
        exact w_X8_isFound_B94 ⟨hx, hb, hml, hown, hts, hK⟩ hret hr64 h (lv_sub hl [0, 1, 2, 3, 4] rfl) hC hS
set_option maxHeartbeats 4000000 in
theorem w_X8_isFound_B64 {p : Program} {l : Launch} {e : Env} {s : State} {m : MethodId} {args : Array Value} {below : List Frame} {meth : Method} {c : Code} {Q : State → Prop} {D : va_G} {κ : Nat → ClassId} {b : Nat} {H0 : Heap} {rr : Int32} {σ : Sg} (hZ : sg_Z p c s m args D κ cX8_isFound 8 RX8 wsX8_isFound) (hret : ∀ (v : Int32) (H : Heap) (locs : List Loc) (pc : Nat) (ls : Array Slot), some v = some rr → narrow .boolean (.int v) = .int v → MW D κ b σ H → va_S (sg_A b 16) H0 H locs → decode cX8_isFound pc = .ok (.ireturn, 1) → W p l e rm_X8_isFound s m args below meth c H locs 0 0 Q (F0 m pc ls [.int v])) : ∀ n : Nat, ∀ {x1 : Int32} {x3 : Int32} {x4 : Int32} {x5 : Int32} {H : Heap} {locs : List Loc} {ls : Array Slot}, fn_X8_isFound_B64 b σ n x1 x3 x4 x5 = some rr → lv_has ls 8 [(0, .ref b), (1, .int x1), (3, .int x3), (4, .int x4), (5, .int x5)] → MW D κ b σ H → va_S (sg_A b 16) H0 H locs → W p l e rm_X8_isFound s m args below meth c H locs 0 0 Q (F0 m 64 ls []) := by
  intro n
  induction n with
  | zero => intro x1 x3 x4 x5 H locs ls h hl hC hS; cases (show (none : Option (Int32)) = some rr from h)
  | succ n ih =>
    intro x1 x3 x4 x5 H locs ls h hl hC hS
    exact w_X8_isFound_B64b hZ hret ih (show fn_X8_isFound_B64b b σ (fn_X8_isFound_B64 b σ n) x1 x3 x4 x5 = some rr from h)  hl hC hS
def fn_X8_isFound_B46 (b : Nat) (σ : Sg) (x1 : Int32) (x2 : Int32) (x3 : Int32) : Option (Int32) :=
  (if x2 = 1 then
  ((fn_X8_standsAt b σ x1 0).bind fun r1 =>
  (if sg_bo r1 then some r1 else none))
  else fn_X8_isFound_B64 b σ sg_N x1 x3 0 0)
set_option maxHeartbeats 4000000 in
set_option maxRecDepth 100000 in
theorem w_X8_isFound_B46 {p : Program} {l : Launch} {e : Env} {s : State} {m : MethodId} {args : Array Value} {below : List Frame} {meth : Method} {c : Code} {Q : State → Prop} {D : va_G} {κ : Nat → ClassId} {b : Nat} {H0 : Heap} {rr : Int32} {σ : Sg} (hZ : sg_Z p c s m args D κ cX8_isFound 8 RX8 wsX8_isFound) (hret : ∀ (v : Int32) (H : Heap) (locs : List Loc) (pc : Nat) (ls : Array Slot), some v = some rr → narrow .boolean (.int v) = .int v → MW D κ b σ H → va_S (sg_A b 16) H0 H locs → decode cX8_isFound pc = .ok (.ireturn, 1) → W p l e rm_X8_isFound s m args below meth c H locs 0 0 Q (F0 m pc ls [.int v])) : ∀ {x1 : Int32} {x2 : Int32} {x3 : Int32} {H : Heap} {locs : List Loc} {ls : Array Slot}, fn_X8_isFound_B46 b σ x1 x2 x3 = some rr → lv_has ls 8 [(0, .ref b), (1, .int x1), (2, .int x2), (3, .int x3)] → MW D κ b σ H → va_S (sg_A b 16) H0 H locs → W p l e rm_X8_isFound s m args below meth c H locs 0 0 Q (F0 m 46 ls []) := by
  obtain ⟨hx, hb, hml, hown, hts, hK⟩ := hZ
  intro x1 x2 x3 H locs ls h hl hC hS
  unfold fn_X8_isFound_B46 at h
  refine lv_iload_n hx hb dX8_isFound_46 rfl (lv_at hl 2 rfl) ?_
  refine lv_iconst (v := 1) hx hb dX8_isFound_47 (by decide) ?_
  refine lv_icmp_ne (tgt := 58) hx hb dX8_isFound_48 (by decide) (fun hc => ?_) (fun hc => ?_)
  · replace h := (if_neg hc).symm.trans h
    refine lv_iconst (v := 0) hx hb dX8_isFound_58 (by decide) ?_
    refine lv_istore (lv' := [(4, .int 0), (0, .ref b), (1, .int x1), (2, .int x2), (3, .int x3)]) hx hb dX8_isFound_59 hl (by decide) rfl (fun ls hl => ?_)
    refine lv_iconst (v := 0) hx hb dX8_isFound_61 (by decide) ?_
    refine lv_istore (lv' := [(5, .int 0), (4, .int 0), (0, .ref b), (1, .int x1), (2, .int x2), (3, .int x3)]) hx hb dX8_isFound_62 hl (by decide) rfl (fun ls hl => ?_)
    exact w_X8_isFound_B64 ⟨hx, hb, hml, hown, hts, hK⟩ hret  sg_N h (lv_sub hl [2, 3, 5, 1, 0] rfl) hC hS
  · replace h := (if_pos hc).symm.trans h
    refine lv_aload_n hx hb dX8_isFound_51 rfl (lv_at hl 0 rfl) ?_
    refine lv_iload_n hx hb dX8_isFound_52 rfl (lv_at hl 1 rfl) ?_
    refine lv_iconst (v := 0) hx hb dX8_isFound_53 (by decide) ?_
    obtain ⟨r1, er1, h⟩ := Option.bind_eq_some_iff.mp h
    refine va_calli (va_runV (As := [.int x1, .int 0]) (rest := []) ⟨hx, hb, hml, hown, hts⟩ (c_X8_standsAt l D κ b σ x1 0 _ er1) (cwV 2 hts (gwV wt_887 wt_889 wp_52 wt_9 wt_890) rfl rfl rfl (by decide +kernel) ⟨Nat.le_of_ble_eq_true rfl, Nat.le_of_ble_eq_true rfl⟩) (MW_preV hK hC sg_gModel rfl) rfl rfl hl.1 rfl (lv_room (Nat.le_of_ble_eq_true rfl)) dX8_isFound_54 ⟨Nat.zero_le _, Nat.zero_le _⟩) hS (fun _ _ h => h) (fun _ h => h) (fun r u t H locs ht _ hp hB _ _ hS => ?_)
    refine sg_topi hp.1 ?_
    have hC : MW D κ b σ H := MW_b hB ht hp.2
    obtain ⟨hg, h⟩ := sg_gd h
    exact hret _ _ _ _ _ h (sg_bn hg) hC hS dX8_isFound_57
def fn_X8_isFound (b : Nat) (σ : Sg) (x1 : Int32) (x2 : Int32) : Option (Int32) :=
  (if sg_ib x1 192 then
  (sg_lt ((σ.1 (b + 14) (sg_x x1)) : Int32) fun v1 =>
  (if x2 = 0 then
  fn_X8_isFound_B23 b σ x1 v1
  else (if x2 = 2 then
  (if (σ.1 b 20) = 0 then
  fn_X8_isFound_B23 b σ x1 v1
  else fn_X8_isFound_B46 b σ x1 x2 v1)
  else fn_X8_isFound_B46 b σ x1 x2 v1)))
  else none)
set_option maxHeartbeats 4000000 in
set_option maxRecDepth 100000 in
theorem w_X8_isFound_B0 {p : Program} {l : Launch} {e : Env} {s : State} {m : MethodId} {args : Array Value} {below : List Frame} {meth : Method} {c : Code} {Q : State → Prop} {D : va_G} {κ : Nat → ClassId} {b : Nat} {H0 : Heap} {rr : Int32} {σ : Sg} (hZ : sg_Z p c s m args D κ cX8_isFound 8 RX8 wsX8_isFound) (hret : ∀ (v : Int32) (H : Heap) (locs : List Loc) (pc : Nat) (ls : Array Slot), some v = some rr → narrow .boolean (.int v) = .int v → MW D κ b σ H → va_S (sg_A b 16) H0 H locs → decode cX8_isFound pc = .ok (.ireturn, 1) → W p l e rm_X8_isFound s m args below meth c H locs 0 0 Q (F0 m pc ls [.int v])) : ∀ {x1 : Int32} {x2 : Int32} {H : Heap} {locs : List Loc} {ls : Array Slot}, fn_X8_isFound b σ x1 x2 = some rr → lv_has ls 8 [(0, .ref b), (1, .int x1), (2, .int x2)] → MW D κ b σ H → va_S (sg_A b 16) H0 H locs → W p l e rm_X8_isFound s m args below meth c H locs 0 0 Q (F0 m 0 ls []) := by
  obtain ⟨hx, hb, hml, hown, hts, hK⟩ := hZ
  intro x1 x2 H locs ls h hl hC hS
  unfold fn_X8_isFound at h
  refine lv_aload_n hx hb dX8_isFound_0 rfl (lv_at hl 0 rfl) ?_
  refine va_get (D := D) (ci := 8) (v := .ref (b + 14)) (C := RX8) (T := TX8) (N := 21) hx hb hts (wqs inW_X8) hown hK.1 hC.1 (b - b) sg_gModel rfl 18 (by decide) (hts _ (wq wt_666)) (fun _ h9 => h9) rfl dX8_isFound_1 ?_
  refine lv_iload_n hx hb dX8_isFound_4 rfl (lv_at hl 1 rfl) ?_
  obtain ⟨hg, h⟩ := sg_gd h
  refine va_iald hx hb hK.1 hC.1 ((b + 14) - b) 0 sg_ga_keySizes rfl (sg_in hg) dX8_isFound_5 ?_
  obtain ⟨v1, ev1, h⟩ := sg_lte h
  refine sg_topi ev1 ?_
  refine lv_istore_n (lv' := [(3, .int v1), (0, .ref b), (1, .int x1), (2, .int x2)]) hx hb dX8_isFound_6 rfl hl (by decide) rfl (fun ls hl => ?_)
  refine lv_iload_n hx hb dX8_isFound_7 rfl (lv_at hl 3 rfl) ?_
  refine lv_if_eq (tgt := 23) hx hb dX8_isFound_8 (by decide) (fun hc => ?_) (fun hc => ?_)
  · replace h := (if_pos hc).symm.trans h
    exact w_X8_isFound_B23 ⟨hx, hb, hml, hown, hts, hK⟩ hret  h (lv_sub hl [1, 2, 0] rfl) hC hS
  · replace h := (if_neg hc).symm.trans h
    refine lv_iload_n hx hb dX8_isFound_11 rfl (lv_at hl 3 rfl) ?_
    refine lv_iconst (v := 2) hx hb dX8_isFound_12 (by decide) ?_
    refine lv_icmp_ne (tgt := 46) hx hb dX8_isFound_13 (by decide) (fun hc => ?_) (fun hc => ?_)
    · replace h := (if_neg hc).symm.trans h
      exact w_X8_isFound_B46 ⟨hx, hb, hml, hown, hts, hK⟩ hret  h (lv_sub hl [1, 2, 3, 0] rfl) hC hS
    · replace h := (if_pos hc).symm.trans h
      refine lv_aload_n hx hb dX8_isFound_16 rfl (lv_at hl 1 rfl) ?_
      refine va_get (D := D) (ci := 8) (v := .int (σ.1 b 20)) (C := RX8) (T := TX8) (N := 21) hx hb hts (wqs inW_X8) hown hK.1 hC.1 (b - b) sg_gModel rfl 20 (by decide) (hts _ (wq wt_668)) (fun _ h9 => h9) rfl dX8_isFound_17 ?_
      refine lv_if_ne (tgt := 46) hx hb dX8_isFound_20 (by decide) (fun hc => ?_) (fun hc => ?_)
      · replace h := (if_neg hc).symm.trans h
        exact w_X8_isFound_B46 ⟨hx, hb, hml, hown, hts, hK⟩ hret  h (lv_sub hl [1, 2, 3, 0] rfl) hC hS
      · replace h := (if_pos hc).symm.trans h
        exact w_X8_isFound_B23 ⟨hx, hb, hml, hown, hts, hK⟩ hret  h (lv_sub hl [1, 2, 0] rfl) hC hS
set_option maxHeartbeats 4000000 in
set_option maxRecDepth 100000 in
theorem c_X8_isFound (l : Launch) (D : va_G) (κ : Nat → ClassId) (b : Nat) (σ : Sg) (x1 : Int32) (x2 : Int32) (rr : Int32)  (h : fn_X8_isFound b σ x1 x2 = some rr) : Met l yX8_isFound wsX8_isFound rm_X8_isFound (va_Pc [.ref b, .int x1, .int x2] (fun U => KK D κ U ∧ MW D κ b σ U.heap)) (va_Qi (fun (r : Int32) (u : Sg) => r = rr ∧ u = σ) (fun u t => MW D κ b u t.heap) (sg_A b 16)) 0 0 (sg_A b 16) := by
  refine Met.ofW (cc := cX8_isFound) (maxL := 8) (ret := (some .boolean)) (by decide) rfl ?_
  intro p e s m args below meth c s₁ B hml hv
  obtain ⟨rfl, hK, hC⟩ := hv
  have hr := B.returns
  have hlocks := B.notSynchronized
  have hl := lv_entry ([.ref b, .int x1, .int x2]) (n := 8) (Nat.le_of_ble_eq_true rfl)
  rw [lg_entry_eq]
  generalize (lg_sl ([.ref b, .int x1, .int x2]) ++ List.replicate (8 - (lg_sl ([.ref b, .int x1, .int x2])).length) Slot.unset).toArray = ls at hl ⊢
  have hl : lv_has ls 8 [(0, .ref b), (1, .int x1), (2, .int x2)] := hl
  exact w_X8_isFound_B0 ⟨B.exec, B.bytes, hml, findClass_of_methodNamed B.named, atoms_spec (ws := wsX8_isFound) B.pre, hK⟩ (fun v H locs pc ls hq hbo hC hS hd => W.zret B.exec B.bytes hr hbo (fun t ht hW => ⟨⟨v, _, rfl, ⟨Option.some.inj hq, rfl⟩, MW_e ht hC⟩, hS.F ht⟩) hS.2.2 hd) h  hl hC va_S.rf

-- RecordShelfModel.find(ICI)I
theorem dX8_find_0 : decode cX8_find 0 = .ok (.iload_n 1, 1) := by decide +kernel
theorem dX8_find_1 : decode cX8_find 1 = .ok (.ifCond .lt 19, 3) := by decide +kernel
theorem dX8_find_4 : decode cX8_find 4 = .ok (.iload_n 1, 1) := by decide +kernel
theorem dX8_find_5 : decode cX8_find 5 = .ok (.sipush 999, 3) := by decide +kernel
theorem dX8_find_8 : decode cX8_find 8 = .ok (.if_icmp .gt 12, 3) := by decide +kernel
theorem dX8_find_11 : decode cX8_find 11 = .ok (.iload_n 3, 1) := by decide +kernel
theorem dX8_find_12 : decode cX8_find 12 = .ok (.ifCond .lt 8, 3) := by decide +kernel
theorem dX8_find_15 : decode cX8_find 15 = .ok (.iload_n 3, 1) := by decide +kernel
theorem dX8_find_16 : decode cX8_find 16 = .ok (.iconst 2, 1) := by decide +kernel
theorem dX8_find_17 : decode cX8_find 17 = .ok (.if_icmp .le 5, 3) := by decide +kernel
theorem dX8_find_20 : decode cX8_find 20 = .ok (.iconst (-1), 1) := by decide +kernel
theorem dX8_find_21 : decode cX8_find 21 = .ok (.ireturn, 1) := by decide +kernel
theorem dX8_find_22 : decode cX8_find 22 = .ok (.aload_n 0, 1) := by decide +kernel
theorem dX8_find_23 : decode cX8_find 23 = .ok (.invokevirtual 167, 3) := by decide +kernel
theorem dX8_find_26 : decode cX8_find 26 = .ok (.iconst 0, 1) := by decide +kernel
theorem dX8_find_27 : decode cX8_find 27 = .ok (.istore 4, 2) := by decide +kernel
theorem dX8_find_29 : decode cX8_find 29 = .ok (.iconst 0, 1) := by decide +kernel
theorem dX8_find_30 : decode cX8_find 30 = .ok (.istore 5, 2) := by decide +kernel
theorem dX8_find_32 : decode cX8_find 32 = .ok (.iload 5, 2) := by decide +kernel
theorem dX8_find_34 : decode cX8_find 34 = .ok (.bipush 48, 2) := by decide +kernel
theorem dX8_find_36 : decode cX8_find 36 = .ok (.if_icmp .ge 137, 3) := by decide +kernel
theorem dX8_find_39 : decode cX8_find 39 = .ok (.aload_n 0, 1) := by decide +kernel
theorem dX8_find_40 : decode cX8_find 40 = .ok (.iload 5, 2) := by decide +kernel
theorem dX8_find_42 : decode cX8_find 42 = .ok (.bipush 8, 2) := by decide +kernel
theorem dX8_find_44 : decode cX8_find 44 = .ok (.idiv, 1) := by decide +kernel
theorem dX8_find_45 : decode cX8_find 45 = .ok (.iload 5, 2) := by decide +kernel
theorem dX8_find_47 : decode cX8_find 47 = .ok (.bipush 8, 2) := by decide +kernel
theorem dX8_find_49 : decode cX8_find 49 = .ok (.irem, 1) := by decide +kernel
theorem dX8_find_50 : decode cX8_find 50 = .ok (.invokevirtual 128, 3) := by decide +kernel
theorem dX8_find_53 : decode cX8_find 53 = .ok (.ifCond .eq 22, 3) := by decide +kernel
theorem dX8_find_56 : decode cX8_find 56 = .ok (.iload_n 1, 1) := by decide +kernel
theorem dX8_find_57 : decode cX8_find 57 = .ok (.ifCond .eq 14, 3) := by decide +kernel
theorem dX8_find_60 : decode cX8_find 60 = .ok (.aload_n 0, 1) := by decide +kernel
theorem dX8_find_61 : decode cX8_find 61 = .ok (.getfield 19, 3) := by decide +kernel
theorem dX8_find_64 : decode cX8_find 64 = .ok (.iload 5, 2) := by decide +kernel
theorem dX8_find_66 : decode cX8_find 66 = .ok (.iaload, 1) := by decide +kernel
theorem dX8_find_67 : decode cX8_find 67 = .ok (.iload_n 1, 1) := by decide +kernel
theorem dX8_find_68 : decode cX8_find 68 = .ok (.if_icmp .ne 7, 3) := by decide +kernel
theorem dX8_find_71 : decode cX8_find 71 = .ok (.iconst 1, 1) := by decide +kernel
theorem dX8_find_72 : decode cX8_find 72 = .ok (.goto 4, 3) := by decide +kernel
theorem dX8_find_75 : decode cX8_find 75 = .ok (.iconst 0, 1) := by decide +kernel
theorem dX8_find_76 : decode cX8_find 76 = .ok (.istore 6, 2) := by decide +kernel
theorem dX8_find_78 : decode cX8_find 78 = .ok (.iconst 4, 1) := by decide +kernel
theorem dX8_find_79 : decode cX8_find 79 = .ok (.iload 5, 2) := by decide +kernel
theorem dX8_find_81 : decode cX8_find 81 = .ok (.imul, 1) := by decide +kernel
theorem dX8_find_82 : decode cX8_find 82 = .ok (.istore 7, 2) := by decide +kernel
theorem dX8_find_84 : decode cX8_find 84 = .ok (.iload 6, 2) := by decide +kernel
theorem dX8_find_86 : decode cX8_find 86 = .ok (.ifCond .eq 81, 3) := by decide +kernel
theorem dX8_find_89 : decode cX8_find 89 = .ok (.iload 7, 2) := by decide +kernel
theorem dX8_find_91 : decode cX8_find 91 = .ok (.iconst 4, 1) := by decide +kernel
theorem dX8_find_92 : decode cX8_find 92 = .ok (.iload 5, 2) := by decide +kernel
theorem dX8_find_94 : decode cX8_find 94 = .ok (.imul, 1) := by decide +kernel
theorem dX8_find_95 : decode cX8_find 95 = .ok (.aload_n 0, 1) := by decide +kernel
theorem dX8_find_96 : decode cX8_find 96 = .ok (.getfield 28, 3) := by decide +kernel
theorem dX8_find_99 : decode cX8_find 99 = .ok (.iload 5, 2) := by decide +kernel
theorem dX8_find_101 : decode cX8_find 101 = .ok (.iaload, 1) := by decide +kernel
theorem dX8_find_102 : decode cX8_find 102 = .ok (.iadd, 1) := by decide +kernel
theorem dX8_find_103 : decode cX8_find 103 = .ok (.if_icmp .ge 64, 3) := by decide +kernel
theorem dX8_find_106 : decode cX8_find 106 = .ok (.aload_n 0, 1) := by decide +kernel
theorem dX8_find_107 : decode cX8_find 107 = .ok (.iload 7, 2) := by decide +kernel
theorem dX8_find_109 : decode cX8_find 109 = .ok (.invokevirtual 158, 3) := by decide +kernel
theorem dX8_find_112 : decode cX8_find 112 = .ok (.aload_n 0, 1) := by decide +kernel
theorem dX8_find_113 : decode cX8_find 113 = .ok (.iload 7, 2) := by decide +kernel
theorem dX8_find_115 : decode cX8_find 115 = .ok (.iload_n 2, 1) := by decide +kernel
theorem dX8_find_116 : decode cX8_find 116 = .ok (.invokevirtual 155, 3) := by decide +kernel
theorem dX8_find_119 : decode cX8_find 119 = .ok (.ifCond .eq 17, 3) := by decide +kernel
theorem dX8_find_122 : decode cX8_find 122 = .ok (.aload_n 0, 1) := by decide +kernel
theorem dX8_find_123 : decode cX8_find 123 = .ok (.iload 7, 2) := by decide +kernel
theorem dX8_find_125 : decode cX8_find 125 = .ok (.iload_n 3, 1) := by decide +kernel
theorem dX8_find_126 : decode cX8_find 126 = .ok (.invokevirtual 170, 3) := by decide +kernel
theorem dX8_find_129 : decode cX8_find 129 = .ok (.ifCond .eq 7, 3) := by decide +kernel
theorem dX8_find_132 : decode cX8_find 132 = .ok (.iconst 1, 1) := by decide +kernel
theorem dX8_find_133 : decode cX8_find 133 = .ok (.goto 4, 3) := by decide +kernel
theorem dX8_find_136 : decode cX8_find 136 = .ok (.iconst 0, 1) := by decide +kernel
theorem dX8_find_137 : decode cX8_find 137 = .ok (.istore 8, 2) := by decide +kernel
theorem dX8_find_139 : decode cX8_find 139 = .ok (.iload 8, 2) := by decide +kernel
theorem dX8_find_141 : decode cX8_find 141 = .ok (.ifCond .eq 16, 3) := by decide +kernel
theorem dX8_find_144 : decode cX8_find 144 = .ok (.iload 4, 2) := by decide +kernel
theorem dX8_find_146 : decode cX8_find 146 = .ok (.iconst 1, 1) := by decide +kernel
theorem dX8_find_147 : decode cX8_find 147 = .ok (.iload 5, 2) := by decide +kernel
theorem dX8_find_149 : decode cX8_find 149 = .ok (.bipush 8, 2) := by decide +kernel
theorem dX8_find_151 : decode cX8_find 151 = .ok (.idiv, 1) := by decide +kernel
theorem dX8_find_152 : decode cX8_find 152 = .ok (.ishl, 1) := by decide +kernel
theorem dX8_find_153 : decode cX8_find 153 = .ok (.ior, 1) := by decide +kernel
theorem dX8_find_154 : decode cX8_find 154 = .ok (.goto 5, 3) := by decide +kernel
theorem dX8_find_157 : decode cX8_find 157 = .ok (.iload 4, 2) := by decide +kernel
theorem dX8_find_159 : decode cX8_find 159 = .ok (.istore 4, 2) := by decide +kernel
theorem dX8_find_161 : decode cX8_find 161 = .ok (.iinc 7 1, 3) := by decide +kernel
theorem dX8_find_164 : decode cX8_find 164 = .ok (.goto (-80), 3) := by decide +kernel
theorem dX8_find_167 : decode cX8_find 167 = .ok (.iinc 5 1, 3) := by decide +kernel
theorem dX8_find_170 : decode cX8_find 170 = .ok (.goto (-138), 3) := by decide +kernel
theorem dX8_find_173 : decode cX8_find 173 = .ok (.iload 4, 2) := by decide +kernel
theorem dX8_find_175 : decode cX8_find 175 = .ok (.ireturn, 1) := by decide +kernel
def rm_X8_find : Room := { frames := 4, cells := 0, slots := 0, locals := 85 }
def fn_X8_find_B167 (b : Nat) (z32 : Sg → Int32 → Int32 → Int32 → Int32 → Int32 → Option (Int32 × Sg)) (σ : Sg) (x1 : Int32) (x2 : Int32) (x3 : Int32) (x4 : Int32) (x5 : Int32) : Option (Int32 × Sg) :=
  (sg_lt (x5 + 1 : Int32) fun v1 =>
  z32 σ x1 x2 x3 x4 v1)
set_option maxHeartbeats 4000000 in
set_option maxRecDepth 100000 in
theorem w_X8_find_B167 {p : Program} {l : Launch} {e : Env} {s : State} {m : MethodId} {args : Array Value} {below : List Frame} {meth : Method} {c : Code} {Q : State → Prop} {D : va_G} {κ : Nat → ClassId} {b : Nat} {H0 : Heap} {rr : Int32 × Sg} (hZ : sg_Z p c s m args D κ cX8_find 9 RX8 wsX8_find) (hret : ∀ (v : Int32) (u : Sg) (H : Heap) (locs : List Loc) (pc : Nat) (ls : Array Slot), some (v, u) = some rr → MW D κ b u H → va_S (sg_A b 16) H0 H locs → decode cX8_find pc = .ok (.ireturn, 1) → W p l e rm_X8_find s m args below meth c H locs 0 0 Q (F0 m pc ls [.int v])) {z32 : Sg → Int32 → Int32 → Int32 → Int32 → Int32 → Option (Int32 × Sg)} (hr32 : ∀ {σ : Sg} {x1 : Int32} {x2 : Int32} {x3 : Int32} {x4 : Int32} {x5 : Int32} {H : Heap} {locs : List Loc} {ls : Array Slot}, z32 σ x1 x2 x3 x4 x5 = some rr → lv_has ls 9 [(0, .ref b), (1, .int x1), (2, .int x2), (3, .int x3), (4, .int x4), (5, .int x5)] → MW D κ b σ H → va_S (sg_A b 16) H0 H locs → W p l e rm_X8_find s m args below meth c H locs 0 0 Q (F0 m 32 ls [])) : ∀ {σ : Sg} {x1 : Int32} {x2 : Int32} {x3 : Int32} {x4 : Int32} {x5 : Int32} {H : Heap} {locs : List Loc} {ls : Array Slot}, fn_X8_find_B167 b z32 σ x1 x2 x3 x4 x5 = some rr → lv_has ls 9 [(0, .ref b), (1, .int x1), (2, .int x2), (3, .int x3), (4, .int x4), (5, .int x5)] → MW D κ b σ H → va_S (sg_A b 16) H0 H locs → W p l e rm_X8_find s m args below meth c H locs 0 0 Q (F0 m 167 ls []) := by
  obtain ⟨hx, hb, hml, hown, hts, hK⟩ := hZ
  intro σ x1 x2 x3 x4 x5 H locs ls h hl hC hS
  unfold fn_X8_find_B167 at h
  obtain ⟨v1, ev1, h⟩ := sg_lte h
  refine lv_iinc (v := v1) (lv' := [(5, .int v1), (0, .ref b), (1, .int x1), (2, .int x2), (3, .int x3), (4, .int x4)]) (k := 5) hx hb dX8_find_167 hl rfl (sg_inc (by decide) ev1) (by decide) rfl (fun ls hl => ?_)
  refine lv_goto (tgt := 32) hx hb dX8_find_170 (by decide) ?_
  exact hr32 h (lv_sub hl [1, 2, 3, 4, 5, 0] rfl) hC hS
def fn_X8_find_B159 (b : Nat) (z32 : Sg → Int32 → Int32 → Int32 → Int32 → Int32 → Option (Int32 × Sg)) (z84 : Sg → Int32 → Int32 → Int32 → Int32 → Int32 → Int32 → Int32 → Option (Int32 × Sg)) (σ : Sg) (x1 : Int32) (x2 : Int32) (x3 : Int32) (x5 : Int32) (x6 : Int32) (x7 : Int32) (y0 : Int32) : Option (Int32 × Sg) :=
  (sg_lt (x7 + 1 : Int32) fun v1 =>
  z84 σ x1 x2 x3 y0 x5 x6 v1)
set_option maxHeartbeats 4000000 in
set_option maxRecDepth 100000 in
theorem w_X8_find_B159 {p : Program} {l : Launch} {e : Env} {s : State} {m : MethodId} {args : Array Value} {below : List Frame} {meth : Method} {c : Code} {Q : State → Prop} {D : va_G} {κ : Nat → ClassId} {b : Nat} {H0 : Heap} {rr : Int32 × Sg} (hZ : sg_Z p c s m args D κ cX8_find 9 RX8 wsX8_find) (hret : ∀ (v : Int32) (u : Sg) (H : Heap) (locs : List Loc) (pc : Nat) (ls : Array Slot), some (v, u) = some rr → MW D κ b u H → va_S (sg_A b 16) H0 H locs → decode cX8_find pc = .ok (.ireturn, 1) → W p l e rm_X8_find s m args below meth c H locs 0 0 Q (F0 m pc ls [.int v])) {z32 : Sg → Int32 → Int32 → Int32 → Int32 → Int32 → Option (Int32 × Sg)} (hr32 : ∀ {σ : Sg} {x1 : Int32} {x2 : Int32} {x3 : Int32} {x4 : Int32} {x5 : Int32} {H : Heap} {locs : List Loc} {ls : Array Slot}, z32 σ x1 x2 x3 x4 x5 = some rr → lv_has ls 9 [(0, .ref b), (1, .int x1), (2, .int x2), (3, .int x3), (4, .int x4), (5, .int x5)] → MW D κ b σ H → va_S (sg_A b 16) H0 H locs → W p l e rm_X8_find s m args below meth c H locs 0 0 Q (F0 m 32 ls [])) {z84 : Sg → Int32 → Int32 → Int32 → Int32 → Int32 → Int32 → Int32 → Option (Int32 × Sg)} (hr84 : ∀ {σ : Sg} {x1 : Int32} {x2 : Int32} {x3 : Int32} {x4 : Int32} {x5 : Int32} {x6 : Int32} {x7 : Int32} {H : Heap} {locs : List Loc} {ls : Array Slot}, z84 σ x1 x2 x3 x4 x5 x6 x7 = some rr → lv_has ls 9 [(0, .ref b), (1, .int x1), (2, .int x2), (3, .int x3), (4, .int x4), (5, .int x5), (6, .int x6), (7, .int x7)] → MW D κ b σ H → va_S (sg_A b 16) H0 H locs → W p l e rm_X8_find s m args below meth c H locs 0 0 Q (F0 m 84 ls [])) : ∀ {σ : Sg} {x1 : Int32} {x2 : Int32} {x3 : Int32} {x5 : Int32} {x6 : Int32} {x7 : Int32} {y0 : Int32} {H : Heap} {locs : List Loc} {ls : Array Slot}, fn_X8_find_B159 b z32 z84 σ x1 x2 x3 x5 x6 x7 y0 = some rr → lv_has ls 9 [(0, .ref b), (1, .int x1), (2, .int x2), (3, .int x3), (5, .int x5), (6, .int x6), (7, .int x7)] → MW D κ b σ H → va_S (sg_A b 16) H0 H locs → W p l e rm_X8_find s m args below meth c H locs 0 0 Q (F0 m 159 ls [.int y0]) := by
  obtain ⟨hx, hb, hml, hown, hts, hK⟩ := hZ
  intro σ x1 x2 x3 x5 x6 x7 y0 H locs ls h hl hC hS
  unfold fn_X8_find_B159 at h
  refine lv_istore (lv' := [(4, .int y0), (0, .ref b), (1, .int x1), (2, .int x2), (3, .int x3), (5, .int x5), (6, .int x6), (7, .int x7)]) hx hb dX8_find_159 hl (by decide) rfl (fun ls hl => ?_)
  obtain ⟨v1, ev1, h⟩ := sg_lte h
  refine lv_iinc (v := v1) (lv' := [(7, .int v1), (4, .int y0), (0, .ref b), (1, .int x1), (2, .int x2), (3, .int x3), (5, .int x5), (6, .int x6)]) (k := 7) hx hb dX8_find_161 hl rfl (sg_inc (by decide) ev1) (by decide) rfl (fun ls hl => ?_)
  refine lv_goto (tgt := 84) hx hb dX8_find_164 (by decide) ?_
  exact hr84 h (lv_sub hl [2, 3, 4, 5, 1, 6, 7, 0] rfl) hC hS
def fn_X8_find_B137 (b : Nat) (z32 : Sg → Int32 → Int32 → Int32 → Int32 → Int32 → Option (Int32 × Sg)) (z84 : Sg → Int32 → Int32 → Int32 → Int32 → Int32 → Int32 → Int32 → Option (Int32 × Sg)) (σ : Sg) (x1 : Int32) (x2 : Int32) (x3 : Int32) (x4 : Int32) (x5 : Int32) (x6 : Int32) (x7 : Int32) (y0 : Int32) : Option (Int32 × Sg) :=
  (if y0 = 0 then
  fn_X8_find_B159 b z32 z84 σ x1 x2 x3 x5 x6 x7 x4
  else fn_X8_find_B159 b z32 z84 σ x1 x2 x3 x5 x6 x7 (x4 ||| (1 <<< ((x5 / 8) &&& 31))))
set_option maxHeartbeats 4000000 in
set_option maxRecDepth 100000 in
theorem w_X8_find_B137 {p : Program} {l : Launch} {e : Env} {s : State} {m : MethodId} {args : Array Value} {below : List Frame} {meth : Method} {c : Code} {Q : State → Prop} {D : va_G} {κ : Nat → ClassId} {b : Nat} {H0 : Heap} {rr : Int32 × Sg} (hZ : sg_Z p c s m args D κ cX8_find 9 RX8 wsX8_find) (hret : ∀ (v : Int32) (u : Sg) (H : Heap) (locs : List Loc) (pc : Nat) (ls : Array Slot), some (v, u) = some rr → MW D κ b u H → va_S (sg_A b 16) H0 H locs → decode cX8_find pc = .ok (.ireturn, 1) → W p l e rm_X8_find s m args below meth c H locs 0 0 Q (F0 m pc ls [.int v])) {z32 : Sg → Int32 → Int32 → Int32 → Int32 → Int32 → Option (Int32 × Sg)} (hr32 : ∀ {σ : Sg} {x1 : Int32} {x2 : Int32} {x3 : Int32} {x4 : Int32} {x5 : Int32} {H : Heap} {locs : List Loc} {ls : Array Slot}, z32 σ x1 x2 x3 x4 x5 = some rr → lv_has ls 9 [(0, .ref b), (1, .int x1), (2, .int x2), (3, .int x3), (4, .int x4), (5, .int x5)] → MW D κ b σ H → va_S (sg_A b 16) H0 H locs → W p l e rm_X8_find s m args below meth c H locs 0 0 Q (F0 m 32 ls [])) {z84 : Sg → Int32 → Int32 → Int32 → Int32 → Int32 → Int32 → Int32 → Option (Int32 × Sg)} (hr84 : ∀ {σ : Sg} {x1 : Int32} {x2 : Int32} {x3 : Int32} {x4 : Int32} {x5 : Int32} {x6 : Int32} {x7 : Int32} {H : Heap} {locs : List Loc} {ls : Array Slot}, z84 σ x1 x2 x3 x4 x5 x6 x7 = some rr → lv_has ls 9 [(0, .ref b), (1, .int x1), (2, .int x2), (3, .int x3), (4, .int x4), (5, .int x5), (6, .int x6), (7, .int x7)] → MW D κ b σ H → va_S (sg_A b 16) H0 H locs → W p l e rm_X8_find s m args below meth c H locs 0 0 Q (F0 m 84 ls [])) : ∀ {σ : Sg} {x1 : Int32} {x2 : Int32} {x3 : Int32} {x4 : Int32} {x5 : Int32} {x6 : Int32} {x7 : Int32} {y0 : Int32} {H : Heap} {locs : List Loc} {ls : Array Slot}, fn_X8_find_B137 b z32 z84 σ x1 x2 x3 x4 x5 x6 x7 y0 = some rr → lv_has ls 9 [(0, .ref b), (1, .int x1), (2, .int x2), (3, .int x3), (4, .int x4), (5, .int x5), (6, .int x6), (7, .int x7)] → MW D κ b σ H → va_S (sg_A b 16) H0 H locs → W p l e rm_X8_find s m args below meth c H locs 0 0 Q (F0 m 137 ls [.int y0]) := by
  obtain ⟨hx, hb, hml, hown, hts, hK⟩ := hZ
  intro σ x1 x2 x3 x4 x5 x6 x7 y0 H locs ls h hl hC hS
  unfold fn_X8_find_B137 at h
  refine lv_istore (lv' := [(8, .int y0), (0, .ref b), (1, .int x1), (2, .int x2), (3, .int x3), (4, .int x4), (5, .int x5), (6, .int x6), (7, .int x7)]) hx hb dX8_find_137 hl (by decide) rfl (fun ls hl => ?_)
  refine lv_iload hx hb dX8_find_139 (lv_at hl 0 rfl) ?_
  refine lv_if_eq (tgt := 157) hx hb dX8_find_141 (by decide) (fun hc => ?_) (fun hc => ?_)
  · replace h := (if_pos hc).symm.trans h
    refine lv_iload hx hb dX8_find_157 (lv_at hl 5 rfl) ?_
    exact w_X8_find_B159 ⟨hx, hb, hml, hown, hts, hK⟩ hret hr32 hr84 h (lv_sub hl [1, 2, 3, 4, 6, 7, 8] rfl) hC hS
  · replace h := (if_neg hc).symm.trans h
    refine lv_iload hx hb dX8_find_144 (lv_at hl 5 rfl) ?_
    refine lv_iconst (v := 1) hx hb dX8_find_146 (by decide) ?_
    refine lv_iload hx hb dX8_find_147 (lv_at hl 6 rfl) ?_
    refine lv_bipush (v := 8) hx hb dX8_find_149 (by decide) ?_
    refine lv_idiv hx hb dX8_find_151 (by decide) ?_
    refine lv_ishl hx hb dX8_find_152 ?_
    refine lv_ior hx hb dX8_find_153 ?_
    refine lv_goto (tgt := 159) hx hb dX8_find_154 (by decide) ?_
    exact w_X8_find_B159 ⟨hx, hb, hml, hown, hts, hK⟩ hret hr32 hr84 h (lv_sub hl [1, 2, 3, 4, 6, 7, 8] rfl) hC hS
def fn_X8_find_B136 (b : Nat) (z32 : Sg → Int32 → Int32 → Int32 → Int32 → Int32 → Option (Int32 × Sg)) (z84 : Sg → Int32 → Int32 → Int32 → Int32 → Int32 → Int32 → Int32 → Option (Int32 × Sg)) (σ : Sg) (x1 : Int32) (x2 : Int32) (x3 : Int32) (x4 : Int32) (x5 : Int32) (x6 : Int32) (x7 : Int32) : Option (Int32 × Sg) :=
  fn_X8_find_B137 b z32 z84 σ x1 x2 x3 x4 x5 x6 x7 0
set_option maxHeartbeats 4000000 in
set_option maxRecDepth 100000 in
theorem w_X8_find_B136 {p : Program} {l : Launch} {e : Env} {s : State} {m : MethodId} {args : Array Value} {below : List Frame} {meth : Method} {c : Code} {Q : State → Prop} {D : va_G} {κ : Nat → ClassId} {b : Nat} {H0 : Heap} {rr : Int32 × Sg} (hZ : sg_Z p c s m args D κ cX8_find 9 RX8 wsX8_find) (hret : ∀ (v : Int32) (u : Sg) (H : Heap) (locs : List Loc) (pc : Nat) (ls : Array Slot), some (v, u) = some rr → MW D κ b u H → va_S (sg_A b 16) H0 H locs → decode cX8_find pc = .ok (.ireturn, 1) → W p l e rm_X8_find s m args below meth c H locs 0 0 Q (F0 m pc ls [.int v])) {z32 : Sg → Int32 → Int32 → Int32 → Int32 → Int32 → Option (Int32 × Sg)} (hr32 : ∀ {σ : Sg} {x1 : Int32} {x2 : Int32} {x3 : Int32} {x4 : Int32} {x5 : Int32} {H : Heap} {locs : List Loc} {ls : Array Slot}, z32 σ x1 x2 x3 x4 x5 = some rr → lv_has ls 9 [(0, .ref b), (1, .int x1), (2, .int x2), (3, .int x3), (4, .int x4), (5, .int x5)] → MW D κ b σ H → va_S (sg_A b 16) H0 H locs → W p l e rm_X8_find s m args below meth c H locs 0 0 Q (F0 m 32 ls [])) {z84 : Sg → Int32 → Int32 → Int32 → Int32 → Int32 → Int32 → Int32 → Option (Int32 × Sg)} (hr84 : ∀ {σ : Sg} {x1 : Int32} {x2 : Int32} {x3 : Int32} {x4 : Int32} {x5 : Int32} {x6 : Int32} {x7 : Int32} {H : Heap} {locs : List Loc} {ls : Array Slot}, z84 σ x1 x2 x3 x4 x5 x6 x7 = some rr → lv_has ls 9 [(0, .ref b), (1, .int x1), (2, .int x2), (3, .int x3), (4, .int x4), (5, .int x5), (6, .int x6), (7, .int x7)] → MW D κ b σ H → va_S (sg_A b 16) H0 H locs → W p l e rm_X8_find s m args below meth c H locs 0 0 Q (F0 m 84 ls [])) : ∀ {σ : Sg} {x1 : Int32} {x2 : Int32} {x3 : Int32} {x4 : Int32} {x5 : Int32} {x6 : Int32} {x7 : Int32} {H : Heap} {locs : List Loc} {ls : Array Slot}, fn_X8_find_B136 b z32 z84 σ x1 x2 x3 x4 x5 x6 x7 = some rr → lv_has ls 9 [(0, .ref b), (1, .int x1), (2, .int x2), (3, .int x3), (4, .int x4), (5, .int x5), (6, .int x6), (7, .int x7)] → MW D κ b σ H → va_S (sg_A b 16) H0 H locs → W p l e rm_X8_find s m args below meth c H locs 0 0 Q (F0 m 136 ls []) := by
  obtain ⟨hx, hb, hml, hown, hts, hK⟩ := hZ
  intro σ x1 x2 x3 x4 x5 x6 x7 H locs ls h hl hC hS
  unfold fn_X8_find_B136 at h
  refine lv_iconst (v := 0) hx hb dX8_find_136 (by decide) ?_
  exact w_X8_find_B137 ⟨hx, hb, hml, hown, hts, hK⟩ hret hr32 hr84 h (lv_sub hl [0, 1, 2, 3, 4, 5, 6, 7] rfl) hC hS
def fn_X8_find_B84b (b : Nat) (z32 : Sg → Int32 → Int32 → Int32 → Int32 → Int32 → Option (Int32 × Sg)) (z84 : Sg → Int32 → Int32 → Int32 → Int32 → Int32 → Int32 → Int32 → Option (Int32 × Sg)) (σ : Sg) (x1 : Int32) (x2 : Int32) (x3 : Int32) (x4 : Int32) (x5 : Int32) (x6 : Int32) (x7 : Int32) : Option (Int32 × Sg) :=
  (if x6 = 0 then
  fn_X8_find_B167 b z32 σ x1 x2 x3 x4 x5
  else (if sg_ib x5 48 then
  (if (((4 * x5) + (σ.1 (b + 7) (sg_x x5))) : Int32) ≤ x7 then
  fn_X8_find_B167 b z32 σ x1 x2 x3 x4 x5
  else ((fn_X8_makeKey b σ x7).bind fun r1 =>
  ((fn_X8_hasCode b r1 x7 x2).bind fun r2 =>
  (if r2 = 0 then
  fn_X8_find_B136 b z32 z84 r1 x1 x2 x3 x4 x5 x6 x7
  else ((fn_X8_isFound b r1 x7 x3).bind fun r3 =>
  (if r3 = 0 then
  fn_X8_find_B136 b z32 z84 r1 x1 x2 x3 x4 x5 x6 x7
  else fn_X8_find_B137 b z32 z84 r1 x1 x2 x3 x4 x5 x6 x7 1))))))
  else none))
def fn_X8_find_B84 (b : Nat) (z32 : Sg → Int32 → Int32 → Int32 → Int32 → Int32 → Option (Int32 × Sg)) : Nat → Sg → Int32 → Int32 → Int32 → Int32 → Int32 → Int32 → Int32 → Option (Int32 × Sg)
  | 0 => fun _ _ _ _ _ _ _ _ => none
  | n + 1 => fun σ x1 x2 x3 x4 x5 x6 x7 => fn_X8_find_B84b b z32 (fn_X8_find_B84 b z32 n) σ x1 x2 x3 x4 x5 x6 x7
set_option maxHeartbeats 4000000 in
set_option maxRecDepth 100000 in
theorem w_X8_find_B84b {p : Program} {l : Launch} {e : Env} {s : State} {m : MethodId} {args : Array Value} {below : List Frame} {meth : Method} {c : Code} {Q : State → Prop} {D : va_G} {κ : Nat → ClassId} {b : Nat} {H0 : Heap} {rr : Int32 × Sg} (hZ : sg_Z p c s m args D κ cX8_find 9 RX8 wsX8_find) (hret : ∀ (v : Int32) (u : Sg) (H : Heap) (locs : List Loc) (pc : Nat) (ls : Array Slot), some (v, u) = some rr → MW D κ b u H → va_S (sg_A b 16) H0 H locs → decode cX8_find pc = .ok (.ireturn, 1) → W p l e rm_X8_find s m args below meth c H locs 0 0 Q (F0 m pc ls [.int v])) {z32 : Sg → Int32 → Int32 → Int32 → Int32 → Int32 → Option (Int32 × Sg)} (hr32 : ∀ {σ : Sg} {x1 : Int32} {x2 : Int32} {x3 : Int32} {x4 : Int32} {x5 : Int32} {H : Heap} {locs : List Loc} {ls : Array Slot}, z32 σ x1 x2 x3 x4 x5 = some rr → lv_has ls 9 [(0, .ref b), (1, .int x1), (2, .int x2), (3, .int x3), (4, .int x4), (5, .int x5)] → MW D κ b σ H → va_S (sg_A b 16) H0 H locs → W p l e rm_X8_find s m args below meth c H locs 0 0 Q (F0 m 32 ls [])) {z84 : Sg → Int32 → Int32 → Int32 → Int32 → Int32 → Int32 → Int32 → Option (Int32 × Sg)} (hr84 : ∀ {σ : Sg} {x1 : Int32} {x2 : Int32} {x3 : Int32} {x4 : Int32} {x5 : Int32} {x6 : Int32} {x7 : Int32} {H : Heap} {locs : List Loc} {ls : Array Slot}, z84 σ x1 x2 x3 x4 x5 x6 x7 = some rr → lv_has ls 9 [(0, .ref b), (1, .int x1), (2, .int x2), (3, .int x3), (4, .int x4), (5, .int x5), (6, .int x6), (7, .int x7)] → MW D κ b σ H → va_S (sg_A b 16) H0 H locs → W p l e rm_X8_find s m args below meth c H locs 0 0 Q (F0 m 84 ls [])) : ∀ {σ : Sg} {x1 : Int32} {x2 : Int32} {x3 : Int32} {x4 : Int32} {x5 : Int32} {x6 : Int32} {x7 : Int32} {H : Heap} {locs : List Loc} {ls : Array Slot}, fn_X8_find_B84b b z32 z84 σ x1 x2 x3 x4 x5 x6 x7 = some rr → lv_has ls 9 [(0, .ref b), (1, .int x1), (2, .int x2), (3, .int x3), (4, .int x4), (5, .int x5), (6, .int x6), (7, .int x7)] → MW D κ b σ H → va_S (sg_A b 16) H0 H locs → W p l e rm_X8_find s m args below meth c H locs 0 0 Q (F0 m 84 ls []) := by
  obtain ⟨hx, hb, hml, hown, hts, hK⟩ := hZ
  intro σ x1 x2 x3 x4 x5 x6 x7 H locs ls h hl hC hS
  unfold fn_X8_find_B84b at h
  refine lv_iload hx hb dX8_find_84 (lv_at hl 6 rfl) ?_
  refine lv_if_eq (tgt := 167) hx hb dX8_find_86 (by decide) (fun hc => ?_) (fun hc => ?_)
  · replace h := (if_pos hc).symm.trans h
    exact w_X8_find_B167 ⟨hx, hb, hml, hown, hts, hK⟩ hret hr32 h (lv_sub hl [0, 1, 2, 3, 4, 5] rfl) hC hS
  · replace h := (if_neg hc).symm.trans h
    refine lv_iload hx hb dX8_find_89 (lv_at hl 7 rfl) ?_
    refine lv_iconst (v := 4) hx hb dX8_find_91 (by decide) ?_
    refine lv_iload hx hb dX8_find_92 (lv_at hl 5 rfl) ?_
    refine lv_imul hx hb dX8_find_94 ?_
    refine lv_aload_n hx hb dX8_find_95 rfl (lv_at hl 0 rfl) ?_
    refine va_get (D := D) (ci := 8) (v := .ref (b + 7)) (C := RX8) (T := TX8) (N := 21) hx hb hts (wqs inW_X8) hown hK.1 hC.1 (b - b) sg_gModel rfl 8 (by decide) (hts _ (wq wt_656)) (fun _ h9 => h9) rfl dX8_find_96 ?_
    refine lv_iload hx hb dX8_find_99 (lv_at hl 5 rfl) ?_
    obtain ⟨hg, h⟩ := sg_gd h
    refine va_iald hx hb hK.1 hC.1 ((b + 7) - b) 0 sg_ga_subfields rfl (sg_in hg) dX8_find_101 ?_
    refine lv_iadd hx hb dX8_find_102 ?_
    refine lv_icmp_ge (tgt := 167) hx hb dX8_find_103 (by decide) (fun hc => ?_) (fun hc => ?_)
    · replace h := (if_pos hc).symm.trans h
      exact w_X8_find_B167 ⟨hx, hb, hml, hown, hts, hK⟩ hret hr32 h (lv_sub hl [0, 1, 2, 3, 4, 5] rfl) hC hS
    · replace h := (if_neg hc).symm.trans h
      refine lv_aload_n hx hb dX8_find_106 rfl (lv_at hl 0 rfl) ?_
      refine lv_iload hx hb dX8_find_107 (lv_at hl 7 rfl) ?_
      obtain ⟨r1, er1, h⟩ := Option.bind_eq_some_iff.mp h
      refine va_callv (va_runV (As := [.int x7]) (rest := []) ⟨hx, hb, hml, hown, hts⟩ (c_X8_makeKey l D κ b σ x7 _ er1) (cwV 1 hts (gwV wt_860 wt_862 wp_48 wt_9 wt_863) rfl rfl rfl (by decide +kernel) ⟨Nat.le_of_ble_eq_true rfl, Nat.le_of_ble_eq_true rfl⟩) (MW_preV hK hC sg_gModel rfl) rfl rfl hl.1 rfl (lv_room (Nat.le_of_ble_eq_true rfl)) dX8_find_109 ⟨Nat.zero_le _, Nat.zero_le _⟩) hS (fun _ _ h => h) (fun _ h => h) (fun u t H locs ht _ hp hB _ _ hS => ?_)
      have hC : MW D κ b r1 H := MW_b hB ht hp
      refine lv_aload_n hx hb dX8_find_112 rfl (lv_at hl 0 rfl) ?_
      refine lv_iload hx hb dX8_find_113 (lv_at hl 7 rfl) ?_
      refine lv_iload_n hx hb dX8_find_115 rfl (lv_at hl 2 rfl) ?_
      obtain ⟨r2, er2, h⟩ := Option.bind_eq_some_iff.mp h
      refine va_calli (va_runV (As := [.int x7, .int x2]) (rest := []) ⟨hx, hb, hml, hown, hts⟩ (c_X8_hasCode l D κ b r1 x7 x2 _ er2) (cwV 2 hts (gwV wt_856 wt_858 wp_47 wt_9 wt_859) rfl rfl rfl (by decide +kernel) ⟨Nat.le_of_ble_eq_true rfl, Nat.le_of_ble_eq_true rfl⟩) (MW_preV hK hC sg_gModel rfl) rfl rfl hl.1 rfl (lv_room (Nat.le_of_ble_eq_true rfl)) dX8_find_116 ⟨Nat.zero_le _, Nat.zero_le _⟩) hS (fun _ _ h => h) (fun _ h => h) (fun r u t H locs ht _ hp hB _ _ hS => ?_)
      refine sg_topi hp.1 ?_
      have hC : MW D κ b r1 H := MW_b hB ht hp.2
      refine lv_if_eq (tgt := 136) hx hb dX8_find_119 (by decide) (fun hc => ?_) (fun hc => ?_)
      · replace h := (if_pos hc).symm.trans h
        exact w_X8_find_B136 ⟨hx, hb, hml, hown, hts, hK⟩ hret hr32 hr84 h (lv_sub hl [0, 1, 2, 3, 4, 5, 6, 7] rfl) hC hS
      · replace h := (if_neg hc).symm.trans h
        refine lv_aload_n hx hb dX8_find_122 rfl (lv_at hl 0 rfl) ?_
        refine lv_iload hx hb dX8_find_123 (lv_at hl 7 rfl) ?_
        refine lv_iload_n hx hb dX8_find_125 rfl (lv_at hl 3 rfl) ?_
        obtain ⟨r3, er3, h⟩ := Option.bind_eq_some_iff.mp h
        refine va_calli (va_runV (As := [.int x7, .int x3]) (rest := []) ⟨hx, hb, hml, hown, hts⟩ (c_X8_isFound l D κ b r1 x7 x3 _ er3) (cwV 2 hts (gwV wt_883 wt_885 wp_51 wt_9 wt_886) rfl rfl rfl (by decide +kernel) ⟨Nat.le_of_ble_eq_true rfl, Nat.le_of_ble_eq_true rfl⟩) (MW_preV hK hC sg_gModel rfl) rfl rfl hl.1 rfl (lv_room (Nat.le_of_ble_eq_true rfl)) dX8_find_126 ⟨Nat.zero_le _, Nat.zero_le _⟩) hS (fun _ _ h => h) (fun _ h => h) (fun r u t H locs ht _ hp hB _ _ hS => ?_)
        refine sg_topi hp.1 ?_
        have hC : MW D κ b r1 H := MW_b hB ht hp.2
        refine lv_if_eq (tgt := 136) hx hb dX8_find_129 (by decide) (fun hc => ?_) (fun hc => ?_)
        · replace h := (if_pos hc).symm.trans h
          exact w_X8_find_B136 ⟨hx, hb, hml, hown, hts, hK⟩ hret hr32 hr84 h (lv_sub hl [0, 1, 2, 3, 4, 5, 6, 7] rfl) hC hS
        · replace h := (if_neg hc).symm.trans h
          refine lv_iconst (v := 1) hx hb dX8_find_132 (by decide) ?_
          refine lv_goto (tgt := 137) hx hb dX8_find_133 (by decide) ?_
          exact w_X8_find_B137 ⟨hx, hb, hml, hown, hts, hK⟩ hret hr32 hr84 h (lv_sub hl [0, 1, 2, 3, 4, 5, 6, 7] rfl) hC hS
set_option maxHeartbeats 4000000 in
theorem w_X8_find_B84 {p : Program} {l : Launch} {e : Env} {s : State} {m : MethodId} {args : Array Value} {below : List Frame} {meth : Method} {c : Code} {Q : State → Prop} {D : va_G} {κ : Nat → ClassId} {b : Nat} {H0 : Heap} {rr : Int32 × Sg} (hZ : sg_Z p c s m args D κ cX8_find 9 RX8 wsX8_find) (hret : ∀ (v : Int32) (u : Sg) (H : Heap) (locs : List Loc) (pc : Nat) (ls : Array Slot), some (v, u) = some rr → MW D κ b u H → va_S (sg_A b 16) H0 H locs → decode cX8_find pc = .ok (.ireturn, 1) → W p l e rm_X8_find s m args below meth c H locs 0 0 Q (F0 m pc ls [.int v])) {z32 : Sg → Int32 → Int32 → Int32 → Int32 → Int32 → Option (Int32 × Sg)} (hr32 : ∀ {σ : Sg} {x1 : Int32} {x2 : Int32} {x3 : Int32} {x4 : Int32} {x5 : Int32} {H : Heap} {locs : List Loc} {ls : Array Slot}, z32 σ x1 x2 x3 x4 x5 = some rr → lv_has ls 9 [(0, .ref b), (1, .int x1), (2, .int x2), (3, .int x3), (4, .int x4), (5, .int x5)] → MW D κ b σ H → va_S (sg_A b 16) H0 H locs → W p l e rm_X8_find s m args below meth c H locs 0 0 Q (F0 m 32 ls [])) : ∀ n : Nat, ∀ {σ : Sg} {x1 : Int32} {x2 : Int32} {x3 : Int32} {x4 : Int32} {x5 : Int32} {x6 : Int32} {x7 : Int32} {H : Heap} {locs : List Loc} {ls : Array Slot}, fn_X8_find_B84 b z32 n σ x1 x2 x3 x4 x5 x6 x7 = some rr → lv_has ls 9 [(0, .ref b), (1, .int x1), (2, .int x2), (3, .int x3), (4, .int x4), (5, .int x5), (6, .int x6), (7, .int x7)] → MW D κ b σ H → va_S (sg_A b 16) H0 H locs → W p l e rm_X8_find s m args below meth c H locs 0 0 Q (F0 m 84 ls []) := by
  intro n
  induction n with
  | zero => intro σ x1 x2 x3 x4 x5 x6 x7 H locs ls h hl hC hS; cases (show (none : Option (Int32 × Sg)) = some rr from h)
  | succ n ih =>
    intro σ x1 x2 x3 x4 x5 x6 x7 H locs ls h hl hC hS
    exact w_X8_find_B84b hZ hret hr32 ih (show fn_X8_find_B84b b z32 (fn_X8_find_B84 b z32 n) σ x1 x2 x3 x4 x5 x6 x7 = some rr from h)  hl hC hS
def fn_X8_find_B76 (b : Nat) (z32 : Sg → Int32 → Int32 → Int32 → Int32 → Int32 → Option (Int32 × Sg)) (σ : Sg) (x1 : Int32) (x2 : Int32) (x3 : Int32) (x4 : Int32) (x5 : Int32) (y0 : Int32) : Option (Int32 × Sg) :=
  (sg_lt ((4 * x5) : Int32) fun v1 =>
  fn_X8_find_B84 b z32 sg_N σ x1 x2 x3 x4 x5 y0 v1)
set_option maxHeartbeats 4000000 in
set_option maxRecDepth 100000 in
theorem w_X8_find_B76 {p : Program} {l : Launch} {e : Env} {s : State} {m : MethodId} {args : Array Value} {below : List Frame} {meth : Method} {c : Code} {Q : State → Prop} {D : va_G} {κ : Nat → ClassId} {b : Nat} {H0 : Heap} {rr : Int32 × Sg} (hZ : sg_Z p c s m args D κ cX8_find 9 RX8 wsX8_find) (hret : ∀ (v : Int32) (u : Sg) (H : Heap) (locs : List Loc) (pc : Nat) (ls : Array Slot), some (v, u) = some rr → MW D κ b u H → va_S (sg_A b 16) H0 H locs → decode cX8_find pc = .ok (.ireturn, 1) → W p l e rm_X8_find s m args below meth c H locs 0 0 Q (F0 m pc ls [.int v])) {z32 : Sg → Int32 → Int32 → Int32 → Int32 → Int32 → Option (Int32 × Sg)} (hr32 : ∀ {σ : Sg} {x1 : Int32} {x2 : Int32} {x3 : Int32} {x4 : Int32} {x5 : Int32} {H : Heap} {locs : List Loc} {ls : Array Slot}, z32 σ x1 x2 x3 x4 x5 = some rr → lv_has ls 9 [(0, .ref b), (1, .int x1), (2, .int x2), (3, .int x3), (4, .int x4), (5, .int x5)] → MW D κ b σ H → va_S (sg_A b 16) H0 H locs → W p l e rm_X8_find s m args below meth c H locs 0 0 Q (F0 m 32 ls [])) : ∀ {σ : Sg} {x1 : Int32} {x2 : Int32} {x3 : Int32} {x4 : Int32} {x5 : Int32} {y0 : Int32} {H : Heap} {locs : List Loc} {ls : Array Slot}, fn_X8_find_B76 b z32 σ x1 x2 x3 x4 x5 y0 = some rr → lv_has ls 9 [(0, .ref b), (1, .int x1), (2, .int x2), (3, .int x3), (4, .int x4), (5, .int x5)] → MW D κ b σ H → va_S (sg_A b 16) H0 H locs → W p l e rm_X8_find s m args below meth c H locs 0 0 Q (F0 m 76 ls [.int y0]) := by
  obtain ⟨hx, hb, hml, hown, hts, hK⟩ := hZ
  intro σ x1 x2 x3 x4 x5 y0 H locs ls h hl hC hS
  unfold fn_X8_find_B76 at h
  refine lv_istore (lv' := [(6, .int y0), (0, .ref b), (1, .int x1), (2, .int x2), (3, .int x3), (4, .int x4), (5, .int x5)]) hx hb dX8_find_76 hl (by decide) rfl (fun ls hl => ?_)
  refine lv_iconst (v := 4) hx hb dX8_find_78 (by decide) ?_
  refine lv_iload hx hb dX8_find_79 (lv_at hl 6 rfl) ?_
  refine lv_imul hx hb dX8_find_81 ?_
  obtain ⟨v1, ev1, h⟩ := sg_lte h
  refine sg_topi ev1 ?_
  refine lv_istore (lv' := [(7, .int v1), (6, .int y0), (0, .ref b), (1, .int x1), (2, .int x2), (3, .int x3), (4, .int x4), (5, .int x5)]) hx hb dX8_find_82 hl (by decide) rfl (fun ls hl => ?_)
  exact w_X8_find_B84 ⟨hx, hb, hml, hown, hts, hK⟩ hret hr32 sg_N h (lv_sub hl [2, 3, 4, 5, 6, 7, 1, 0] rfl) hC hS
def fn_X8_find_B75 (b : Nat) (z32 : Sg → Int32 → Int32 → Int32 → Int32 → Int32 → Option (Int32 × Sg)) (σ : Sg) (x1 : Int32) (x2 : Int32) (x3 : Int32) (x4 : Int32) (x5 : Int32) : Option (Int32 × Sg) :=
  fn_X8_find_B76 b z32 σ x1 x2 x3 x4 x5 0
set_option maxHeartbeats 4000000 in
set_option maxRecDepth 100000 in
theorem w_X8_find_B75 {p : Program} {l : Launch} {e : Env} {s : State} {m : MethodId} {args : Array Value} {below : List Frame} {meth : Method} {c : Code} {Q : State → Prop} {D : va_G} {κ : Nat → ClassId} {b : Nat} {H0 : Heap} {rr : Int32 × Sg} (hZ : sg_Z p c s m args D κ cX8_find 9 RX8 wsX8_find) (hret : ∀ (v : Int32) (u : Sg) (H : Heap) (locs : List Loc) (pc : Nat) (ls : Array Slot), some (v, u) = some rr → MW D κ b u H → va_S (sg_A b 16) H0 H locs → decode cX8_find pc = .ok (.ireturn, 1) → W p l e rm_X8_find s m args below meth c H locs 0 0 Q (F0 m pc ls [.int v])) {z32 : Sg → Int32 → Int32 → Int32 → Int32 → Int32 → Option (Int32 × Sg)} (hr32 : ∀ {σ : Sg} {x1 : Int32} {x2 : Int32} {x3 : Int32} {x4 : Int32} {x5 : Int32} {H : Heap} {locs : List Loc} {ls : Array Slot}, z32 σ x1 x2 x3 x4 x5 = some rr → lv_has ls 9 [(0, .ref b), (1, .int x1), (2, .int x2), (3, .int x3), (4, .int x4), (5, .int x5)] → MW D κ b σ H → va_S (sg_A b 16) H0 H locs → W p l e rm_X8_find s m args below meth c H locs 0 0 Q (F0 m 32 ls [])) : ∀ {σ : Sg} {x1 : Int32} {x2 : Int32} {x3 : Int32} {x4 : Int32} {x5 : Int32} {H : Heap} {locs : List Loc} {ls : Array Slot}, fn_X8_find_B75 b z32 σ x1 x2 x3 x4 x5 = some rr → lv_has ls 9 [(0, .ref b), (1, .int x1), (2, .int x2), (3, .int x3), (4, .int x4), (5, .int x5)] → MW D κ b σ H → va_S (sg_A b 16) H0 H locs → W p l e rm_X8_find s m args below meth c H locs 0 0 Q (F0 m 75 ls []) := by
  obtain ⟨hx, hb, hml, hown, hts, hK⟩ := hZ
  intro σ x1 x2 x3 x4 x5 H locs ls h hl hC hS
  unfold fn_X8_find_B75 at h
  refine lv_iconst (v := 0) hx hb dX8_find_75 (by decide) ?_
  exact w_X8_find_B76 ⟨hx, hb, hml, hown, hts, hK⟩ hret hr32 h (lv_sub hl [0, 1, 2, 3, 4, 5] rfl) hC hS
def fn_X8_find_B71 (b : Nat) (z32 : Sg → Int32 → Int32 → Int32 → Int32 → Int32 → Option (Int32 × Sg)) (σ : Sg) (x1 : Int32) (x2 : Int32) (x3 : Int32) (x4 : Int32) (x5 : Int32) : Option (Int32 × Sg) :=
  fn_X8_find_B76 b z32 σ x1 x2 x3 x4 x5 1
set_option maxHeartbeats 4000000 in
set_option maxRecDepth 100000 in
theorem w_X8_find_B71 {p : Program} {l : Launch} {e : Env} {s : State} {m : MethodId} {args : Array Value} {below : List Frame} {meth : Method} {c : Code} {Q : State → Prop} {D : va_G} {κ : Nat → ClassId} {b : Nat} {H0 : Heap} {rr : Int32 × Sg} (hZ : sg_Z p c s m args D κ cX8_find 9 RX8 wsX8_find) (hret : ∀ (v : Int32) (u : Sg) (H : Heap) (locs : List Loc) (pc : Nat) (ls : Array Slot), some (v, u) = some rr → MW D κ b u H → va_S (sg_A b 16) H0 H locs → decode cX8_find pc = .ok (.ireturn, 1) → W p l e rm_X8_find s m args below meth c H locs 0 0 Q (F0 m pc ls [.int v])) {z32 : Sg → Int32 → Int32 → Int32 → Int32 → Int32 → Option (Int32 × Sg)} (hr32 : ∀ {σ : Sg} {x1 : Int32} {x2 : Int32} {x3 : Int32} {x4 : Int32} {x5 : Int32} {H : Heap} {locs : List Loc} {ls : Array Slot}, z32 σ x1 x2 x3 x4 x5 = some rr → lv_has ls 9 [(0, .ref b), (1, .int x1), (2, .int x2), (3, .int x3), (4, .int x4), (5, .int x5)] → MW D κ b σ H → va_S (sg_A b 16) H0 H locs → W p l e rm_X8_find s m args below meth c H locs 0 0 Q (F0 m 32 ls [])) : ∀ {σ : Sg} {x1 : Int32} {x2 : Int32} {x3 : Int32} {x4 : Int32} {x5 : Int32} {H : Heap} {locs : List Loc} {ls : Array Slot}, fn_X8_find_B71 b z32 σ x1 x2 x3 x4 x5 = some rr → lv_has ls 9 [(0, .ref b), (1, .int x1), (2, .int x2), (3, .int x3), (4, .int x4), (5, .int x5)] → MW D κ b σ H → va_S (sg_A b 16) H0 H locs → W p l e rm_X8_find s m args below meth c H locs 0 0 Q (F0 m 71 ls []) := by
  obtain ⟨hx, hb, hml, hown, hts, hK⟩ := hZ
  intro σ x1 x2 x3 x4 x5 H locs ls h hl hC hS
  unfold fn_X8_find_B71 at h
  refine lv_iconst (v := 1) hx hb dX8_find_71 (by decide) ?_
  refine lv_goto (tgt := 76) hx hb dX8_find_72 (by decide) ?_
  exact w_X8_find_B76 ⟨hx, hb, hml, hown, hts, hK⟩ hret hr32 h (lv_sub hl [0, 1, 2, 3, 4, 5] rfl) hC hS
def fn_X8_find_B32b (b : Nat) (z32 : Sg → Int32 → Int32 → Int32 → Int32 → Int32 → Option (Int32 × Sg)) (σ : Sg) (x1 : Int32) (x2 : Int32) (x3 : Int32) (x4 : Int32) (x5 : Int32) : Option (Int32 × Sg) :=
  (if (48 : Int32) ≤ x5 then
  some (x4, σ)
  else ((fn_X8_isField b σ (x5 / 8) (x5 - x5 / 8 * 8)).bind fun r1 =>
  (if r1 = 0 then
  fn_X8_find_B75 b z32 σ x1 x2 x3 x4 x5
  else (if x1 = 0 then
  fn_X8_find_B71 b z32 σ x1 x2 x3 x4 x5
  else (if sg_ib x5 48 then
  (if (σ.1 (b + 4) (sg_x x5)) = x1 then
  fn_X8_find_B71 b z32 σ x1 x2 x3 x4 x5
  else fn_X8_find_B75 b z32 σ x1 x2 x3 x4 x5)
  else none)))))
def fn_X8_find_B32 (b : Nat) : Nat → Sg → Int32 → Int32 → Int32 → Int32 → Int32 → Option (Int32 × Sg)
  | 0 => fun _ _ _ _ _ _ => none
  | n + 1 => fun σ x1 x2 x3 x4 x5 => fn_X8_find_B32b b (fn_X8_find_B32 b n) σ x1 x2 x3 x4 x5
set_option maxHeartbeats 4000000 in
set_option maxRecDepth 100000 in
theorem w_X8_find_B32b {p : Program} {l : Launch} {e : Env} {s : State} {m : MethodId} {args : Array Value} {below : List Frame} {meth : Method} {c : Code} {Q : State → Prop} {D : va_G} {κ : Nat → ClassId} {b : Nat} {H0 : Heap} {rr : Int32 × Sg} (hZ : sg_Z p c s m args D κ cX8_find 9 RX8 wsX8_find) (hret : ∀ (v : Int32) (u : Sg) (H : Heap) (locs : List Loc) (pc : Nat) (ls : Array Slot), some (v, u) = some rr → MW D κ b u H → va_S (sg_A b 16) H0 H locs → decode cX8_find pc = .ok (.ireturn, 1) → W p l e rm_X8_find s m args below meth c H locs 0 0 Q (F0 m pc ls [.int v])) {z32 : Sg → Int32 → Int32 → Int32 → Int32 → Int32 → Option (Int32 × Sg)} (hr32 : ∀ {σ : Sg} {x1 : Int32} {x2 : Int32} {x3 : Int32} {x4 : Int32} {x5 : Int32} {H : Heap} {locs : List Loc} {ls : Array Slot}, z32 σ x1 x2 x3 x4 x5 = some rr → lv_has ls 9 [(0, .ref b), (1, .int x1), (2, .int x2), (3, .int x3), (4, .int x4), (5, .int x5)] → MW D κ b σ H → va_S (sg_A b 16) H0 H locs → W p l e rm_X8_find s m args below meth c H locs 0 0 Q (F0 m 32 ls [])) : ∀ {σ : Sg} {x1 : Int32} {x2 : Int32} {x3 : Int32} {x4 : Int32} {x5 : Int32} {H : Heap} {locs : List Loc} {ls : Array Slot}, fn_X8_find_B32b b z32 σ x1 x2 x3 x4 x5 = some rr → lv_has ls 9 [(0, .ref b), (1, .int x1), (2, .int x2), (3, .int x3), (4, .int x4), (5, .int x5)] → MW D κ b σ H → va_S (sg_A b 16) H0 H locs → W p l e rm_X8_find s m args below meth c H locs 0 0 Q (F0 m 32 ls []) := by
  obtain ⟨hx, hb, hml, hown, hts, hK⟩ := hZ
  intro σ x1 x2 x3 x4 x5 H locs ls h hl hC hS
  unfold fn_X8_find_B32b at h
  refine lv_iload hx hb dX8_find_32 (lv_at hl 5 rfl) ?_
  refine lv_bipush (v := 48) hx hb dX8_find_34 (by decide) ?_
  refine lv_icmp_ge (tgt := 173) hx hb dX8_find_36 (by decide) (fun hc => ?_) (fun hc => ?_)
  · replace h := (if_pos hc).symm.trans h
    refine lv_iload hx hb dX8_find_173 (lv_at hl 4 rfl) ?_
    exact hret _ _ _ _ _ _ h hC hS dX8_find_175
  · replace h := (if_neg hc).symm.trans h
    refine lv_aload_n hx hb dX8_find_39 rfl (lv_at hl 0 rfl) ?_
    refine lv_iload hx hb dX8_find_40 (lv_at hl 5 rfl) ?_
    refine lv_bipush (v := 8) hx hb dX8_find_42 (by decide) ?_
    refine lv_idiv hx hb dX8_find_44 (by decide) ?_
    refine lv_iload hx hb dX8_find_45 (lv_at hl 5 rfl) ?_
    refine lv_bipush (v := 8) hx hb dX8_find_47 (by decide) ?_
    refine lv_irem hx hb dX8_find_49 (by decide) ?_
    obtain ⟨r1, er1, h⟩ := Option.bind_eq_some_iff.mp h
    refine va_calli (va_runV (As := [.int (x5 / 8), .int (x5 - x5 / 8 * 8)]) (rest := []) ⟨hx, hb, hml, hown, hts⟩ (c_X8_isField l D κ b σ (x5 / 8) (x5 - x5 / 8 * 8) _ er1) (cwV 2 hts (gwV wt_808 wt_810 wp_42 wt_9 wt_811) rfl rfl rfl (by decide +kernel) ⟨Nat.le_of_ble_eq_true rfl, Nat.le_of_ble_eq_true rfl⟩) (MW_preV hK hC sg_gModel rfl) rfl rfl hl.1 rfl (lv_room (Nat.le_of_ble_eq_true rfl)) dX8_find_50 ⟨Nat.zero_le _, Nat.zero_le _⟩) hS (fun _ _ h => h) (fun _ h => h) (fun r u t H locs ht _ hp hB _ _ hS => ?_)
    refine sg_topi hp.1 ?_
    have hC : MW D κ b σ H := MW_b hB ht hp.2
    refine lv_if_eq (tgt := 75) hx hb dX8_find_53 (by decide) (fun hc => ?_) (fun hc => ?_)
    · replace h := (if_pos hc).symm.trans h
      exact w_X8_find_B75 ⟨hx, hb, hml, hown, hts, hK⟩ hret hr32 h (lv_sub hl [0, 1, 2, 3, 4, 5] rfl) hC hS
    · replace h := (if_neg hc).symm.trans h
      refine lv_iload_n hx hb dX8_find_56 rfl (lv_at hl 1 rfl) ?_
      refine lv_if_eq (tgt := 71) hx hb dX8_find_57 (by decide) (fun hc => ?_) (fun hc => ?_)
      · replace h := (if_pos hc).symm.trans h
        exact w_X8_find_B71 ⟨hx, hb, hml, hown, hts, hK⟩ hret hr32 h (lv_sub hl [0, 1, 2, 3, 4, 5] rfl) hC hS
      · replace h := (if_neg hc).symm.trans h
        refine lv_aload_n hx hb dX8_find_60 rfl (lv_at hl 0 rfl) ?_
        refine va_get (D := D) (ci := 8) (v := .ref (b + 4)) (C := RX8) (T := TX8) (N := 21) hx hb hts (wqs inW_X8) hown hK.1 hC.1 (b - b) sg_gModel rfl 5 (by decide) (hts _ (wq wt_653)) (fun _ h9 => h9) rfl dX8_find_61 ?_
        refine lv_iload hx hb dX8_find_64 (lv_at hl 5 rfl) ?_
        obtain ⟨hg, h⟩ := sg_gd h
        refine va_iald hx hb hK.1 hC.1 ((b + 4) - b) 0 sg_ga_tags rfl (sg_in hg) dX8_find_66 ?_
        refine lv_iload_n hx hb dX8_find_67 rfl (lv_at hl 1 rfl) ?_
        refine lv_icmp_ne (tgt := 75) hx hb dX8_find_68 (by decide) (fun hc => ?_) (fun hc => ?_)
        · replace h := (if_neg hc).symm.trans h
          exact w_X8_find_B75 ⟨hx, hb, hml, hown, hts, hK⟩ hret hr32 h (lv_sub hl [0, 1, 2, 3, 4, 5] rfl) hC hS
        · replace h := (if_pos hc).symm.trans h
          exact w_X8_find_B71 ⟨hx, hb, hml, hown, hts, hK⟩ hret hr32 h (lv_sub hl [0, 1, 2, 3, 4, 5] rfl) hC hS
set_option maxHeartbeats 4000000 in
theorem w_X8_find_B32 {p : Program} {l : Launch} {e : Env} {s : State} {m : MethodId} {args : Array Value} {below : List Frame} {meth : Method} {c : Code} {Q : State → Prop} {D : va_G} {κ : Nat → ClassId} {b : Nat} {H0 : Heap} {rr : Int32 × Sg} (hZ : sg_Z p c s m args D κ cX8_find 9 RX8 wsX8_find) (hret : ∀ (v : Int32) (u : Sg) (H : Heap) (locs : List Loc) (pc : Nat) (ls : Array Slot), some (v, u) = some rr → MW D κ b u H → va_S (sg_A b 16) H0 H locs → decode cX8_find pc = .ok (.ireturn, 1) → W p l e rm_X8_find s m args below meth c H locs 0 0 Q (F0 m pc ls [.int v])) : ∀ n : Nat, ∀ {σ : Sg} {x1 : Int32} {x2 : Int32} {x3 : Int32} {x4 : Int32} {x5 : Int32} {H : Heap} {locs : List Loc} {ls : Array Slot}, fn_X8_find_B32 b n σ x1 x2 x3 x4 x5 = some rr → lv_has ls 9 [(0, .ref b), (1, .int x1), (2, .int x2), (3, .int x3), (4, .int x4), (5, .int x5)] → MW D κ b σ H → va_S (sg_A b 16) H0 H locs → W p l e rm_X8_find s m args below meth c H locs 0 0 Q (F0 m 32 ls []) := by
  intro n
  induction n with
  | zero => intro σ x1 x2 x3 x4 x5 H locs ls h hl hC hS; cases (show (none : Option (Int32 × Sg)) = some rr from h)
  | succ n ih =>
    intro σ x1 x2 x3 x4 x5 H locs ls h hl hC hS
    exact w_X8_find_B32b hZ hret ih (show fn_X8_find_B32b b (fn_X8_find_B32 b n) σ x1 x2 x3 x4 x5 = some rr from h)  hl hC hS
def fn_X8_find (b : Nat) (σ : Sg) (x1 : Int32) (x2 : Int32) (x3 : Int32) : Option (Int32 × Sg) :=
  (if x1 < 0 then
  some ((-1), σ)
  else (if (999 : Int32) < x1 then
  some ((-1), σ)
  else (if x3 < 0 then
  some ((-1), σ)
  else (if x3 ≤ 2 then
  ((fn_X8_makeWanted b σ).bind fun r1 =>
  fn_X8_find_B32 b sg_N r1 x1 x2 x3 0 0)
  else some ((-1), σ)))))
set_option maxHeartbeats 4000000 in
set_option maxRecDepth 100000 in
theorem w_X8_find_B0 {p : Program} {l : Launch} {e : Env} {s : State} {m : MethodId} {args : Array Value} {below : List Frame} {meth : Method} {c : Code} {Q : State → Prop} {D : va_G} {κ : Nat → ClassId} {b : Nat} {H0 : Heap} {rr : Int32 × Sg} (hZ : sg_Z p c s m args D κ cX8_find 9 RX8 wsX8_find) (hret : ∀ (v : Int32) (u : Sg) (H : Heap) (locs : List Loc) (pc : Nat) (ls : Array Slot), some (v, u) = some rr → MW D κ b u H → va_S (sg_A b 16) H0 H locs → decode cX8_find pc = .ok (.ireturn, 1) → W p l e rm_X8_find s m args below meth c H locs 0 0 Q (F0 m pc ls [.int v])) : ∀ {σ : Sg} {x1 : Int32} {x2 : Int32} {x3 : Int32} {H : Heap} {locs : List Loc} {ls : Array Slot}, fn_X8_find b σ x1 x2 x3 = some rr → lv_has ls 9 [(0, .ref b), (1, .int x1), (2, .int x2), (3, .int x3)] → MW D κ b σ H → va_S (sg_A b 16) H0 H locs → W p l e rm_X8_find s m args below meth c H locs 0 0 Q (F0 m 0 ls []) := by
  obtain ⟨hx, hb, hml, hown, hts, hK⟩ := hZ
  intro σ x1 x2 x3 H locs ls h hl hC hS
  unfold fn_X8_find at h
  refine lv_iload_n hx hb dX8_find_0 rfl (lv_at hl 1 rfl) ?_
  refine lv_if_lt (tgt := 20) hx hb dX8_find_1 (by decide) (fun hc => ?_) (fun hc => ?_)
  · replace h := (if_pos hc).symm.trans h
    refine lv_iconst (v := (-1)) hx hb dX8_find_20 (by decide) ?_
    exact hret _ _ _ _ _ _ h hC hS dX8_find_21
  · replace h := (if_neg hc).symm.trans h
    refine lv_iload_n hx hb dX8_find_4 rfl (lv_at hl 1 rfl) ?_
    refine lv_sipush (v := 999) hx hb dX8_find_5 (by decide) ?_
    refine lv_icmp_gt (tgt := 20) hx hb dX8_find_8 (by decide) (fun hc => ?_) (fun hc => ?_)
    · replace h := (if_pos hc).symm.trans h
      refine lv_iconst (v := (-1)) hx hb dX8_find_20 (by decide) ?_
      exact hret _ _ _ _ _ _ h hC hS dX8_find_21
    · replace h := (if_neg hc).symm.trans h
      refine lv_iload_n hx hb dX8_find_11 rfl (lv_at hl 3 rfl) ?_
      refine lv_if_lt (tgt := 20) hx hb dX8_find_12 (by decide) (fun hc => ?_) (fun hc => ?_)
      · replace h := (if_pos hc).symm.trans h
        refine lv_iconst (v := (-1)) hx hb dX8_find_20 (by decide) ?_
        exact hret _ _ _ _ _ _ h hC hS dX8_find_21
      · replace h := (if_neg hc).symm.trans h
        refine lv_iload_n hx hb dX8_find_15 rfl (lv_at hl 3 rfl) ?_
        refine lv_iconst (v := 2) hx hb dX8_find_16 (by decide) ?_
        refine lv_icmp_le (tgt := 22) hx hb dX8_find_17 (by decide) (fun hc => ?_) (fun hc => ?_)
        · replace h := (if_pos hc).symm.trans h
          refine lv_aload_n hx hb dX8_find_22 rfl (lv_at hl 0 rfl) ?_
          obtain ⟨r1, er1, h⟩ := Option.bind_eq_some_iff.mp h
          refine va_callv (va_runV (As := []) (rest := []) ⟨hx, hb, hml, hown, hts⟩ (c_X8_makeWanted l D κ b σ _ er1) (cwV 0 hts (gwV wt_879 wt_881 wp_50 wt_9 wt_882) rfl rfl rfl (by decide +kernel) ⟨Nat.le_of_ble_eq_true rfl, Nat.le_of_ble_eq_true rfl⟩) (MW_preV hK hC sg_gModel rfl) rfl rfl hl.1 rfl (lv_room (Nat.le_of_ble_eq_true rfl)) dX8_find_23 ⟨Nat.zero_le _, Nat.zero_le _⟩) hS (fun _ _ h => h) (fun _ h => h) (fun u t H locs ht _ hp hB _ _ hS => ?_)
          have hC : MW D κ b r1 H := MW_b hB ht hp
          refine lv_iconst (v := 0) hx hb dX8_find_26 (by decide) ?_
          refine lv_istore (lv' := [(4, .int 0), (0, .ref b), (1, .int x1), (2, .int x2), (3, .int x3)]) hx hb dX8_find_27 hl (by decide) rfl (fun ls hl => ?_)
          refine lv_iconst (v := 0) hx hb dX8_find_29 (by decide) ?_
          refine lv_istore (lv' := [(5, .int 0), (4, .int 0), (0, .ref b), (1, .int x1), (2, .int x2), (3, .int x3)]) hx hb dX8_find_30 hl (by decide) rfl (fun ls hl => ?_)
          exact w_X8_find_B32 ⟨hx, hb, hml, hown, hts, hK⟩ hret  sg_N h (lv_sub hl [2, 3, 4, 5, 1, 0] rfl) hC hS
        · replace h := (if_neg hc).symm.trans h
          refine lv_iconst (v := (-1)) hx hb dX8_find_20 (by decide) ?_
          exact hret _ _ _ _ _ _ h hC hS dX8_find_21
set_option maxHeartbeats 4000000 in
set_option maxRecDepth 100000 in
theorem c_X8_find (l : Launch) (D : va_G) (κ : Nat → ClassId) (b : Nat) (σ : Sg) (x1 : Int32) (x2 : Int32) (x3 : Int32) (rr : Int32 × Sg)  (h : fn_X8_find b σ x1 x2 x3 = some rr) : Met l yX8_find wsX8_find rm_X8_find (va_Pc [.ref b, .int x1, .int x2, .int x3] (fun U => KK D κ U ∧ MW D κ b σ U.heap)) (va_Qi (fun (r : Int32) (u : Sg) => r = rr.1 ∧ u = rr.2) (fun u t => MW D κ b u t.heap) (sg_A b 16)) 0 0 (sg_A b 16) := by
  refine Met.ofW (cc := cX8_find) (maxL := 9) (ret := (some .int)) (by decide) rfl ?_
  intro p e s m args below meth c s₁ B hml hv
  obtain ⟨rfl, hK, hC⟩ := hv
  have hr := B.returns
  have hlocks := B.notSynchronized
  have hl := lv_entry ([.ref b, .int x1, .int x2, .int x3]) (n := 9) (Nat.le_of_ble_eq_true rfl)
  rw [lg_entry_eq]
  generalize (lg_sl ([.ref b, .int x1, .int x2, .int x3]) ++ List.replicate (9 - (lg_sl ([.ref b, .int x1, .int x2, .int x3])).length) Slot.unset).toArray = ls at hl ⊢
  have hl : lv_has ls 9 [(0, .ref b), (1, .int x1), (2, .int x2), (3, .int x3)] := hl
  exact w_X8_find_B0 ⟨B.exec, B.bytes, hml, findClass_of_methodNamed B.named, atoms_spec (ws := wsX8_find) B.pre, hK⟩ (fun v u H locs pc ls hq hC hS hd => W.iret B.exec B.bytes hr (fun t ht hW => ⟨⟨v, _, rfl, ⟨congrArg Prod.fst (Option.some.inj hq), congrArg Prod.snd (Option.some.inj hq)⟩, MW_e ht hC⟩, hS.F ht⟩) hS.2.2 hd) h  hl hC va_S.rf
