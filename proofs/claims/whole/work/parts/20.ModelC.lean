-- RecordShelfModel.readSimple(III)V
theorem dX8_readSimple_0 : decode cX8_readSimple 0 = .ok (.aload_n 0, 1) := by decide +kernel
theorem dX8_readSimple_1 : decode cX8_readSimple 1 = .ok (.getfield 22, 3) := by decide +kernel
theorem dX8_readSimple_4 : decode cX8_readSimple 4 = .ok (.iload_n 1, 1) := by decide +kernel
theorem dX8_readSimple_5 : decode cX8_readSimple 5 = .ok (.iconst 0, 1) := by decide +kernel
theorem dX8_readSimple_6 : decode cX8_readSimple 6 = .ok (.iastore, 1) := by decide +kernel
theorem dX8_readSimple_7 : decode cX8_readSimple 7 = .ok (.aload_n 0, 1) := by decide +kernel
theorem dX8_readSimple_8 : decode cX8_readSimple 8 = .ok (.getfield 25, 3) := by decide +kernel
theorem dX8_readSimple_11 : decode cX8_readSimple 11 = .ok (.iload_n 1, 1) := by decide +kernel
theorem dX8_readSimple_12 : decode cX8_readSimple 12 = .ok (.iconst 0, 1) := by decide +kernel
theorem dX8_readSimple_13 : decode cX8_readSimple 13 = .ok (.iastore, 1) := by decide +kernel
theorem dX8_readSimple_14 : decode cX8_readSimple 14 = .ok (.aload_n 0, 1) := by decide +kernel
theorem dX8_readSimple_15 : decode cX8_readSimple 15 = .ok (.getfield 28, 3) := by decide +kernel
theorem dX8_readSimple_18 : decode cX8_readSimple 18 = .ok (.iload_n 1, 1) := by decide +kernel
theorem dX8_readSimple_19 : decode cX8_readSimple 19 = .ok (.iconst 0, 1) := by decide +kernel
theorem dX8_readSimple_20 : decode cX8_readSimple 20 = .ok (.iastore, 1) := by decide +kernel
theorem dX8_readSimple_21 : decode cX8_readSimple 21 = .ok (.aload_n 0, 1) := by decide +kernel
theorem dX8_readSimple_22 : decode cX8_readSimple 22 = .ok (.iload_n 1, 1) := by decide +kernel
theorem dX8_readSimple_23 : decode cX8_readSimple 23 = .ok (.iconst 0, 1) := by decide +kernel
theorem dX8_readSimple_24 : decode cX8_readSimple 24 = .ok (.invokevirtual 93, 3) := by decide +kernel
theorem dX8_readSimple_27 : decode cX8_readSimple 27 = .ok (.iload_n 2, 1) := by decide +kernel
theorem dX8_readSimple_28 : decode cX8_readSimple 28 = .ok (.istore 4, 2) := by decide +kernel
theorem dX8_readSimple_30 : decode cX8_readSimple 30 = .ok (.iload 4, 2) := by decide +kernel
theorem dX8_readSimple_32 : decode cX8_readSimple 32 = .ok (.iload_n 2, 1) := by decide +kernel
theorem dX8_readSimple_33 : decode cX8_readSimple 33 = .ok (.iload_n 3, 1) := by decide +kernel
theorem dX8_readSimple_34 : decode cX8_readSimple 34 = .ok (.iadd, 1) := by decide +kernel
theorem dX8_readSimple_35 : decode cX8_readSimple 35 = .ok (.if_icmp .ge 125, 3) := by decide +kernel
theorem dX8_readSimple_38 : decode cX8_readSimple 38 = .ok (.aload_n 0, 1) := by decide +kernel
theorem dX8_readSimple_39 : decode cX8_readSimple 39 = .ok (.getfield 72, 3) := by decide +kernel
theorem dX8_readSimple_42 : decode cX8_readSimple 42 = .ok (.ifCond .ne 118, 3) := by decide +kernel
theorem dX8_readSimple_45 : decode cX8_readSimple 45 = .ok (.iload 4, 2) := by decide +kernel
theorem dX8_readSimple_47 : decode cX8_readSimple 47 = .ok (.iload_n 2, 1) := by decide +kernel
theorem dX8_readSimple_48 : decode cX8_readSimple 48 = .ok (.iload_n 3, 1) := by decide +kernel
theorem dX8_readSimple_49 : decode cX8_readSimple 49 = .ok (.iadd, 1) := by decide +kernel
theorem dX8_readSimple_50 : decode cX8_readSimple 50 = .ok (.iconst 1, 1) := by decide +kernel
theorem dX8_readSimple_51 : decode cX8_readSimple 51 = .ok (.isub, 1) := by decide +kernel
theorem dX8_readSimple_52 : decode cX8_readSimple 52 = .ok (.if_icmp .ne 7, 3) := by decide +kernel
theorem dX8_readSimple_55 : decode cX8_readSimple 55 = .ok (.iconst 1, 1) := by decide +kernel
theorem dX8_readSimple_56 : decode cX8_readSimple 56 = .ok (.goto 4, 3) := by decide +kernel
theorem dX8_readSimple_59 : decode cX8_readSimple 59 = .ok (.iconst 0, 1) := by decide +kernel
theorem dX8_readSimple_60 : decode cX8_readSimple 60 = .ok (.istore 5, 2) := by decide +kernel
theorem dX8_readSimple_62 : decode cX8_readSimple 62 = .ok (.iload 5, 2) := by decide +kernel
theorem dX8_readSimple_64 : decode cX8_readSimple 64 = .ok (.ifCond .eq 18, 3) := by decide +kernel
theorem dX8_readSimple_67 : decode cX8_readSimple 67 = .ok (.aload_n 0, 1) := by decide +kernel
theorem dX8_readSimple_68 : decode cX8_readSimple 68 = .ok (.getfield 7, 3) := by decide +kernel
theorem dX8_readSimple_71 : decode cX8_readSimple 71 = .ok (.iload 4, 2) := by decide +kernel
theorem dX8_readSimple_73 : decode cX8_readSimple 73 = .ok (.iaload, 1) := by decide +kernel
theorem dX8_readSimple_74 : decode cX8_readSimple 74 = .ok (.bipush 30, 2) := by decide +kernel
theorem dX8_readSimple_76 : decode cX8_readSimple 76 = .ok (.if_icmp .eq 30, 3) := by decide +kernel
theorem dX8_readSimple_79 : decode cX8_readSimple 79 = .ok (.goto 16, 3) := by decide +kernel
theorem dX8_readSimple_82 : decode cX8_readSimple 82 = .ok (.aload_n 0, 1) := by decide +kernel
theorem dX8_readSimple_83 : decode cX8_readSimple 83 = .ok (.getfield 7, 3) := by decide +kernel
theorem dX8_readSimple_86 : decode cX8_readSimple 86 = .ok (.iload 4, 2) := by decide +kernel
theorem dX8_readSimple_88 : decode cX8_readSimple 88 = .ok (.iaload, 1) := by decide +kernel
theorem dX8_readSimple_89 : decode cX8_readSimple 89 = .ok (.invokestatic 79, 3) := by decide +kernel
theorem dX8_readSimple_92 : decode cX8_readSimple 92 = .ok (.ifCond .ne 14, 3) := by decide +kernel
theorem dX8_readSimple_95 : decode cX8_readSimple 95 = .ok (.aload_n 0, 1) := by decide +kernel
theorem dX8_readSimple_96 : decode cX8_readSimple 96 = .ok (.bipush (-6), 2) := by decide +kernel
theorem dX8_readSimple_98 : decode cX8_readSimple 98 = .ok (.iload 4, 2) := by decide +kernel
theorem dX8_readSimple_100 : decode cX8_readSimple 100 = .ok (.invokevirtual 82, 3) := by decide +kernel
theorem dX8_readSimple_103 : decode cX8_readSimple 103 = .ok (.goto 51, 3) := by decide +kernel
theorem dX8_readSimple_106 : decode cX8_readSimple 106 = .ok (.iload 5, 2) := by decide +kernel
theorem dX8_readSimple_108 : decode cX8_readSimple 108 = .ok (.ifCond .ne 27, 3) := by decide +kernel
theorem dX8_readSimple_111 : decode cX8_readSimple 111 = .ok (.aload_n 0, 1) := by decide +kernel
theorem dX8_readSimple_112 : decode cX8_readSimple 112 = .ok (.getfield 34, 3) := by decide +kernel
theorem dX8_readSimple_115 : decode cX8_readSimple 115 = .ok (.iconst 4, 1) := by decide +kernel
theorem dX8_readSimple_116 : decode cX8_readSimple 116 = .ok (.iload_n 1, 1) := by decide +kernel
theorem dX8_readSimple_117 : decode cX8_readSimple 117 = .ok (.imul, 1) := by decide +kernel
theorem dX8_readSimple_118 : decode cX8_readSimple 118 = .ok (.iaload, 1) := by decide +kernel
theorem dX8_readSimple_119 : decode cX8_readSimple 119 = .ok (.bipush 20, 2) := by decide +kernel
theorem dX8_readSimple_121 : decode cX8_readSimple 121 = .ok (.if_icmp .ne 14, 3) := by decide +kernel
theorem dX8_readSimple_124 : decode cX8_readSimple 124 = .ok (.aload_n 0, 1) := by decide +kernel
theorem dX8_readSimple_125 : decode cX8_readSimple 125 = .ok (.bipush (-2), 2) := by decide +kernel
theorem dX8_readSimple_127 : decode cX8_readSimple 127 = .ok (.iload 4, 2) := by decide +kernel
theorem dX8_readSimple_129 : decode cX8_readSimple 129 = .ok (.invokevirtual 82, 3) := by decide +kernel
theorem dX8_readSimple_132 : decode cX8_readSimple 132 = .ok (.goto 22, 3) := by decide +kernel
theorem dX8_readSimple_135 : decode cX8_readSimple 135 = .ok (.iload 5, 2) := by decide +kernel
theorem dX8_readSimple_137 : decode cX8_readSimple 137 = .ok (.ifCond .ne 17, 3) := by decide +kernel
theorem dX8_readSimple_140 : decode cX8_readSimple 140 = .ok (.aload_n 0, 1) := by decide +kernel
theorem dX8_readSimple_141 : decode cX8_readSimple 141 = .ok (.iconst 4, 1) := by decide +kernel
theorem dX8_readSimple_142 : decode cX8_readSimple 142 = .ok (.iload_n 1, 1) := by decide +kernel
theorem dX8_readSimple_143 : decode cX8_readSimple 143 = .ok (.imul, 1) := by decide +kernel
theorem dX8_readSimple_144 : decode cX8_readSimple 144 = .ok (.aload_n 0, 1) := by decide +kernel
theorem dX8_readSimple_145 : decode cX8_readSimple 145 = .ok (.getfield 7, 3) := by decide +kernel
theorem dX8_readSimple_148 : decode cX8_readSimple 148 = .ok (.iload 4, 2) := by decide +kernel
theorem dX8_readSimple_150 : decode cX8_readSimple 150 = .ok (.iaload, 1) := by decide +kernel
theorem dX8_readSimple_151 : decode cX8_readSimple 151 = .ok (.invokevirtual 96, 3) := by decide +kernel
theorem dX8_readSimple_154 : decode cX8_readSimple 154 = .ok (.iinc 4 1, 3) := by decide +kernel
theorem dX8_readSimple_157 : decode cX8_readSimple 157 = .ok (.goto (-127), 3) := by decide +kernel
theorem dX8_readSimple_160 : decode cX8_readSimple 160 = .ok (.return_, 1) := by decide +kernel
def rm_X8_readSimple : Room := { frames := 1, cells := 0, slots := 0, locals := 23 }
def fn_X8_readSimple_B154 (b : Nat) (z30 : Sg → Int32 → Int32 → Int32 → Int32 → Option (Sg)) (σ : Sg) (x1 : Int32) (x2 : Int32) (x3 : Int32) (x4 : Int32) : Option (Sg) :=
  (sg_lt (x4 + 1 : Int32) fun v1 =>
  z30 σ x1 x2 x3 v1)
set_option maxHeartbeats 4000000 in
set_option maxRecDepth 100000 in
theorem w_X8_readSimple_B154 {p : Program} {l : Launch} {e : Env} {s : State} {m : MethodId} {args : Array Value} {below : List Frame} {meth : Method} {c : Code} {Q : State → Prop} {D : va_G} {κ : Nat → ClassId} {b : Nat} {H0 : Heap} {rr : Sg} (hZ : sg_Z p c s m args D κ cX8_readSimple 6 RX8 wsX8_readSimple) (hret : ∀ (u : Sg) (H : Heap) (locs : List Loc) (pc : Nat) (ls : Array Slot), some u = some rr → MW D κ b u H → va_S (sg_A b 16) H0 H locs → decode cX8_readSimple pc = .ok (.return_, 1) → W p l e rm_X8_readSimple s m args below meth c H locs 0 0 Q (F0 m pc ls [])) {z30 : Sg → Int32 → Int32 → Int32 → Int32 → Option (Sg)} (hr30 : ∀ {σ : Sg} {x1 : Int32} {x2 : Int32} {x3 : Int32} {x4 : Int32} {H : Heap} {locs : List Loc} {ls : Array Slot}, z30 σ x1 x2 x3 x4 = some rr → lv_has ls 6 [(0, .ref b), (1, .int x1), (2, .int x2), (3, .int x3), (4, .int x4)] → MW D κ b σ H → va_S (sg_A b 16) H0 H locs → W p l e rm_X8_readSimple s m args below meth c H locs 0 0 Q (F0 m 30 ls [])) : ∀ {σ : Sg} {x1 : Int32} {x2 : Int32} {x3 : Int32} {x4 : Int32} {H : Heap} {locs : List Loc} {ls : Array Slot}, fn_X8_readSimple_B154 b z30 σ x1 x2 x3 x4 = some rr → lv_has ls 6 [(0, .ref b), (1, .int x1), (2, .int x2), (3, .int x3), (4, .int x4)] → MW D κ b σ H → va_S (sg_A b 16) H0 H locs → W p l e rm_X8_readSimple s m args below meth c H locs 0 0 Q (F0 m 154 ls []) := by
  obtain ⟨hx, hb, hml, hown, hts, hK⟩ := hZ
  intro σ x1 x2 x3 x4 H locs ls h hl hC hS
  unfold fn_X8_readSimple_B154 at h
  obtain ⟨v1, ev1, h⟩ := sg_lte h
  refine lv_iinc (v := v1) (lv' := [(4, .int v1), (0, .ref b), (1, .int x1), (2, .int x2), (3, .int x3)]) (k := 4) hx hb dX8_readSimple_154 hl rfl (sg_inc (by decide) ev1) (by decide) rfl (fun ls hl => ?_)
  refine lv_goto (tgt := 30) hx hb dX8_readSimple_157 (by decide) ?_
  exact hr30 h (lv_sub hl [1, 2, 3, 4, 0] rfl) hC hS
def fn_X8_readSimple_B135 (b : Nat) (z30 : Sg → Int32 → Int32 → Int32 → Int32 → Option (Sg)) (σ : Sg) (x1 : Int32) (x2 : Int32) (x3 : Int32) (x4 : Int32) (x5 : Int32) : Option (Sg) :=
  (if x5 = 0 then
  (if sg_ib x4 600 then
  ((fn_X8_say b σ (4 * x1) (σ.1 (b + 1) (sg_x x4))).bind fun r1 =>
  fn_X8_readSimple_B154 b z30 r1 x1 x2 x3 x4)
  else none)
  else fn_X8_readSimple_B154 b z30 σ x1 x2 x3 x4)
set_option maxHeartbeats 4000000 in
set_option maxRecDepth 100000 in
theorem w_X8_readSimple_B135 {p : Program} {l : Launch} {e : Env} {s : State} {m : MethodId} {args : Array Value} {below : List Frame} {meth : Method} {c : Code} {Q : State → Prop} {D : va_G} {κ : Nat → ClassId} {b : Nat} {H0 : Heap} {rr : Sg} (hZ : sg_Z p c s m args D κ cX8_readSimple 6 RX8 wsX8_readSimple) (hret : ∀ (u : Sg) (H : Heap) (locs : List Loc) (pc : Nat) (ls : Array Slot), some u = some rr → MW D κ b u H → va_S (sg_A b 16) H0 H locs → decode cX8_readSimple pc = .ok (.return_, 1) → W p l e rm_X8_readSimple s m args below meth c H locs 0 0 Q (F0 m pc ls [])) {z30 : Sg → Int32 → Int32 → Int32 → Int32 → Option (Sg)} (hr30 : ∀ {σ : Sg} {x1 : Int32} {x2 : Int32} {x3 : Int32} {x4 : Int32} {H : Heap} {locs : List Loc} {ls : Array Slot}, z30 σ x1 x2 x3 x4 = some rr → lv_has ls 6 [(0, .ref b), (1, .int x1), (2, .int x2), (3, .int x3), (4, .int x4)] → MW D κ b σ H → va_S (sg_A b 16) H0 H locs → W p l e rm_X8_readSimple s m args below meth c H locs 0 0 Q (F0 m 30 ls [])) : ∀ {σ : Sg} {x1 : Int32} {x2 : Int32} {x3 : Int32} {x4 : Int32} {x5 : Int32} {H : Heap} {locs : List Loc} {ls : Array Slot}, fn_X8_readSimple_B135 b z30 σ x1 x2 x3 x4 x5 = some rr → lv_has ls 6 [(0, .ref b), (1, .int x1), (2, .int x2), (3, .int x3), (4, .int x4), (5, .int x5)] → MW D κ b σ H → va_S (sg_A b 16) H0 H locs → W p l e rm_X8_readSimple s m args below meth c H locs 0 0 Q (F0 m 135 ls []) := by
  obtain ⟨hx, hb, hml, hown, hts, hK⟩ := hZ
  intro σ x1 x2 x3 x4 x5 H locs ls h hl hC hS
  unfold fn_X8_readSimple_B135 at h
  refine lv_iload hx hb dX8_readSimple_135 (lv_at hl 5 rfl) ?_
  refine lv_if_ne (tgt := 154) hx hb dX8_readSimple_137 (by decide) (fun hc => ?_) (fun hc => ?_)
  · replace h := (if_neg hc).symm.trans h
    exact w_X8_readSimple_B154 ⟨hx, hb, hml, hown, hts, hK⟩ hret hr30 h (lv_sub hl [0, 1, 2, 3, 4] rfl) hC hS
  · replace h := (if_pos hc).symm.trans h
    refine lv_aload_n hx hb dX8_readSimple_140 rfl (lv_at hl 0 rfl) ?_
    refine lv_iconst (v := 4) hx hb dX8_readSimple_141 (by decide) ?_
    refine lv_iload_n hx hb dX8_readSimple_142 rfl (lv_at hl 1 rfl) ?_
    refine lv_imul hx hb dX8_readSimple_143 ?_
    refine lv_aload_n hx hb dX8_readSimple_144 rfl (lv_at hl 0 rfl) ?_
    refine va_get (D := D) (ci := 8) (v := .ref (b + 1)) (C := RX8) (T := TX8) (N := 21) hx hb hts (wqs inW_X8) hown hK.1 hC.1 (b - b) sg_gModel rfl 0 (by decide) (hts _ (wq wt_648)) (fun _ h9 => h9) rfl dX8_readSimple_145 ?_
    refine lv_iload hx hb dX8_readSimple_148 (lv_at hl 4 rfl) ?_
    obtain ⟨hg, h⟩ := sg_gd h
    refine va_iald hx hb hK.1 hC.1 ((b + 1) - b) 0 sg_ga_text rfl (sg_in hg) dX8_readSimple_150 ?_
    obtain ⟨r1, er1, h⟩ := Option.bind_eq_some_iff.mp h
    refine va_callv (va_runV (As := [.int (4 * x1), .int (σ.1 (b + 1) (sg_x x4))]) (rest := []) ⟨hx, hb, hml, hown, hts⟩ (c_X8_say l D κ b σ (4 * x1) (σ.1 (b + 1) (sg_x x4)) _ er1) (cwV 2 hts (gwV wt_770 wt_772 wp_38 wt_9 wt_773) rfl rfl rfl (by decide +kernel) ⟨Nat.le_of_ble_eq_true rfl, Nat.le_of_ble_eq_true rfl⟩) (MW_preV hK hC sg_gModel rfl) rfl rfl hl.1 rfl (lv_room (Nat.le_of_ble_eq_true rfl)) dX8_readSimple_151 ⟨Nat.zero_le _, Nat.zero_le _⟩) hS (fun _ _ h => h) (fun _ h => h) (fun u t H locs ht _ hp hB _ _ hS => ?_)
    have hC : MW D κ b r1 H := MW_b hB ht hp
    exact w_X8_readSimple_B154 ⟨hx, hb, hml, hown, hts, hK⟩ hret hr30 h (lv_sub hl [0, 1, 2, 3, 4] rfl) hC hS
def fn_X8_readSimple_B106 (b : Nat) (z30 : Sg → Int32 → Int32 → Int32 → Int32 → Option (Sg)) (σ : Sg) (x1 : Int32) (x2 : Int32) (x3 : Int32) (x4 : Int32) (x5 : Int32) : Option (Sg) :=
  (if x5 = 0 then
  (if sg_ib (4 * x1) 192 then
  (if (σ.1 (b + 9) (sg_x (4 * x1))) = 20 then
  ((fn_X8_fail b σ (-2) x4).bind fun r1 =>
  fn_X8_readSimple_B154 b z30 r1 x1 x2 x3 x4)
  else fn_X8_readSimple_B135 b z30 σ x1 x2 x3 x4 x5)
  else none)
  else fn_X8_readSimple_B135 b z30 σ x1 x2 x3 x4 x5)
set_option maxHeartbeats 4000000 in
set_option maxRecDepth 100000 in
theorem w_X8_readSimple_B106 {p : Program} {l : Launch} {e : Env} {s : State} {m : MethodId} {args : Array Value} {below : List Frame} {meth : Method} {c : Code} {Q : State → Prop} {D : va_G} {κ : Nat → ClassId} {b : Nat} {H0 : Heap} {rr : Sg} (hZ : sg_Z p c s m args D κ cX8_readSimple 6 RX8 wsX8_readSimple) (hret : ∀ (u : Sg) (H : Heap) (locs : List Loc) (pc : Nat) (ls : Array Slot), some u = some rr → MW D κ b u H → va_S (sg_A b 16) H0 H locs → decode cX8_readSimple pc = .ok (.return_, 1) → W p l e rm_X8_readSimple s m args below meth c H locs 0 0 Q (F0 m pc ls [])) {z30 : Sg → Int32 → Int32 → Int32 → Int32 → Option (Sg)} (hr30 : ∀ {σ : Sg} {x1 : Int32} {x2 : Int32} {x3 : Int32} {x4 : Int32} {H : Heap} {locs : List Loc} {ls : Array Slot}, z30 σ x1 x2 x3 x4 = some rr → lv_has ls 6 [(0, .ref b), (1, .int x1), (2, .int x2), (3, .int x3), (4, .int x4)] → MW D κ b σ H → va_S (sg_A b 16) H0 H locs → W p l e rm_X8_readSimple s m args below meth c H locs 0 0 Q (F0 m 30 ls [])) : ∀ {σ : Sg} {x1 : Int32} {x2 : Int32} {x3 : Int32} {x4 : Int32} {x5 : Int32} {H : Heap} {locs : List Loc} {ls : Array Slot}, fn_X8_readSimple_B106 b z30 σ x1 x2 x3 x4 x5 = some rr → lv_has ls 6 [(0, .ref b), (1, .int x1), (2, .int x2), (3, .int x3), (4, .int x4), (5, .int x5)] → MW D κ b σ H → va_S (sg_A b 16) H0 H locs → W p l e rm_X8_readSimple s m args below meth c H locs 0 0 Q (F0 m 106 ls []) := by
  obtain ⟨hx, hb, hml, hown, hts, hK⟩ := hZ
  intro σ x1 x2 x3 x4 x5 H locs ls h hl hC hS
  unfold fn_X8_readSimple_B106 at h
  refine lv_iload hx hb dX8_readSimple_106 (lv_at hl 5 rfl) ?_
  refine lv_if_ne (tgt := 135) hx hb dX8_readSimple_108 (by decide) (fun hc => ?_) (fun hc => ?_)
  · replace h := (if_neg hc).symm.trans h
    exact w_X8_readSimple_B135 ⟨hx, hb, hml, hown, hts, hK⟩ hret hr30 h (lv_sub hl [0, 1, 2, 3, 4, 5] rfl) hC hS
  · replace h := (if_pos hc).symm.trans h
    refine lv_aload_n hx hb dX8_readSimple_111 rfl (lv_at hl 0 rfl) ?_
    refine va_get (D := D) (ci := 8) (v := .ref (b + 9)) (C := RX8) (T := TX8) (N := 21) hx hb hts (wqs inW_X8) hown hK.1 hC.1 (b - b) sg_gModel rfl 10 (by decide) (hts _ (wq wt_658)) (fun _ h9 => h9) rfl dX8_readSimple_112 ?_
    refine lv_iconst (v := 4) hx hb dX8_readSimple_115 (by decide) ?_
    refine lv_iload_n hx hb dX8_readSimple_116 rfl (lv_at hl 1 rfl) ?_
    refine lv_imul hx hb dX8_readSimple_117 ?_
    obtain ⟨hg, h⟩ := sg_gd h
    refine va_iald hx hb hK.1 hC.1 ((b + 9) - b) 0 sg_ga_sizes rfl (sg_in hg) dX8_readSimple_118 ?_
    refine lv_bipush (v := 20) hx hb dX8_readSimple_119 (by decide) ?_
    refine lv_icmp_ne (tgt := 135) hx hb dX8_readSimple_121 (by decide) (fun hc => ?_) (fun hc => ?_)
    · replace h := (if_neg hc).symm.trans h
      exact w_X8_readSimple_B135 ⟨hx, hb, hml, hown, hts, hK⟩ hret hr30 h (lv_sub hl [0, 1, 2, 3, 4, 5] rfl) hC hS
    · replace h := (if_pos hc).symm.trans h
      refine lv_aload_n hx hb dX8_readSimple_124 rfl (lv_at hl 0 rfl) ?_
      refine lv_bipush (v := (-2)) hx hb dX8_readSimple_125 (by decide) ?_
      refine lv_iload hx hb dX8_readSimple_127 (lv_at hl 4 rfl) ?_
      obtain ⟨r1, er1, h⟩ := Option.bind_eq_some_iff.mp h
      refine va_callv (va_runV (As := [.int (-2), .int x4]) (rest := []) ⟨hx, hb, hml, hown, hts⟩ (c_X8_fail l D κ b σ (-2) x4 _ er1) (cwV 2 hts (gwV wt_737 wt_739 wp_32 wt_9 wt_740) rfl rfl rfl (by decide +kernel) ⟨Nat.le_of_ble_eq_true rfl, Nat.le_of_ble_eq_true rfl⟩) (MW_preV hK hC sg_gModel rfl) rfl rfl hl.1 rfl (lv_room (Nat.le_of_ble_eq_true rfl)) dX8_readSimple_129 ⟨Nat.zero_le _, Nat.zero_le _⟩) hS (fun _ _ h => h) (fun _ h => h) (fun u t H locs ht _ hp hB _ _ hS => ?_)
      have hC : MW D κ b r1 H := MW_b hB ht hp
      refine lv_goto (tgt := 154) hx hb dX8_readSimple_132 (by decide) ?_
      exact w_X8_readSimple_B154 ⟨hx, hb, hml, hown, hts, hK⟩ hret hr30 h (lv_sub hl [0, 1, 2, 3, 4] rfl) hC hS
def fn_X8_readSimple_B95 (b : Nat) (z30 : Sg → Int32 → Int32 → Int32 → Int32 → Option (Sg)) (σ : Sg) (x1 : Int32) (x2 : Int32) (x3 : Int32) (x4 : Int32) : Option (Sg) :=
  ((fn_X8_fail b σ (-6) x4).bind fun r1 =>
  fn_X8_readSimple_B154 b z30 r1 x1 x2 x3 x4)
set_option maxHeartbeats 4000000 in
set_option maxRecDepth 100000 in
theorem w_X8_readSimple_B95 {p : Program} {l : Launch} {e : Env} {s : State} {m : MethodId} {args : Array Value} {below : List Frame} {meth : Method} {c : Code} {Q : State → Prop} {D : va_G} {κ : Nat → ClassId} {b : Nat} {H0 : Heap} {rr : Sg} (hZ : sg_Z p c s m args D κ cX8_readSimple 6 RX8 wsX8_readSimple) (hret : ∀ (u : Sg) (H : Heap) (locs : List Loc) (pc : Nat) (ls : Array Slot), some u = some rr → MW D κ b u H → va_S (sg_A b 16) H0 H locs → decode cX8_readSimple pc = .ok (.return_, 1) → W p l e rm_X8_readSimple s m args below meth c H locs 0 0 Q (F0 m pc ls [])) {z30 : Sg → Int32 → Int32 → Int32 → Int32 → Option (Sg)} (hr30 : ∀ {σ : Sg} {x1 : Int32} {x2 : Int32} {x3 : Int32} {x4 : Int32} {H : Heap} {locs : List Loc} {ls : Array Slot}, z30 σ x1 x2 x3 x4 = some rr → lv_has ls 6 [(0, .ref b), (1, .int x1), (2, .int x2), (3, .int x3), (4, .int x4)] → MW D κ b σ H → va_S (sg_A b 16) H0 H locs → W p l e rm_X8_readSimple s m args below meth c H locs 0 0 Q (F0 m 30 ls [])) : ∀ {σ : Sg} {x1 : Int32} {x2 : Int32} {x3 : Int32} {x4 : Int32} {H : Heap} {locs : List Loc} {ls : Array Slot}, fn_X8_readSimple_B95 b z30 σ x1 x2 x3 x4 = some rr → lv_has ls 6 [(0, .ref b), (1, .int x1), (2, .int x2), (3, .int x3), (4, .int x4)] → MW D κ b σ H → va_S (sg_A b 16) H0 H locs → W p l e rm_X8_readSimple s m args below meth c H locs 0 0 Q (F0 m 95 ls []) := by
  obtain ⟨hx, hb, hml, hown, hts, hK⟩ := hZ
  intro σ x1 x2 x3 x4 H locs ls h hl hC hS
  unfold fn_X8_readSimple_B95 at h
  refine lv_aload_n hx hb dX8_readSimple_95 rfl (lv_at hl 0 rfl) ?_
  refine lv_bipush (v := (-6)) hx hb dX8_readSimple_96 (by decide) ?_
  refine lv_iload hx hb dX8_readSimple_98 (lv_at hl 4 rfl) ?_
  obtain ⟨r1, er1, h⟩ := Option.bind_eq_some_iff.mp h
  refine va_callv (va_runV (As := [.int (-6), .int x4]) (rest := []) ⟨hx, hb, hml, hown, hts⟩ (c_X8_fail l D κ b σ (-6) x4 _ er1) (cwV 2 hts (gwV wt_737 wt_739 wp_32 wt_9 wt_740) rfl rfl rfl (by decide +kernel) ⟨Nat.le_of_ble_eq_true rfl, Nat.le_of_ble_eq_true rfl⟩) (MW_preV hK hC sg_gModel rfl) rfl rfl hl.1 rfl (lv_room (Nat.le_of_ble_eq_true rfl)) dX8_readSimple_100 ⟨Nat.zero_le _, Nat.zero_le _⟩) hS (fun _ _ h => h) (fun _ h => h) (fun u t H locs ht _ hp hB _ _ hS => ?_)
  have hC : MW D κ b r1 H := MW_b hB ht hp
  refine lv_goto (tgt := 154) hx hb dX8_readSimple_103 (by decide) ?_
  exact w_X8_readSimple_B154 ⟨hx, hb, hml, hown, hts, hK⟩ hret hr30 h (lv_sub hl [0, 1, 2, 3, 4] rfl) hC hS
def fn_X8_readSimple_B60 (b : Nat) (z30 : Sg → Int32 → Int32 → Int32 → Int32 → Option (Sg)) (σ : Sg) (x1 : Int32) (x2 : Int32) (x3 : Int32) (x4 : Int32) (y0 : Int32) : Option (Sg) :=
  (if y0 = 0 then
  (if sg_ib x4 600 then
  ((fn_X8_isPlain (σ.1 (b + 1) (sg_x x4))).bind fun r1 =>
  (if r1 = 0 then
  fn_X8_readSimple_B95 b z30 σ x1 x2 x3 x4
  else fn_X8_readSimple_B106 b z30 σ x1 x2 x3 x4 y0))
  else none)
  else (if sg_ib x4 600 then
  (if (σ.1 (b + 1) (sg_x x4)) = 30 then
  fn_X8_readSimple_B106 b z30 σ x1 x2 x3 x4 y0
  else fn_X8_readSimple_B95 b z30 σ x1 x2 x3 x4)
  else none))
set_option maxHeartbeats 4000000 in
set_option maxRecDepth 100000 in
theorem w_X8_readSimple_B60 {p : Program} {l : Launch} {e : Env} {s : State} {m : MethodId} {args : Array Value} {below : List Frame} {meth : Method} {c : Code} {Q : State → Prop} {D : va_G} {κ : Nat → ClassId} {b : Nat} {H0 : Heap} {rr : Sg} (hZ : sg_Z p c s m args D κ cX8_readSimple 6 RX8 wsX8_readSimple) (hret : ∀ (u : Sg) (H : Heap) (locs : List Loc) (pc : Nat) (ls : Array Slot), some u = some rr → MW D κ b u H → va_S (sg_A b 16) H0 H locs → decode cX8_readSimple pc = .ok (.return_, 1) → W p l e rm_X8_readSimple s m args below meth c H locs 0 0 Q (F0 m pc ls [])) {z30 : Sg → Int32 → Int32 → Int32 → Int32 → Option (Sg)} (hr30 : ∀ {σ : Sg} {x1 : Int32} {x2 : Int32} {x3 : Int32} {x4 : Int32} {H : Heap} {locs : List Loc} {ls : Array Slot}, z30 σ x1 x2 x3 x4 = some rr → lv_has ls 6 [(0, .ref b), (1, .int x1), (2, .int x2), (3, .int x3), (4, .int x4)] → MW D κ b σ H → va_S (sg_A b 16) H0 H locs → W p l e rm_X8_readSimple s m args below meth c H locs 0 0 Q (F0 m 30 ls [])) : ∀ {σ : Sg} {x1 : Int32} {x2 : Int32} {x3 : Int32} {x4 : Int32} {y0 : Int32} {H : Heap} {locs : List Loc} {ls : Array Slot}, fn_X8_readSimple_B60 b z30 σ x1 x2 x3 x4 y0 = some rr → lv_has ls 6 [(0, .ref b), (1, .int x1), (2, .int x2), (3, .int x3), (4, .int x4)] → MW D κ b σ H → va_S (sg_A b 16) H0 H locs → W p l e rm_X8_readSimple s m args below meth c H locs 0 0 Q (F0 m 60 ls [.int y0]) := by
  obtain ⟨hx, hb, hml, hown, hts, hK⟩ := hZ
  intro σ x1 x2 x3 x4 y0 H locs ls h hl hC hS
  unfold fn_X8_readSimple_B60 at h
  refine lv_istore (lv' := [(5, .int y0), (0, .ref b), (1, .int x1), (2, .int x2), (3, .int x3), (4, .int x4)]) hx hb dX8_readSimple_60 hl (by decide) rfl (fun ls hl => ?_)
  refine lv_iload hx hb dX8_readSimple_62 (lv_at hl 0 rfl) ?_
  refine lv_if_eq (tgt := 82) hx hb dX8_readSimple_64 (by decide) (fun hc => ?_) (fun hc => ?_)
  · replace h := (if_pos hc).symm.trans h
    refine lv_aload_n hx hb dX8_readSimple_82 rfl (lv_at hl 1 rfl) ?_
    refine va_get (D := D) (ci := 8) (v := .ref (b + 1)) (C := RX8) (T := TX8) (N := 21) hx hb hts (wqs inW_X8) hown hK.1 hC.1 (b - b) sg_gModel rfl 0 (by decide) (hts _ (wq wt_648)) (fun _ h9 => h9) rfl dX8_readSimple_83 ?_
    refine lv_iload hx hb dX8_readSimple_86 (lv_at hl 5 rfl) ?_
    obtain ⟨hg, h⟩ := sg_gd h
    refine va_iald hx hb hK.1 hC.1 ((b + 1) - b) 0 sg_ga_text rfl (sg_in hg) dX8_readSimple_88 ?_
    obtain ⟨r1, er1, h⟩ := Option.bind_eq_some_iff.mp h
    refine va_calli (va_runS (As := [.int (σ.1 (b + 1) (sg_x x4))]) (rest := []) ⟨hx, hb, hml, hown, hts⟩ (c_X8_isPlain l D κ b σ (σ.1 (b + 1) (sg_x x4)) _ er1) (va_cwS 1 hts (gwS wt_748 wt_749 wt_9 wt_750) rfl rfl rfl (by decide +kernel) ⟨Nat.le_of_ble_eq_true rfl, Nat.le_of_ble_eq_true rfl⟩) (MW_preS hK hC) rfl rfl hl.1 rfl (lv_room (Nat.le_of_ble_eq_true rfl)) dX8_readSimple_89 ⟨Nat.zero_le _, Nat.zero_le _⟩) hS (fun _ _ h => h) (fun _ h => h) (fun r u t H locs ht _ hp hB _ _ hS => ?_)
    refine sg_topi hp.1 ?_
    have hC : MW D κ b σ H := MW_b hB ht hp.2
    refine lv_if_ne (tgt := 106) hx hb dX8_readSimple_92 (by decide) (fun hc => ?_) (fun hc => ?_)
    · replace h := (if_neg hc).symm.trans h
      exact w_X8_readSimple_B106 ⟨hx, hb, hml, hown, hts, hK⟩ hret hr30 h (lv_sub hl [1, 2, 3, 4, 5, 0] rfl) hC hS
    · replace h := (if_pos hc).symm.trans h
      exact w_X8_readSimple_B95 ⟨hx, hb, hml, hown, hts, hK⟩ hret hr30 h (lv_sub hl [1, 2, 3, 4, 5] rfl) hC hS
  · replace h := (if_neg hc).symm.trans h
    refine lv_aload_n hx hb dX8_readSimple_67 rfl (lv_at hl 1 rfl) ?_
    refine va_get (D := D) (ci := 8) (v := .ref (b + 1)) (C := RX8) (T := TX8) (N := 21) hx hb hts (wqs inW_X8) hown hK.1 hC.1 (b - b) sg_gModel rfl 0 (by decide) (hts _ (wq wt_648)) (fun _ h9 => h9) rfl dX8_readSimple_68 ?_
    refine lv_iload hx hb dX8_readSimple_71 (lv_at hl 5 rfl) ?_
    obtain ⟨hg, h⟩ := sg_gd h
    refine va_iald hx hb hK.1 hC.1 ((b + 1) - b) 0 sg_ga_text rfl (sg_in hg) dX8_readSimple_73 ?_
    refine lv_bipush (v := 30) hx hb dX8_readSimple_74 (by decide) ?_
    refine lv_icmp_eq (tgt := 106) hx hb dX8_readSimple_76 (by decide) (fun hc => ?_) (fun hc => ?_)
    · replace h := (if_pos hc).symm.trans h
      exact w_X8_readSimple_B106 ⟨hx, hb, hml, hown, hts, hK⟩ hret hr30 h (lv_sub hl [1, 2, 3, 4, 5, 0] rfl) hC hS
    · replace h := (if_neg hc).symm.trans h
      refine lv_goto (tgt := 95) hx hb dX8_readSimple_79 (by decide) ?_
      exact w_X8_readSimple_B95 ⟨hx, hb, hml, hown, hts, hK⟩ hret hr30 h (lv_sub hl [1, 2, 3, 4, 5] rfl) hC hS
def fn_X8_readSimple_B30b (b : Nat) (z30 : Sg → Int32 → Int32 → Int32 → Int32 → Option (Sg)) (σ : Sg) (x1 : Int32) (x2 : Int32) (x3 : Int32) (x4 : Int32) : Option (Sg) :=
  (if ((x2 + x3) : Int32) ≤ x4 then
  some σ
  else (if (σ.1 b 12) = 0 then
  (if x4 = ((x2 + x3) - 1) then
  fn_X8_readSimple_B60 b z30 σ x1 x2 x3 x4 1
  else fn_X8_readSimple_B60 b z30 σ x1 x2 x3 x4 0)
  else some σ))
def fn_X8_readSimple_B30 (b : Nat) : Nat → Sg → Int32 → Int32 → Int32 → Int32 → Option (Sg)
  | 0 => fun _ _ _ _ _ => none
  | n + 1 => fun σ x1 x2 x3 x4 => fn_X8_readSimple_B30b b (fn_X8_readSimple_B30 b n) σ x1 x2 x3 x4
set_option maxHeartbeats 4000000 in
set_option maxRecDepth 100000 in
theorem w_X8_readSimple_B30b {p : Program} {l : Launch} {e : Env} {s : State} {m : MethodId} {args : Array Value} {below : List Frame} {meth : Method} {c : Code} {Q : State → Prop} {D : va_G} {κ : Nat → ClassId} {b : Nat} {H0 : Heap} {rr : Sg} (hZ : sg_Z p c s m args D κ cX8_readSimple 6 RX8 wsX8_readSimple) (hret : ∀ (u : Sg) (H : Heap) (locs : List Loc) (pc : Nat) (ls : Array Slot), some u = some rr → MW D κ b u H → va_S (sg_A b 16) H0 H locs → decode cX8_readSimple pc = .ok (.return_, 1) → W p l e rm_X8_readSimple s m args below meth c H locs 0 0 Q (F0 m pc ls [])) {z30 : Sg → Int32 → Int32 → Int32 → Int32 → Option (Sg)} (hr30 : ∀ {σ : Sg} {x1 : Int32} {x2 : Int32} {x3 : Int32} {x4 : Int32} {H : Heap} {locs : List Loc} {ls : Array Slot}, z30 σ x1 x2 x3 x4 = some rr → lv_has ls 6 [(0, .ref b), (1, .int x1), (2, .int x2), (3, .int x3), (4, .int x4)] → MW D κ b σ H → va_S (sg_A b 16) H0 H locs → W p l e rm_X8_readSimple s m args below meth c H locs 0 0 Q (F0 m 30 ls [])) : ∀ {σ : Sg} {x1 : Int32} {x2 : Int32} {x3 : Int32} {x4 : Int32} {H : Heap} {locs : List Loc} {ls : Array Slot}, fn_X8_readSimple_B30b b z30 σ x1 x2 x3 x4 = some rr → lv_has ls 6 [(0, .ref b), (1, .int x1), (2, .int x2), (3, .int x3), (4, .int x4)] → MW D κ b σ H → va_S (sg_A b 16) H0 H locs → W p l e rm_X8_readSimple s m args below meth c H locs 0 0 Q (F0 m 30 ls []) := by
  obtain ⟨hx, hb, hml, hown, hts, hK⟩ := hZ
  intro σ x1 x2 x3 x4 H locs ls h hl hC hS
  unfold fn_X8_readSimple_B30b at h
  refine lv_iload hx hb dX8_readSimple_30 (lv_at hl 4 rfl) ?_
  refine lv_iload_n hx hb dX8_readSimple_32 rfl (lv_at hl 2 rfl) ?_
  refine lv_iload_n hx hb dX8_readSimple_33 rfl (lv_at hl 3 rfl) ?_
  refine lv_iadd hx hb dX8_readSimple_34 ?_
  refine lv_icmp_ge (tgt := 160) hx hb dX8_readSimple_35 (by decide) (fun hc => ?_) (fun hc => ?_)
  · replace h := (if_pos hc).symm.trans h
    exact hret _ _ _ _ _ h hC hS dX8_readSimple_160
  · replace h := (if_neg hc).symm.trans h
    refine lv_aload_n hx hb dX8_readSimple_38 rfl (lv_at hl 0 rfl) ?_
    refine va_get (D := D) (ci := 8) (v := .int (σ.1 b 12)) (C := RX8) (T := TX8) (N := 21) hx hb hts (wqs inW_X8) hown hK.1 hC.1 (b - b) sg_gModel rfl 12 (by decide) (hts _ (wq wt_660)) (fun _ h9 => h9) rfl dX8_readSimple_39 ?_
    refine lv_if_ne (tgt := 160) hx hb dX8_readSimple_42 (by decide) (fun hc => ?_) (fun hc => ?_)
    · replace h := (if_neg hc).symm.trans h
      exact hret _ _ _ _ _ h hC hS dX8_readSimple_160
    · replace h := (if_pos hc).symm.trans h
      refine lv_iload hx hb dX8_readSimple_45 (lv_at hl 4 rfl) ?_
      refine lv_iload_n hx hb dX8_readSimple_47 rfl (lv_at hl 2 rfl) ?_
      refine lv_iload_n hx hb dX8_readSimple_48 rfl (lv_at hl 3 rfl) ?_
      refine lv_iadd hx hb dX8_readSimple_49 ?_
      refine lv_iconst (v := 1) hx hb dX8_readSimple_50 (by decide) ?_
      refine lv_isub hx hb dX8_readSimple_51 ?_
      refine lv_icmp_ne (tgt := 59) hx hb dX8_readSimple_52 (by decide) (fun hc => ?_) (fun hc => ?_)
      · replace h := (if_neg hc).symm.trans h
        refine lv_iconst (v := 0) hx hb dX8_readSimple_59 (by decide) ?_
        exact w_X8_readSimple_B60 ⟨hx, hb, hml, hown, hts, hK⟩ hret hr30 h (lv_sub hl [0, 1, 2, 3, 4] rfl) hC hS
      · replace h := (if_pos hc).symm.trans h
        refine lv_iconst (v := 1) hx hb dX8_readSimple_55 (by decide) ?_
        refine lv_goto (tgt := 60) hx hb dX8_readSimple_56 (by decide) ?_
        exact w_X8_readSimple_B60 ⟨hx, hb, hml, hown, hts, hK⟩ hret hr30 h (lv_sub hl [0, 1, 2, 3, 4] rfl) hC hS
set_option maxHeartbeats 4000000 in
theorem w_X8_readSimple_B30 {p : Program} {l : Launch} {e : Env} {s : State} {m : MethodId} {args : Array Value} {below : List Frame} {meth : Method} {c : Code} {Q : State → Prop} {D : va_G} {κ : Nat → ClassId} {b : Nat} {H0 : Heap} {rr : Sg} (hZ : sg_Z p c s m args D κ cX8_readSimple 6 RX8 wsX8_readSimple) (hret : ∀ (u : Sg) (H : Heap) (locs : List Loc) (pc : Nat) (ls : Array Slot), some u = some rr → MW D κ b u H → va_S (sg_A b 16) H0 H locs → decode cX8_readSimple pc = .ok (.return_, 1) → W p l e rm_X8_readSimple s m args below meth c H locs 0 0 Q (F0 m pc ls [])) : ∀ n : Nat, ∀ {σ : Sg} {x1 : Int32} {x2 : Int32} {x3 : Int32} {x4 : Int32} {H : Heap} {locs : List Loc} {ls : Array Slot}, fn_X8_readSimple_B30 b n σ x1 x2 x3 x4 = some rr → lv_has ls 6 [(0, .ref b), (1, .int x1), (2, .int x2), (3, .int x3), (4, .int x4)] → MW D κ b σ H → va_S (sg_A b 16) H0 H locs → W p l e rm_X8_readSimple s m args below meth c H locs 0 0 Q (F0 m 30 ls []) := by
  intro n
  induction n with
  | zero => intro σ x1 x2 x3 x4 H locs ls h hl hC hS; cases (show (none : Option (Sg)) = some rr from h)
  | succ n ih =>
    intro σ x1 x2 x3 x4 H locs ls h hl hC hS
    exact w_X8_readSimple_B30b hZ hret ih (show fn_X8_readSimple_B30b b (fn_X8_readSimple_B30 b n) σ x1 x2 x3 x4 = some rr from h)  hl hC hS
def fn_X8_readSimple (b : Nat) (σ : Sg) (x1 : Int32) (x2 : Int32) (x3 : Int32) : Option (Sg) :=
  (if sg_ib x1 48 then
  (sg_lt (sg_w σ (b + 5) (sg_x x1) 0) fun σ1 =>
  (if sg_ib x1 48 then
  (sg_lt (sg_w σ1 (b + 6) (sg_x x1) 0) fun σ2 =>
  (if sg_ib x1 48 then
  (sg_lt (sg_w σ2 (b + 7) (sg_x x1) 0) fun σ3 =>
  ((fn_X8_open b σ3 x1 0).bind fun r4 =>
  fn_X8_readSimple_B30 b sg_N r4 x1 x2 x3 x2))
  else none))
  else none))
  else none)
set_option maxHeartbeats 4000000 in
set_option maxRecDepth 100000 in
theorem w_X8_readSimple_B0 {p : Program} {l : Launch} {e : Env} {s : State} {m : MethodId} {args : Array Value} {below : List Frame} {meth : Method} {c : Code} {Q : State → Prop} {D : va_G} {κ : Nat → ClassId} {b : Nat} {H0 : Heap} {rr : Sg} (hZ : sg_Z p c s m args D κ cX8_readSimple 6 RX8 wsX8_readSimple) (hret : ∀ (u : Sg) (H : Heap) (locs : List Loc) (pc : Nat) (ls : Array Slot), some u = some rr → MW D κ b u H → va_S (sg_A b 16) H0 H locs → decode cX8_readSimple pc = .ok (.return_, 1) → W p l e rm_X8_readSimple s m args below meth c H locs 0 0 Q (F0 m pc ls [])) : ∀ {σ : Sg} {x1 : Int32} {x2 : Int32} {x3 : Int32} {H : Heap} {locs : List Loc} {ls : Array Slot}, fn_X8_readSimple b σ x1 x2 x3 = some rr → lv_has ls 6 [(0, .ref b), (1, .int x1), (2, .int x2), (3, .int x3)] → MW D κ b σ H → va_S (sg_A b 16) H0 H locs → W p l e rm_X8_readSimple s m args below meth c H locs 0 0 Q (F0 m 0 ls []) := by
  obtain ⟨hx, hb, hml, hown, hts, hK⟩ := hZ
  intro σ x1 x2 x3 H locs ls h hl hC hS
  unfold fn_X8_readSimple at h
  refine lv_aload_n hx hb dX8_readSimple_0 rfl (lv_at hl 0 rfl) ?_
  refine va_get (D := D) (ci := 8) (v := .ref (b + 5)) (C := RX8) (T := TX8) (N := 21) hx hb hts (wqs inW_X8) hown hK.1 hC.1 (b - b) sg_gModel rfl 6 (by decide) (hts _ (wq wt_654)) (fun _ h9 => h9) rfl dX8_readSimple_1 ?_
  refine lv_iload_n hx hb dX8_readSimple_4 rfl (lv_at hl 1 rfl) ?_
  refine lv_iconst (v := 0) hx hb dX8_readSimple_5 (by decide) ?_
  obtain ⟨hg, h⟩ := sg_gd h
  refine va_iast hx hb hK.1 hC.1 sg_D hS ((b + 5) - b) 0 sg_ga_firsts rfl (sg_in hg) dX8_readSimple_6 (fun H locs hP _ hS => ?_)
  obtain ⟨σ1, eσ1, h⟩ := sg_lte h
  have hC : MW D κ b σ1 H := eσ1 ▸ MW_put (k := sg_x x1) (v := 0) hC sg_aa_firsts (sg_ya_firsts _ _) hP
  refine lv_aload_n hx hb dX8_readSimple_7 rfl (lv_at hl 0 rfl) ?_
  refine va_get (D := D) (ci := 8) (v := .ref (b + 6)) (C := RX8) (T := TX8) (N := 21) hx hb hts (wqs inW_X8) hown hK.1 hC.1 (b - b) sg_gModel rfl 7 (by decide) (hts _ (wq wt_655)) (fun _ h9 => h9) rfl dX8_readSimple_8 ?_
  refine lv_iload_n hx hb dX8_readSimple_11 rfl (lv_at hl 1 rfl) ?_
  refine lv_iconst (v := 0) hx hb dX8_readSimple_12 (by decide) ?_
  obtain ⟨hg, h⟩ := sg_gd h
  refine va_iast hx hb hK.1 hC.1 sg_D hS ((b + 6) - b) 0 sg_ga_seconds rfl (sg_in hg) dX8_readSimple_13 (fun H locs hP _ hS => ?_)
  obtain ⟨σ2, eσ2, h⟩ := sg_lte h
  have hC : MW D κ b σ2 H := eσ2 ▸ MW_put (k := sg_x x1) (v := 0) hC sg_aa_seconds (sg_ya_seconds _ _) hP
  refine lv_aload_n hx hb dX8_readSimple_14 rfl (lv_at hl 0 rfl) ?_
  refine va_get (D := D) (ci := 8) (v := .ref (b + 7)) (C := RX8) (T := TX8) (N := 21) hx hb hts (wqs inW_X8) hown hK.1 hC.1 (b - b) sg_gModel rfl 8 (by decide) (hts _ (wq wt_656)) (fun _ h9 => h9) rfl dX8_readSimple_15 ?_
  refine lv_iload_n hx hb dX8_readSimple_18 rfl (lv_at hl 1 rfl) ?_
  refine lv_iconst (v := 0) hx hb dX8_readSimple_19 (by decide) ?_
  obtain ⟨hg, h⟩ := sg_gd h
  refine va_iast hx hb hK.1 hC.1 sg_D hS ((b + 7) - b) 0 sg_ga_subfields rfl (sg_in hg) dX8_readSimple_20 (fun H locs hP _ hS => ?_)
  obtain ⟨σ3, eσ3, h⟩ := sg_lte h
  have hC : MW D κ b σ3 H := eσ3 ▸ MW_put (k := sg_x x1) (v := 0) hC sg_aa_subfields (sg_ya_subfields _ _) hP
  refine lv_aload_n hx hb dX8_readSimple_21 rfl (lv_at hl 0 rfl) ?_
  refine lv_iload_n hx hb dX8_readSimple_22 rfl (lv_at hl 1 rfl) ?_
  refine lv_iconst (v := 0) hx hb dX8_readSimple_23 (by decide) ?_
  obtain ⟨r4, er4, h⟩ := Option.bind_eq_some_iff.mp h
  refine va_callv (va_runV (As := [.int x1, .int 0]) (rest := []) ⟨hx, hb, hml, hown, hts⟩ (c_X8_open l D κ b σ3 x1 0 _ er4) (cwV 2 hts (gwV wt_766 wt_768 wp_37 wt_9 wt_769) rfl rfl rfl (by decide +kernel) ⟨Nat.le_of_ble_eq_true rfl, Nat.le_of_ble_eq_true rfl⟩) (MW_preV hK hC sg_gModel rfl) rfl rfl hl.1 rfl (lv_room (Nat.le_of_ble_eq_true rfl)) dX8_readSimple_24 ⟨Nat.zero_le _, Nat.zero_le _⟩) hS (fun _ _ h => h) (fun _ h => h) (fun u t H locs ht _ hp hB _ _ hS => ?_)
  have hC : MW D κ b r4 H := MW_b hB ht hp
  refine lv_iload_n hx hb dX8_readSimple_27 rfl (lv_at hl 2 rfl) ?_
  refine lv_istore (lv' := [(4, .int x2), (0, .ref b), (1, .int x1), (2, .int x2), (3, .int x3)]) hx hb dX8_readSimple_28 hl (by decide) rfl (fun ls hl => ?_)
  exact w_X8_readSimple_B30 ⟨hx, hb, hml, hown, hts, hK⟩ hret  sg_N h (lv_sub hl [1, 2, 3, 4, 0] rfl) hC hS
set_option maxHeartbeats 4000000 in
set_option maxRecDepth 100000 in
theorem c_X8_readSimple (l : Launch) (D : va_G) (κ : Nat → ClassId) (b : Nat) (σ : Sg) (x1 : Int32) (x2 : Int32) (x3 : Int32) (rr : Sg)  (h : fn_X8_readSimple b σ x1 x2 x3 = some rr) : Met l yX8_readSimple wsX8_readSimple rm_X8_readSimple (va_Pc [.ref b, .int x1, .int x2, .int x3] (fun U => KK D κ U ∧ MW D κ b σ U.heap)) (va_Qv (fun u : Sg => u = rr) (fun u t => MW D κ b u t.heap) (sg_A b 16)) 0 0 (sg_A b 16) := by
  refine Met.ofW (cc := cX8_readSimple) (maxL := 6) (ret := none) (by decide) rfl ?_
  intro p e s m args below meth c s₁ B hml hv
  obtain ⟨rfl, hK, hC⟩ := hv
  have hr := B.returns
  have hlocks := B.notSynchronized
  have hl := lv_entry ([.ref b, .int x1, .int x2, .int x3]) (n := 6) (Nat.le_of_ble_eq_true rfl)
  rw [lg_entry_eq]
  generalize (lg_sl ([.ref b, .int x1, .int x2, .int x3]) ++ List.replicate (6 - (lg_sl ([.ref b, .int x1, .int x2, .int x3])).length) Slot.unset).toArray = ls at hl ⊢
  have hl : lv_has ls 6 [(0, .ref b), (1, .int x1), (2, .int x2), (3, .int x3)] := hl
  exact w_X8_readSimple_B0 ⟨B.exec, B.bytes, hml, findClass_of_methodNamed B.named, atoms_spec (ws := wsX8_readSimple) B.pre, hK⟩ (fun u H locs pc ls hq hC hS hd => W.vret B.exec B.bytes hr (fun t ht hW => ⟨⟨_, rfl, Option.some.inj hq, MW_e ht hC⟩, hS.F ht⟩) hS.2.2 hd) h  hl hC va_S.rf

-- RecordShelfModel.readInside(III)V
theorem dX8_readInside_0 : decode cX8_readInside 0 = .ok (.aload_n 0, 1) := by decide +kernel
theorem dX8_readInside_1 : decode cX8_readInside 1 = .ok (.getfield 7, 3) := by decide +kernel
theorem dX8_readInside_4 : decode cX8_readInside 4 = .ok (.iload_n 2, 1) := by decide +kernel
theorem dX8_readInside_5 : decode cX8_readInside 5 = .ok (.iaload, 1) := by decide +kernel
theorem dX8_readInside_6 : decode cX8_readInside 6 = .ok (.istore 4, 2) := by decide +kernel
theorem dX8_readInside_8 : decode cX8_readInside 8 = .ok (.iconst 4, 1) := by decide +kernel
theorem dX8_readInside_9 : decode cX8_readInside 9 = .ok (.iload_n 1, 1) := by decide +kernel
theorem dX8_readInside_10 : decode cX8_readInside 10 = .ok (.imul, 1) := by decide +kernel
theorem dX8_readInside_11 : decode cX8_readInside 11 = .ok (.aload_n 0, 1) := by decide +kernel
theorem dX8_readInside_12 : decode cX8_readInside 12 = .ok (.getfield 28, 3) := by decide +kernel
theorem dX8_readInside_15 : decode cX8_readInside 15 = .ok (.iload_n 1, 1) := by decide +kernel
theorem dX8_readInside_16 : decode cX8_readInside 16 = .ok (.iaload, 1) := by decide +kernel
theorem dX8_readInside_17 : decode cX8_readInside 17 = .ok (.iadd, 1) := by decide +kernel
theorem dX8_readInside_18 : decode cX8_readInside 18 = .ok (.iconst 1, 1) := by decide +kernel
theorem dX8_readInside_19 : decode cX8_readInside 19 = .ok (.isub, 1) := by decide +kernel
theorem dX8_readInside_20 : decode cX8_readInside 20 = .ok (.istore 5, 2) := by decide +kernel
theorem dX8_readInside_22 : decode cX8_readInside 22 = .ok (.iload_n 3, 1) := by decide +kernel
theorem dX8_readInside_23 : decode cX8_readInside 23 = .ok (.iconst 2, 1) := by decide +kernel
theorem dX8_readInside_24 : decode cX8_readInside 24 = .ok (.if_icmp .le 20, 3) := by decide +kernel
theorem dX8_readInside_27 : decode cX8_readInside 27 = .ok (.aload_n 0, 1) := by decide +kernel
theorem dX8_readInside_28 : decode cX8_readInside 28 = .ok (.getfield 7, 3) := by decide +kernel
theorem dX8_readInside_31 : decode cX8_readInside 31 = .ok (.iload_n 2, 1) := by decide +kernel
theorem dX8_readInside_32 : decode cX8_readInside 32 = .ok (.iconst 1, 1) := by decide +kernel
theorem dX8_readInside_33 : decode cX8_readInside 33 = .ok (.isub, 1) := by decide +kernel
theorem dX8_readInside_34 : decode cX8_readInside 34 = .ok (.iaload, 1) := by decide +kernel
theorem dX8_readInside_35 : decode cX8_readInside 35 = .ok (.bipush 31, 2) := by decide +kernel
theorem dX8_readInside_37 : decode cX8_readInside 37 = .ok (.if_icmp .ne 7, 3) := by decide +kernel
theorem dX8_readInside_40 : decode cX8_readInside 40 = .ok (.iconst 1, 1) := by decide +kernel
theorem dX8_readInside_41 : decode cX8_readInside 41 = .ok (.goto 4, 3) := by decide +kernel
theorem dX8_readInside_44 : decode cX8_readInside 44 = .ok (.iconst 0, 1) := by decide +kernel
theorem dX8_readInside_45 : decode cX8_readInside 45 = .ok (.istore 6, 2) := by decide +kernel
theorem dX8_readInside_47 : decode cX8_readInside 47 = .ok (.iload_n 3, 1) := by decide +kernel
theorem dX8_readInside_48 : decode cX8_readInside 48 = .ok (.iconst 2, 1) := by decide +kernel
theorem dX8_readInside_49 : decode cX8_readInside 49 = .ok (.if_icmp .ge 11, 3) := by decide +kernel
theorem dX8_readInside_52 : decode cX8_readInside 52 = .ok (.iload 4, 2) := by decide +kernel
theorem dX8_readInside_54 : decode cX8_readInside 54 = .ok (.invokestatic 99, 3) := by decide +kernel
theorem dX8_readInside_57 : decode cX8_readInside 57 = .ok (.goto 56, 3) := by decide +kernel
theorem dX8_readInside_60 : decode cX8_readInside 60 = .ok (.iload_n 3, 1) := by decide +kernel
theorem dX8_readInside_61 : decode cX8_readInside 61 = .ok (.iconst 2, 1) := by decide +kernel
theorem dX8_readInside_62 : decode cX8_readInside 62 = .ok (.if_icmp .ne 18, 3) := by decide +kernel
theorem dX8_readInside_65 : decode cX8_readInside 65 = .ok (.iload 4, 2) := by decide +kernel
theorem dX8_readInside_67 : decode cX8_readInside 67 = .ok (.bipush 31, 2) := by decide +kernel
theorem dX8_readInside_69 : decode cX8_readInside 69 = .ok (.if_icmp .ne 7, 3) := by decide +kernel
theorem dX8_readInside_72 : decode cX8_readInside 72 = .ok (.iconst 1, 1) := by decide +kernel
theorem dX8_readInside_73 : decode cX8_readInside 73 = .ok (.goto 40, 3) := by decide +kernel
theorem dX8_readInside_76 : decode cX8_readInside 76 = .ok (.iconst 0, 1) := by decide +kernel
theorem dX8_readInside_77 : decode cX8_readInside 77 = .ok (.goto 36, 3) := by decide +kernel
theorem dX8_readInside_80 : decode cX8_readInside 80 = .ok (.iload 6, 2) := by decide +kernel
theorem dX8_readInside_82 : decode cX8_readInside 82 = .ok (.ifCond .eq 11, 3) := by decide +kernel
theorem dX8_readInside_85 : decode cX8_readInside 85 = .ok (.iload 4, 2) := by decide +kernel
theorem dX8_readInside_87 : decode cX8_readInside 87 = .ok (.invokestatic 102, 3) := by decide +kernel
theorem dX8_readInside_90 : decode cX8_readInside 90 = .ok (.goto 23, 3) := by decide +kernel
theorem dX8_readInside_93 : decode cX8_readInside 93 = .ok (.iload 4, 2) := by decide +kernel
theorem dX8_readInside_95 : decode cX8_readInside 95 = .ok (.invokestatic 79, 3) := by decide +kernel
theorem dX8_readInside_98 : decode cX8_readInside 98 = .ok (.ifCond .ne 10, 3) := by decide +kernel
theorem dX8_readInside_101 : decode cX8_readInside 101 = .ok (.iload 4, 2) := by decide +kernel
theorem dX8_readInside_103 : decode cX8_readInside 103 = .ok (.bipush 31, 2) := by decide +kernel
theorem dX8_readInside_105 : decode cX8_readInside 105 = .ok (.if_icmp .ne 7, 3) := by decide +kernel
theorem dX8_readInside_108 : decode cX8_readInside 108 = .ok (.iconst 1, 1) := by decide +kernel
theorem dX8_readInside_109 : decode cX8_readInside 109 = .ok (.goto 4, 3) := by decide +kernel
theorem dX8_readInside_112 : decode cX8_readInside 112 = .ok (.iconst 0, 1) := by decide +kernel
theorem dX8_readInside_113 : decode cX8_readInside 113 = .ok (.istore 7, 2) := by decide +kernel
theorem dX8_readInside_115 : decode cX8_readInside 115 = .ok (.iload 7, 2) := by decide +kernel
theorem dX8_readInside_117 : decode cX8_readInside 117 = .ok (.ifCond .ne 13, 3) := by decide +kernel
theorem dX8_readInside_120 : decode cX8_readInside 120 = .ok (.aload_n 0, 1) := by decide +kernel
theorem dX8_readInside_121 : decode cX8_readInside 121 = .ok (.bipush (-6), 2) := by decide +kernel
theorem dX8_readInside_123 : decode cX8_readInside 123 = .ok (.iload_n 2, 1) := by decide +kernel
theorem dX8_readInside_124 : decode cX8_readInside 124 = .ok (.invokevirtual 82, 3) := by decide +kernel
theorem dX8_readInside_127 : decode cX8_readInside 127 = .ok (.goto 116, 3) := by decide +kernel
theorem dX8_readInside_130 : decode cX8_readInside 130 = .ok (.iload_n 3, 1) := by decide +kernel
theorem dX8_readInside_131 : decode cX8_readInside 131 = .ok (.ifCond .ne 14, 3) := by decide +kernel
theorem dX8_readInside_134 : decode cX8_readInside 134 = .ok (.aload_n 0, 1) := by decide +kernel
theorem dX8_readInside_135 : decode cX8_readInside 135 = .ok (.getfield 22, 3) := by decide +kernel
theorem dX8_readInside_138 : decode cX8_readInside 138 = .ok (.iload_n 1, 1) := by decide +kernel
theorem dX8_readInside_139 : decode cX8_readInside 139 = .ok (.iload 4, 2) := by decide +kernel
theorem dX8_readInside_141 : decode cX8_readInside 141 = .ok (.iastore, 1) := by decide +kernel
theorem dX8_readInside_142 : decode cX8_readInside 142 = .ok (.goto 101, 3) := by decide +kernel
theorem dX8_readInside_145 : decode cX8_readInside 145 = .ok (.iload_n 3, 1) := by decide +kernel
theorem dX8_readInside_146 : decode cX8_readInside 146 = .ok (.iconst 1, 1) := by decide +kernel
theorem dX8_readInside_147 : decode cX8_readInside 147 = .ok (.if_icmp .ne 14, 3) := by decide +kernel
theorem dX8_readInside_150 : decode cX8_readInside 150 = .ok (.aload_n 0, 1) := by decide +kernel
theorem dX8_readInside_151 : decode cX8_readInside 151 = .ok (.getfield 25, 3) := by decide +kernel
theorem dX8_readInside_154 : decode cX8_readInside 154 = .ok (.iload_n 1, 1) := by decide +kernel
theorem dX8_readInside_155 : decode cX8_readInside 155 = .ok (.iload 4, 2) := by decide +kernel
theorem dX8_readInside_157 : decode cX8_readInside 157 = .ok (.iastore, 1) := by decide +kernel
theorem dX8_readInside_158 : decode cX8_readInside 158 = .ok (.goto 85, 3) := by decide +kernel
theorem dX8_readInside_161 : decode cX8_readInside 161 = .ok (.iload 6, 2) := by decide +kernel
theorem dX8_readInside_163 : decode cX8_readInside 163 = .ok (.ifCond .eq 13, 3) := by decide +kernel
theorem dX8_readInside_166 : decode cX8_readInside 166 = .ok (.aload_n 0, 1) := by decide +kernel
theorem dX8_readInside_167 : decode cX8_readInside 167 = .ok (.iload_n 1, 1) := by decide +kernel
theorem dX8_readInside_168 : decode cX8_readInside 168 = .ok (.iload 4, 2) := by decide +kernel
theorem dX8_readInside_170 : decode cX8_readInside 170 = .ok (.invokevirtual 93, 3) := by decide +kernel
theorem dX8_readInside_173 : decode cX8_readInside 173 = .ok (.goto 70, 3) := by decide +kernel
theorem dX8_readInside_176 : decode cX8_readInside 176 = .ok (.iload_n 3, 1) := by decide +kernel
theorem dX8_readInside_177 : decode cX8_readInside 177 = .ok (.iconst 2, 1) := by decide +kernel
theorem dX8_readInside_178 : decode cX8_readInside 178 = .ok (.if_icmp .le 30, 3) := by decide +kernel
theorem dX8_readInside_181 : decode cX8_readInside 181 = .ok (.iload 4, 2) := by decide +kernel
theorem dX8_readInside_183 : decode cX8_readInside 183 = .ok (.bipush 31, 2) := by decide +kernel
theorem dX8_readInside_185 : decode cX8_readInside 185 = .ok (.if_icmp .ne 23, 3) := by decide +kernel
theorem dX8_readInside_188 : decode cX8_readInside 188 = .ok (.aload_n 0, 1) := by decide +kernel
theorem dX8_readInside_189 : decode cX8_readInside 189 = .ok (.getfield 28, 3) := by decide +kernel
theorem dX8_readInside_192 : decode cX8_readInside 192 = .ok (.iload_n 1, 1) := by decide +kernel
theorem dX8_readInside_193 : decode cX8_readInside 193 = .ok (.iaload, 1) := by decide +kernel
theorem dX8_readInside_194 : decode cX8_readInside 194 = .ok (.iconst 4, 1) := by decide +kernel
theorem dX8_readInside_195 : decode cX8_readInside 195 = .ok (.if_icmp .ne 48, 3) := by decide +kernel
theorem dX8_readInside_198 : decode cX8_readInside 198 = .ok (.aload_n 0, 1) := by decide +kernel
theorem dX8_readInside_199 : decode cX8_readInside 199 = .ok (.bipush (-2), 2) := by decide +kernel
theorem dX8_readInside_201 : decode cX8_readInside 201 = .ok (.iload_n 2, 1) := by decide +kernel
theorem dX8_readInside_202 : decode cX8_readInside 202 = .ok (.invokevirtual 82, 3) := by decide +kernel
theorem dX8_readInside_205 : decode cX8_readInside 205 = .ok (.goto 38, 3) := by decide +kernel
theorem dX8_readInside_208 : decode cX8_readInside 208 = .ok (.iload_n 3, 1) := by decide +kernel
theorem dX8_readInside_209 : decode cX8_readInside 209 = .ok (.iconst 2, 1) := by decide +kernel
theorem dX8_readInside_210 : decode cX8_readInside 210 = .ok (.if_icmp .le 33, 3) := by decide +kernel
theorem dX8_readInside_213 : decode cX8_readInside 213 = .ok (.aload_n 0, 1) := by decide +kernel
theorem dX8_readInside_214 : decode cX8_readInside 214 = .ok (.getfield 34, 3) := by decide +kernel
theorem dX8_readInside_217 : decode cX8_readInside 217 = .ok (.iload 5, 2) := by decide +kernel
theorem dX8_readInside_219 : decode cX8_readInside 219 = .ok (.iaload, 1) := by decide +kernel
theorem dX8_readInside_220 : decode cX8_readInside 220 = .ok (.bipush 20, 2) := by decide +kernel
theorem dX8_readInside_222 : decode cX8_readInside 222 = .ok (.if_icmp .ne 13, 3) := by decide +kernel
theorem dX8_readInside_225 : decode cX8_readInside 225 = .ok (.aload_n 0, 1) := by decide +kernel
theorem dX8_readInside_226 : decode cX8_readInside 226 = .ok (.bipush (-2), 2) := by decide +kernel
theorem dX8_readInside_228 : decode cX8_readInside 228 = .ok (.iload_n 2, 1) := by decide +kernel
theorem dX8_readInside_229 : decode cX8_readInside 229 = .ok (.invokevirtual 82, 3) := by decide +kernel
theorem dX8_readInside_232 : decode cX8_readInside 232 = .ok (.goto 11, 3) := by decide +kernel
theorem dX8_readInside_235 : decode cX8_readInside 235 = .ok (.aload_n 0, 1) := by decide +kernel
theorem dX8_readInside_236 : decode cX8_readInside 236 = .ok (.iload 5, 2) := by decide +kernel
theorem dX8_readInside_238 : decode cX8_readInside 238 = .ok (.iload 4, 2) := by decide +kernel
theorem dX8_readInside_240 : decode cX8_readInside 240 = .ok (.invokevirtual 96, 3) := by decide +kernel
theorem dX8_readInside_243 : decode cX8_readInside 243 = .ok (.return_, 1) := by decide +kernel
def rm_X8_readInside : Room := { frames := 2, cells := 0, slots := 0, locals := 40 }
def fn_X8_readInside_B208 (b : Nat) (σ : Sg) (x2 : Int32) (x3 : Int32) (x4 : Int32) (x5 : Int32) : Option (Sg) :=
  (if x3 ≤ 2 then
  some σ
  else (if sg_ib x5 192 then
  (if (σ.1 (b + 9) (sg_x x5)) = 20 then
  ((fn_X8_fail b σ (-2) x2).bind fun r2 =>
  some r2)
  else ((fn_X8_say b σ x5 x4).bind fun r1 =>
  some r1))
  else none))
set_option maxHeartbeats 4000000 in
set_option maxRecDepth 100000 in
theorem w_X8_readInside_B208 {p : Program} {l : Launch} {e : Env} {s : State} {m : MethodId} {args : Array Value} {below : List Frame} {meth : Method} {c : Code} {Q : State → Prop} {D : va_G} {κ : Nat → ClassId} {b : Nat} {H0 : Heap} {rr : Sg} (hZ : sg_Z p c s m args D κ cX8_readInside 8 RX8 wsX8_readInside) (hret : ∀ (u : Sg) (H : Heap) (locs : List Loc) (pc : Nat) (ls : Array Slot), some u = some rr → MW D κ b u H → va_S (sg_A b 16) H0 H locs → decode cX8_readInside pc = .ok (.return_, 1) → W p l e rm_X8_readInside s m args below meth c H locs 0 0 Q (F0 m pc ls [])) : ∀ {σ : Sg} {x2 : Int32} {x3 : Int32} {x4 : Int32} {x5 : Int32} {H : Heap} {locs : List Loc} {ls : Array Slot}, fn_X8_readInside_B208 b σ x2 x3 x4 x5 = some rr → lv_has ls 8 [(0, .ref b), (2, .int x2), (3, .int x3), (4, .int x4), (5, .int x5)] → MW D κ b σ H → va_S (sg_A b 16) H0 H locs → W p l e rm_X8_readInside s m args below meth c H locs 0 0 Q (F0 m 208 ls []) := by
  obtain ⟨hx, hb, hml, hown, hts, hK⟩ := hZ
  intro σ x2 x3 x4 x5 H locs ls h hl hC hS
  unfold fn_X8_readInside_B208 at h
  refine lv_iload_n hx hb dX8_readInside_208 rfl (lv_at hl 2 rfl) ?_
  refine lv_iconst (v := 2) hx hb dX8_readInside_209 (by decide) ?_
  refine lv_icmp_le (tgt := 243) hx hb dX8_readInside_210 (by decide) (fun hc => ?_) (fun hc => ?_)
  · replace h := (if_pos hc).symm.trans h
    exact hret _ _ _ _ _ h hC hS dX8_readInside_243
  · replace h := (if_neg hc).symm.trans h
    refine lv_aload_n hx hb dX8_readInside_213 rfl (lv_at hl 0 rfl) ?_
    refine va_get (D := D) (ci := 8) (v := .ref (b + 9)) (C := RX8) (T := TX8) (N := 21) hx hb hts (wqs inW_X8) hown hK.1 hC.1 (b - b) sg_gModel rfl 10 (by decide) (hts _ (wq wt_658)) (fun _ h9 => h9) rfl dX8_readInside_214 ?_
    refine lv_iload hx hb dX8_readInside_217 (lv_at hl 4 rfl) ?_
    obtain ⟨hg, h⟩ := sg_gd h
    refine va_iald hx hb hK.1 hC.1 ((b + 9) - b) 0 sg_ga_sizes rfl (sg_in hg) dX8_readInside_219 ?_
    refine lv_bipush (v := 20) hx hb dX8_readInside_220 (by decide) ?_
    refine lv_icmp_ne (tgt := 235) hx hb dX8_readInside_222 (by decide) (fun hc => ?_) (fun hc => ?_)
    · replace h := (if_neg hc).symm.trans h
      refine lv_aload_n hx hb dX8_readInside_235 rfl (lv_at hl 0 rfl) ?_
      refine lv_iload hx hb dX8_readInside_236 (lv_at hl 4 rfl) ?_
      refine lv_iload hx hb dX8_readInside_238 (lv_at hl 3 rfl) ?_
      obtain ⟨r1, er1, h⟩ := Option.bind_eq_some_iff.mp h
      refine va_callv (va_runV (As := [.int x5, .int x4]) (rest := []) ⟨hx, hb, hml, hown, hts⟩ (c_X8_say l D κ b σ x5 x4 _ er1) (cwV 2 hts (gwV wt_770 wt_772 wp_38 wt_9 wt_773) rfl rfl rfl (by decide +kernel) ⟨Nat.le_of_ble_eq_true rfl, Nat.le_of_ble_eq_true rfl⟩) (MW_preV hK hC sg_gModel rfl) rfl rfl hl.1 rfl (lv_room (Nat.le_of_ble_eq_true rfl)) dX8_readInside_240 ⟨Nat.zero_le _, Nat.zero_le _⟩) hS (fun _ _ h => h) (fun _ h => h) (fun u t H locs ht _ hp hB _ _ hS => ?_)
      have hC : MW D κ b r1 H := MW_b hB ht hp
      exact hret _ _ _ _ _ h hC hS dX8_readInside_243
    · replace h := (if_pos hc).symm.trans h
      refine lv_aload_n hx hb dX8_readInside_225 rfl (lv_at hl 0 rfl) ?_
      refine lv_bipush (v := (-2)) hx hb dX8_readInside_226 (by decide) ?_
      refine lv_iload_n hx hb dX8_readInside_228 rfl (lv_at hl 1 rfl) ?_
      obtain ⟨r2, er2, h⟩ := Option.bind_eq_some_iff.mp h
      refine va_callv (va_runV (As := [.int (-2), .int x2]) (rest := []) ⟨hx, hb, hml, hown, hts⟩ (c_X8_fail l D κ b σ (-2) x2 _ er2) (cwV 2 hts (gwV wt_737 wt_739 wp_32 wt_9 wt_740) rfl rfl rfl (by decide +kernel) ⟨Nat.le_of_ble_eq_true rfl, Nat.le_of_ble_eq_true rfl⟩) (MW_preV hK hC sg_gModel rfl) rfl rfl hl.1 rfl (lv_room (Nat.le_of_ble_eq_true rfl)) dX8_readInside_229 ⟨Nat.zero_le _, Nat.zero_le _⟩) hS (fun _ _ h => h) (fun _ h => h) (fun u t H locs ht _ hp hB _ _ hS => ?_)
      have hC : MW D κ b r2 H := MW_b hB ht hp
      refine lv_goto (tgt := 243) hx hb dX8_readInside_232 (by decide) ?_
      exact hret _ _ _ _ _ h hC hS dX8_readInside_243
def fn_X8_readInside_B113 (b : Nat) (σ : Sg) (x1 : Int32) (x2 : Int32) (x3 : Int32) (x4 : Int32) (x5 : Int32) (x6 : Int32) (y0 : Int32) : Option (Sg) :=
  (if y0 = 0 then
  ((fn_X8_fail b σ (-6) x2).bind fun r5 =>
  some r5)
  else (if x3 = 0 then
  (if sg_ib x1 48 then
  (sg_lt (sg_w σ (b + 5) (sg_x x1) x4) fun σ4 =>
  some σ4)
  else none)
  else (if x3 = 1 then
  (if sg_ib x1 48 then
  (sg_lt (sg_w σ (b + 6) (sg_x x1) x4) fun σ3 =>
  some σ3)
  else none)
  else (if x6 = 0 then
  (if x3 ≤ 2 then
  fn_X8_readInside_B208 b σ x2 x3 x4 x5
  else (if x4 = 31 then
  (if sg_ib x1 48 then
  (if (σ.1 (b + 7) (sg_x x1)) = 4 then
  ((fn_X8_fail b σ (-2) x2).bind fun r1 =>
  some r1)
  else some σ)
  else none)
  else fn_X8_readInside_B208 b σ x2 x3 x4 x5))
  else ((fn_X8_open b σ x1 x4).bind fun r2 =>
  some r2)))))
set_option maxHeartbeats 4000000 in
set_option maxRecDepth 100000 in
theorem w_X8_readInside_B113 {p : Program} {l : Launch} {e : Env} {s : State} {m : MethodId} {args : Array Value} {below : List Frame} {meth : Method} {c : Code} {Q : State → Prop} {D : va_G} {κ : Nat → ClassId} {b : Nat} {H0 : Heap} {rr : Sg} (hZ : sg_Z p c s m args D κ cX8_readInside 8 RX8 wsX8_readInside) (hret : ∀ (u : Sg) (H : Heap) (locs : List Loc) (pc : Nat) (ls : Array Slot), some u = some rr → MW D κ b u H → va_S (sg_A b 16) H0 H locs → decode cX8_readInside pc = .ok (.return_, 1) → W p l e rm_X8_readInside s m args below meth c H locs 0 0 Q (F0 m pc ls [])) : ∀ {σ : Sg} {x1 : Int32} {x2 : Int32} {x3 : Int32} {x4 : Int32} {x5 : Int32} {x6 : Int32} {y0 : Int32} {H : Heap} {locs : List Loc} {ls : Array Slot}, fn_X8_readInside_B113 b σ x1 x2 x3 x4 x5 x6 y0 = some rr → lv_has ls 8 [(0, .ref b), (1, .int x1), (2, .int x2), (3, .int x3), (4, .int x4), (5, .int x5), (6, .int x6)] → MW D κ b σ H → va_S (sg_A b 16) H0 H locs → W p l e rm_X8_readInside s m args below meth c H locs 0 0 Q (F0 m 113 ls [.int y0]) := by
  obtain ⟨hx, hb, hml, hown, hts, hK⟩ := hZ
  intro σ x1 x2 x3 x4 x5 x6 y0 H locs ls h hl hC hS
  unfold fn_X8_readInside_B113 at h
  refine lv_istore (lv' := [(7, .int y0), (0, .ref b), (1, .int x1), (2, .int x2), (3, .int x3), (4, .int x4), (5, .int x5), (6, .int x6)]) hx hb dX8_readInside_113 hl (by decide) rfl (fun ls hl => ?_)
  refine lv_iload hx hb dX8_readInside_115 (lv_at hl 0 rfl) ?_
  refine lv_if_ne (tgt := 130) hx hb dX8_readInside_117 (by decide) (fun hc => ?_) (fun hc => ?_)
  · replace h := (if_neg hc).symm.trans h
    refine lv_iload_n hx hb dX8_readInside_130 rfl (lv_at hl 4 rfl) ?_
    refine lv_if_ne (tgt := 145) hx hb dX8_readInside_131 (by decide) (fun hc => ?_) (fun hc => ?_)
    · replace h := (if_neg hc).symm.trans h
      refine lv_iload_n hx hb dX8_readInside_145 rfl (lv_at hl 4 rfl) ?_
      refine lv_iconst (v := 1) hx hb dX8_readInside_146 (by decide) ?_
      refine lv_icmp_ne (tgt := 161) hx hb dX8_readInside_147 (by decide) (fun hc => ?_) (fun hc => ?_)
      · replace h := (if_neg hc).symm.trans h
        refine lv_iload hx hb dX8_readInside_161 (lv_at hl 7 rfl) ?_
        refine lv_if_eq (tgt := 176) hx hb dX8_readInside_163 (by decide) (fun hc => ?_) (fun hc => ?_)
        · replace h := (if_pos hc).symm.trans h
          refine lv_iload_n hx hb dX8_readInside_176 rfl (lv_at hl 4 rfl) ?_
          refine lv_iconst (v := 2) hx hb dX8_readInside_177 (by decide) ?_
          refine lv_icmp_le (tgt := 208) hx hb dX8_readInside_178 (by decide) (fun hc => ?_) (fun hc => ?_)
          · replace h := (if_pos hc).symm.trans h
            exact w_X8_readInside_B208 ⟨hx, hb, hml, hown, hts, hK⟩ hret  h (lv_sub hl [1, 3, 4, 5, 6] rfl) hC hS
          · replace h := (if_neg hc).symm.trans h
            refine lv_iload hx hb dX8_readInside_181 (lv_at hl 5 rfl) ?_
            refine lv_bipush (v := 31) hx hb dX8_readInside_183 (by decide) ?_
            refine lv_icmp_ne (tgt := 208) hx hb dX8_readInside_185 (by decide) (fun hc => ?_) (fun hc => ?_)
            · replace h := (if_neg hc).symm.trans h
              exact w_X8_readInside_B208 ⟨hx, hb, hml, hown, hts, hK⟩ hret  h (lv_sub hl [1, 3, 4, 5, 6] rfl) hC hS
            · replace h := (if_pos hc).symm.trans h
              refine lv_aload_n hx hb dX8_readInside_188 rfl (lv_at hl 1 rfl) ?_
              refine va_get (D := D) (ci := 8) (v := .ref (b + 7)) (C := RX8) (T := TX8) (N := 21) hx hb hts (wqs inW_X8) hown hK.1 hC.1 (b - b) sg_gModel rfl 8 (by decide) (hts _ (wq wt_656)) (fun _ h9 => h9) rfl dX8_readInside_189 ?_
              refine lv_iload_n hx hb dX8_readInside_192 rfl (lv_at hl 2 rfl) ?_
              obtain ⟨hg, h⟩ := sg_gd h
              refine va_iald hx hb hK.1 hC.1 ((b + 7) - b) 0 sg_ga_subfields rfl (sg_in hg) dX8_readInside_193 ?_
              refine lv_iconst (v := 4) hx hb dX8_readInside_194 (by decide) ?_
              refine lv_icmp_ne (tgt := 243) hx hb dX8_readInside_195 (by decide) (fun hc => ?_) (fun hc => ?_)
              · replace h := (if_neg hc).symm.trans h
                exact hret _ _ _ _ _ h hC hS dX8_readInside_243
              · replace h := (if_pos hc).symm.trans h
                refine lv_aload_n hx hb dX8_readInside_198 rfl (lv_at hl 1 rfl) ?_
                refine lv_bipush (v := (-2)) hx hb dX8_readInside_199 (by decide) ?_
                refine lv_iload_n hx hb dX8_readInside_201 rfl (lv_at hl 3 rfl) ?_
                obtain ⟨r1, er1, h⟩ := Option.bind_eq_some_iff.mp h
                refine va_callv (va_runV (As := [.int (-2), .int x2]) (rest := []) ⟨hx, hb, hml, hown, hts⟩ (c_X8_fail l D κ b σ (-2) x2 _ er1) (cwV 2 hts (gwV wt_737 wt_739 wp_32 wt_9 wt_740) rfl rfl rfl (by decide +kernel) ⟨Nat.le_of_ble_eq_true rfl, Nat.le_of_ble_eq_true rfl⟩) (MW_preV hK hC sg_gModel rfl) rfl rfl hl.1 rfl (lv_room (Nat.le_of_ble_eq_true rfl)) dX8_readInside_202 ⟨Nat.zero_le _, Nat.zero_le _⟩) hS (fun _ _ h => h) (fun _ h => h) (fun u t H locs ht _ hp hB _ _ hS => ?_)
                have hC : MW D κ b r1 H := MW_b hB ht hp
                refine lv_goto (tgt := 243) hx hb dX8_readInside_205 (by decide) ?_
                exact hret _ _ _ _ _ h hC hS dX8_readInside_243
        · replace h := (if_neg hc).symm.trans h
          refine lv_aload_n hx hb dX8_readInside_166 rfl (lv_at hl 1 rfl) ?_
          refine lv_iload_n hx hb dX8_readInside_167 rfl (lv_at hl 2 rfl) ?_
          refine lv_iload hx hb dX8_readInside_168 (lv_at hl 5 rfl) ?_
          obtain ⟨r2, er2, h⟩ := Option.bind_eq_some_iff.mp h
          refine va_callv (va_runV (As := [.int x1, .int x4]) (rest := []) ⟨hx, hb, hml, hown, hts⟩ (c_X8_open l D κ b σ x1 x4 _ er2) (cwV 2 hts (gwV wt_766 wt_768 wp_37 wt_9 wt_769) rfl rfl rfl (by decide +kernel) ⟨Nat.le_of_ble_eq_true rfl, Nat.le_of_ble_eq_true rfl⟩) (MW_preV hK hC sg_gModel rfl) rfl rfl hl.1 rfl (lv_room (Nat.le_of_ble_eq_true rfl)) dX8_readInside_170 ⟨Nat.zero_le _, Nat.zero_le _⟩) hS (fun _ _ h => h) (fun _ h => h) (fun u t H locs ht _ hp hB _ _ hS => ?_)
          have hC : MW D κ b r2 H := MW_b hB ht hp
          refine lv_goto (tgt := 243) hx hb dX8_readInside_173 (by decide) ?_
          exact hret _ _ _ _ _ h hC hS dX8_readInside_243
      · replace h := (if_pos hc).symm.trans h
        refine lv_aload_n hx hb dX8_readInside_150 rfl (lv_at hl 1 rfl) ?_
        refine va_get (D := D) (ci := 8) (v := .ref (b + 6)) (C := RX8) (T := TX8) (N := 21) hx hb hts (wqs inW_X8) hown hK.1 hC.1 (b - b) sg_gModel rfl 7 (by decide) (hts _ (wq wt_655)) (fun _ h9 => h9) rfl dX8_readInside_151 ?_
        refine lv_iload_n hx hb dX8_readInside_154 rfl (lv_at hl 2 rfl) ?_
        refine lv_iload hx hb dX8_readInside_155 (lv_at hl 5 rfl) ?_
        obtain ⟨hg, h⟩ := sg_gd h
        refine va_iast hx hb hK.1 hC.1 sg_D hS ((b + 6) - b) 0 sg_ga_seconds rfl (sg_in hg) dX8_readInside_157 (fun H locs hP _ hS => ?_)
        obtain ⟨σ3, eσ3, h⟩ := sg_lte h
        have hC : MW D κ b σ3 H := eσ3 ▸ MW_put (k := sg_x x1) (v := x4) hC sg_aa_seconds (sg_ya_seconds _ _) hP
        refine lv_goto (tgt := 243) hx hb dX8_readInside_158 (by decide) ?_
        exact hret _ _ _ _ _ h hC hS dX8_readInside_243
    · replace h := (if_pos hc).symm.trans h
      refine lv_aload_n hx hb dX8_readInside_134 rfl (lv_at hl 1 rfl) ?_
      refine va_get (D := D) (ci := 8) (v := .ref (b + 5)) (C := RX8) (T := TX8) (N := 21) hx hb hts (wqs inW_X8) hown hK.1 hC.1 (b - b) sg_gModel rfl 6 (by decide) (hts _ (wq wt_654)) (fun _ h9 => h9) rfl dX8_readInside_135 ?_
      refine lv_iload_n hx hb dX8_readInside_138 rfl (lv_at hl 2 rfl) ?_
      refine lv_iload hx hb dX8_readInside_139 (lv_at hl 5 rfl) ?_
      obtain ⟨hg, h⟩ := sg_gd h
      refine va_iast hx hb hK.1 hC.1 sg_D hS ((b + 5) - b) 0 sg_ga_firsts rfl (sg_in hg) dX8_readInside_141 (fun H locs hP _ hS => ?_)
      obtain ⟨σ4, eσ4, h⟩ := sg_lte h
      have hC : MW D κ b σ4 H := eσ4 ▸ MW_put (k := sg_x x1) (v := x4) hC sg_aa_firsts (sg_ya_firsts _ _) hP
      refine lv_goto (tgt := 243) hx hb dX8_readInside_142 (by decide) ?_
      exact hret _ _ _ _ _ h hC hS dX8_readInside_243
  · replace h := (if_pos hc).symm.trans h
    refine lv_aload_n hx hb dX8_readInside_120 rfl (lv_at hl 1 rfl) ?_
    refine lv_bipush (v := (-6)) hx hb dX8_readInside_121 (by decide) ?_
    refine lv_iload_n hx hb dX8_readInside_123 rfl (lv_at hl 3 rfl) ?_
    obtain ⟨r5, er5, h⟩ := Option.bind_eq_some_iff.mp h
    refine va_callv (va_runV (As := [.int (-6), .int x2]) (rest := []) ⟨hx, hb, hml, hown, hts⟩ (c_X8_fail l D κ b σ (-6) x2 _ er5) (cwV 2 hts (gwV wt_737 wt_739 wp_32 wt_9 wt_740) rfl rfl rfl (by decide +kernel) ⟨Nat.le_of_ble_eq_true rfl, Nat.le_of_ble_eq_true rfl⟩) (MW_preV hK hC sg_gModel rfl) rfl rfl hl.1 rfl (lv_room (Nat.le_of_ble_eq_true rfl)) dX8_readInside_124 ⟨Nat.zero_le _, Nat.zero_le _⟩) hS (fun _ _ h => h) (fun _ h => h) (fun u t H locs ht _ hp hB _ _ hS => ?_)
    have hC : MW D κ b r5 H := MW_b hB ht hp
    refine lv_goto (tgt := 243) hx hb dX8_readInside_127 (by decide) ?_
    exact hret _ _ _ _ _ h hC hS dX8_readInside_243
def fn_X8_readInside_B108 (b : Nat) (σ : Sg) (x1 : Int32) (x2 : Int32) (x3 : Int32) (x4 : Int32) (x5 : Int32) (x6 : Int32) : Option (Sg) :=
  fn_X8_readInside_B113 b σ x1 x2 x3 x4 x5 x6 1
set_option maxHeartbeats 4000000 in
set_option maxRecDepth 100000 in
theorem w_X8_readInside_B108 {p : Program} {l : Launch} {e : Env} {s : State} {m : MethodId} {args : Array Value} {below : List Frame} {meth : Method} {c : Code} {Q : State → Prop} {D : va_G} {κ : Nat → ClassId} {b : Nat} {H0 : Heap} {rr : Sg} (hZ : sg_Z p c s m args D κ cX8_readInside 8 RX8 wsX8_readInside) (hret : ∀ (u : Sg) (H : Heap) (locs : List Loc) (pc : Nat) (ls : Array Slot), some u = some rr → MW D κ b u H → va_S (sg_A b 16) H0 H locs → decode cX8_readInside pc = .ok (.return_, 1) → W p l e rm_X8_readInside s m args below meth c H locs 0 0 Q (F0 m pc ls [])) : ∀ {σ : Sg} {x1 : Int32} {x2 : Int32} {x3 : Int32} {x4 : Int32} {x5 : Int32} {x6 : Int32} {H : Heap} {locs : List Loc} {ls : Array Slot}, fn_X8_readInside_B108 b σ x1 x2 x3 x4 x5 x6 = some rr → lv_has ls 8 [(0, .ref b), (1, .int x1), (2, .int x2), (3, .int x3), (4, .int x4), (5, .int x5), (6, .int x6)] → MW D κ b σ H → va_S (sg_A b 16) H0 H locs → W p l e rm_X8_readInside s m args below meth c H locs 0 0 Q (F0 m 108 ls []) := by
  obtain ⟨hx, hb, hml, hown, hts, hK⟩ := hZ
  intro σ x1 x2 x3 x4 x5 x6 H locs ls h hl hC hS
  unfold fn_X8_readInside_B108 at h
  refine lv_iconst (v := 1) hx hb dX8_readInside_108 (by decide) ?_
  refine lv_goto (tgt := 113) hx hb dX8_readInside_109 (by decide) ?_
  exact w_X8_readInside_B113 ⟨hx, hb, hml, hown, hts, hK⟩ hret  h (lv_sub hl [0, 1, 2, 3, 4, 5, 6] rfl) hC hS
def fn_X8_readInside_B45 (b : Nat) (σ : Sg) (x1 : Int32) (x2 : Int32) (x3 : Int32) (x4 : Int32) (x5 : Int32) (y0 : Int32) : Option (Sg) :=
  (if (2 : Int32) ≤ x3 then
  (if x3 = 2 then
  (if x4 = 31 then
  fn_X8_readInside_B113 b σ x1 x2 x3 x4 x5 y0 1
  else fn_X8_readInside_B113 b σ x1 x2 x3 x4 x5 y0 0)
  else (if y0 = 0 then
  ((fn_X8_isPlain x4).bind fun r1 =>
  (if r1 = 0 then
  (if x4 = 31 then
  fn_X8_readInside_B108 b σ x1 x2 x3 x4 x5 y0
  else fn_X8_readInside_B113 b σ x1 x2 x3 x4 x5 y0 0)
  else fn_X8_readInside_B108 b σ x1 x2 x3 x4 x5 y0))
  else ((fn_X8_isCode x4).bind fun r2 =>
  fn_X8_readInside_B113 b σ x1 x2 x3 x4 x5 y0 r2)))
  else ((fn_X8_isIndicator x4).bind fun r3 =>
  fn_X8_readInside_B113 b σ x1 x2 x3 x4 x5 y0 r3))
set_option maxHeartbeats 4000000 in
set_option maxRecDepth 100000 in
theorem w_X8_readInside_B45 {p : Program} {l : Launch} {e : Env} {s : State} {m : MethodId} {args : Array Value} {below : List Frame} {meth : Method} {c : Code} {Q : State → Prop} {D : va_G} {κ : Nat → ClassId} {b : Nat} {H0 : Heap} {rr : Sg} (hZ : sg_Z p c s m args D κ cX8_readInside 8 RX8 wsX8_readInside) (hret : ∀ (u : Sg) (H : Heap) (locs : List Loc) (pc : Nat) (ls : Array Slot), some u = some rr → MW D κ b u H → va_S (sg_A b 16) H0 H locs → decode cX8_readInside pc = .ok (.return_, 1) → W p l e rm_X8_readInside s m args below meth c H locs 0 0 Q (F0 m pc ls [])) : ∀ {σ : Sg} {x1 : Int32} {x2 : Int32} {x3 : Int32} {x4 : Int32} {x5 : Int32} {y0 : Int32} {H : Heap} {locs : List Loc} {ls : Array Slot}, fn_X8_readInside_B45 b σ x1 x2 x3 x4 x5 y0 = some rr → lv_has ls 8 [(0, .ref b), (1, .int x1), (2, .int x2), (3, .int x3), (4, .int x4), (5, .int x5)] → MW D κ b σ H → va_S (sg_A b 16) H0 H locs → W p l e rm_X8_readInside s m args below meth c H locs 0 0 Q (F0 m 45 ls [.int y0]) := by
  obtain ⟨hx, hb, hml, hown, hts, hK⟩ := hZ
  intro σ x1 x2 x3 x4 x5 y0 H locs ls h hl hC hS
  unfold fn_X8_readInside_B45 at h
  refine lv_istore (lv' := [(6, .int y0), (0, .ref b), (1, .int x1), (2, .int x2), (3, .int x3), (4, .int x4), (5, .int x5)]) hx hb dX8_readInside_45 hl (by decide) rfl (fun ls hl => ?_)
  refine lv_iload_n hx hb dX8_readInside_47 rfl (lv_at hl 4 rfl) ?_
  refine lv_iconst (v := 2) hx hb dX8_readInside_48 (by decide) ?_
  refine lv_icmp_ge (tgt := 60) hx hb dX8_readInside_49 (by decide) (fun hc => ?_) (fun hc => ?_)
  · replace h := (if_pos hc).symm.trans h
    refine lv_iload_n hx hb dX8_readInside_60 rfl (lv_at hl 4 rfl) ?_
    refine lv_iconst (v := 2) hx hb dX8_readInside_61 (by decide) ?_
    refine lv_icmp_ne (tgt := 80) hx hb dX8_readInside_62 (by decide) (fun hc => ?_) (fun hc => ?_)
    · replace h := (if_neg hc).symm.trans h
      refine lv_iload hx hb dX8_readInside_80 (lv_at hl 0 rfl) ?_
      refine lv_if_eq (tgt := 93) hx hb dX8_readInside_82 (by decide) (fun hc => ?_) (fun hc => ?_)
      · replace h := (if_pos hc).symm.trans h
        refine lv_iload hx hb dX8_readInside_93 (lv_at hl 5 rfl) ?_
        obtain ⟨r1, er1, h⟩ := Option.bind_eq_some_iff.mp h
        refine va_calli (va_runS (As := [.int x4]) (rest := []) ⟨hx, hb, hml, hown, hts⟩ (c_X8_isPlain l D κ b σ x4 _ er1) (va_cwS 1 hts (gwS wt_748 wt_749 wt_9 wt_750) rfl rfl rfl (by decide +kernel) ⟨Nat.le_of_ble_eq_true rfl, Nat.le_of_ble_eq_true rfl⟩) (MW_preS hK hC) rfl rfl hl.1 rfl (lv_room (Nat.le_of_ble_eq_true rfl)) dX8_readInside_95 ⟨Nat.zero_le _, Nat.zero_le _⟩) hS (fun _ _ h => h) (fun _ h => h) (fun r u t H locs ht _ hp hB _ _ hS => ?_)
        refine sg_topi hp.1 ?_
        have hC : MW D κ b σ H := MW_b hB ht hp.2
        refine lv_if_ne (tgt := 108) hx hb dX8_readInside_98 (by decide) (fun hc => ?_) (fun hc => ?_)
        · replace h := (if_neg hc).symm.trans h
          exact w_X8_readInside_B108 ⟨hx, hb, hml, hown, hts, hK⟩ hret  h (lv_sub hl [1, 2, 3, 4, 5, 6, 0] rfl) hC hS
        · replace h := (if_pos hc).symm.trans h
          refine lv_iload hx hb dX8_readInside_101 (lv_at hl 5 rfl) ?_
          refine lv_bipush (v := 31) hx hb dX8_readInside_103 (by decide) ?_
          refine lv_icmp_ne (tgt := 112) hx hb dX8_readInside_105 (by decide) (fun hc => ?_) (fun hc => ?_)
          · replace h := (if_neg hc).symm.trans h
            refine lv_iconst (v := 0) hx hb dX8_readInside_112 (by decide) ?_
            exact w_X8_readInside_B113 ⟨hx, hb, hml, hown, hts, hK⟩ hret  h (lv_sub hl [1, 2, 3, 4, 5, 6, 0] rfl) hC hS
          · replace h := (if_pos hc).symm.trans h
            exact w_X8_readInside_B108 ⟨hx, hb, hml, hown, hts, hK⟩ hret  h (lv_sub hl [1, 2, 3, 4, 5, 6, 0] rfl) hC hS
      · replace h := (if_neg hc).symm.trans h
        refine lv_iload hx hb dX8_readInside_85 (lv_at hl 5 rfl) ?_
        obtain ⟨r2, er2, h⟩ := Option.bind_eq_some_iff.mp h
        refine va_calli (va_runS (As := [.int x4]) (rest := []) ⟨hx, hb, hml, hown, hts⟩ (c_X8_isCode l D κ b σ x4 _ er2) (va_cwS 1 hts (gwS wt_785 wt_786 wt_9 wt_787) rfl rfl rfl (by decide +kernel) ⟨Nat.le_of_ble_eq_true rfl, Nat.le_of_ble_eq_true rfl⟩) (MW_preS hK hC) rfl rfl hl.1 rfl (lv_room (Nat.le_of_ble_eq_true rfl)) dX8_readInside_87 ⟨Nat.zero_le _, Nat.zero_le _⟩) hS (fun _ _ h => h) (fun _ h => h) (fun r u t H locs ht _ hp hB _ _ hS => ?_)
        refine sg_topi hp.1 ?_
        have hC : MW D κ b σ H := MW_b hB ht hp.2
        refine lv_goto (tgt := 113) hx hb dX8_readInside_90 (by decide) ?_
        exact w_X8_readInside_B113 ⟨hx, hb, hml, hown, hts, hK⟩ hret  h (lv_sub hl [1, 2, 3, 4, 5, 6, 0] rfl) hC hS
    · replace h := (if_pos hc).symm.trans h
      refine lv_iload hx hb dX8_readInside_65 (lv_at hl 5 rfl) ?_
      refine lv_bipush (v := 31) hx hb dX8_readInside_67 (by decide) ?_
      refine lv_icmp_ne (tgt := 76) hx hb dX8_readInside_69 (by decide) (fun hc => ?_) (fun hc => ?_)
      · replace h := (if_neg hc).symm.trans h
        refine lv_iconst (v := 0) hx hb dX8_readInside_76 (by decide) ?_
        refine lv_goto (tgt := 113) hx hb dX8_readInside_77 (by decide) ?_
        exact w_X8_readInside_B113 ⟨hx, hb, hml, hown, hts, hK⟩ hret  h (lv_sub hl [1, 2, 3, 4, 5, 6, 0] rfl) hC hS
      · replace h := (if_pos hc).symm.trans h
        refine lv_iconst (v := 1) hx hb dX8_readInside_72 (by decide) ?_
        refine lv_goto (tgt := 113) hx hb dX8_readInside_73 (by decide) ?_
        exact w_X8_readInside_B113 ⟨hx, hb, hml, hown, hts, hK⟩ hret  h (lv_sub hl [1, 2, 3, 4, 5, 6, 0] rfl) hC hS
  · replace h := (if_neg hc).symm.trans h
    refine lv_iload hx hb dX8_readInside_52 (lv_at hl 5 rfl) ?_
    obtain ⟨r3, er3, h⟩ := Option.bind_eq_some_iff.mp h
    refine va_calli (va_runS (As := [.int x4]) (rest := []) ⟨hx, hb, hml, hown, hts⟩ (c_X8_isIndicator l D κ b σ x4 _ er3) (va_cwS 1 hts (gwS wt_782 wt_783 wt_9 wt_784) rfl rfl rfl (by decide +kernel) ⟨Nat.le_of_ble_eq_true rfl, Nat.le_of_ble_eq_true rfl⟩) (MW_preS hK hC) rfl rfl hl.1 rfl (lv_room (Nat.le_of_ble_eq_true rfl)) dX8_readInside_54 ⟨Nat.zero_le _, Nat.zero_le _⟩) hS (fun _ _ h => h) (fun _ h => h) (fun r u t H locs ht _ hp hB _ _ hS => ?_)
    refine sg_topi hp.1 ?_
    have hC : MW D κ b σ H := MW_b hB ht hp.2
    refine lv_goto (tgt := 113) hx hb dX8_readInside_57 (by decide) ?_
    exact w_X8_readInside_B113 ⟨hx, hb, hml, hown, hts, hK⟩ hret  h (lv_sub hl [1, 2, 3, 4, 5, 6, 0] rfl) hC hS
def fn_X8_readInside_B44 (b : Nat) (σ : Sg) (x1 : Int32) (x2 : Int32) (x3 : Int32) (x4 : Int32) (x5 : Int32) : Option (Sg) :=
  fn_X8_readInside_B45 b σ x1 x2 x3 x4 x5 0
set_option maxHeartbeats 4000000 in
set_option maxRecDepth 100000 in
theorem w_X8_readInside_B44 {p : Program} {l : Launch} {e : Env} {s : State} {m : MethodId} {args : Array Value} {below : List Frame} {meth : Method} {c : Code} {Q : State → Prop} {D : va_G} {κ : Nat → ClassId} {b : Nat} {H0 : Heap} {rr : Sg} (hZ : sg_Z p c s m args D κ cX8_readInside 8 RX8 wsX8_readInside) (hret : ∀ (u : Sg) (H : Heap) (locs : List Loc) (pc : Nat) (ls : Array Slot), some u = some rr → MW D κ b u H → va_S (sg_A b 16) H0 H locs → decode cX8_readInside pc = .ok (.return_, 1) → W p l e rm_X8_readInside s m args below meth c H locs 0 0 Q (F0 m pc ls [])) : ∀ {σ : Sg} {x1 : Int32} {x2 : Int32} {x3 : Int32} {x4 : Int32} {x5 : Int32} {H : Heap} {locs : List Loc} {ls : Array Slot}, fn_X8_readInside_B44 b σ x1 x2 x3 x4 x5 = some rr → lv_has ls 8 [(0, .ref b), (1, .int x1), (2, .int x2), (3, .int x3), (4, .int x4), (5, .int x5)] → MW D κ b σ H → va_S (sg_A b 16) H0 H locs → W p l e rm_X8_readInside s m args below meth c H locs 0 0 Q (F0 m 44 ls []) := by
  obtain ⟨hx, hb, hml, hown, hts, hK⟩ := hZ
  intro σ x1 x2 x3 x4 x5 H locs ls h hl hC hS
  unfold fn_X8_readInside_B44 at h
  refine lv_iconst (v := 0) hx hb dX8_readInside_44 (by decide) ?_
  exact w_X8_readInside_B45 ⟨hx, hb, hml, hown, hts, hK⟩ hret  h (lv_sub hl [0, 1, 2, 3, 4, 5] rfl) hC hS
def fn_X8_readInside (b : Nat) (σ : Sg) (x1 : Int32) (x2 : Int32) (x3 : Int32) : Option (Sg) :=
  (if sg_ib x2 600 then
  (sg_lt ((σ.1 (b + 1) (sg_x x2)) : Int32) fun v1 =>
  (if sg_ib x1 48 then
  (sg_lt ((((4 * x1) + (σ.1 (b + 7) (sg_x x1))) - 1) : Int32) fun v2 =>
  (if x3 ≤ 2 then
  fn_X8_readInside_B44 b σ x1 x2 x3 v1 v2
  else (if sg_ib (x2 - 1) 600 then
  (if (σ.1 (b + 1) (sg_x (x2 - 1))) = 31 then
  fn_X8_readInside_B45 b σ x1 x2 x3 v1 v2 1
  else fn_X8_readInside_B44 b σ x1 x2 x3 v1 v2)
  else none)))
  else none))
  else none)
set_option maxHeartbeats 4000000 in
set_option maxRecDepth 100000 in
theorem w_X8_readInside_B0 {p : Program} {l : Launch} {e : Env} {s : State} {m : MethodId} {args : Array Value} {below : List Frame} {meth : Method} {c : Code} {Q : State → Prop} {D : va_G} {κ : Nat → ClassId} {b : Nat} {H0 : Heap} {rr : Sg} (hZ : sg_Z p c s m args D κ cX8_readInside 8 RX8 wsX8_readInside) (hret : ∀ (u : Sg) (H : Heap) (locs : List Loc) (pc : Nat) (ls : Array Slot), some u = some rr → MW D κ b u H → va_S (sg_A b 16) H0 H locs → decode cX8_readInside pc = .ok (.return_, 1) → W p l e rm_X8_readInside s m args below meth c H locs 0 0 Q (F0 m pc ls [])) : ∀ {σ : Sg} {x1 : Int32} {x2 : Int32} {x3 : Int32} {H : Heap} {locs : List Loc} {ls : Array Slot}, fn_X8_readInside b σ x1 x2 x3 = some rr → lv_has ls 8 [(0, .ref b), (1, .int x1), (2, .int x2), (3, .int x3)] → MW D κ b σ H → va_S (sg_A b 16) H0 H locs → W p l e rm_X8_readInside s m args below meth c H locs 0 0 Q (F0 m 0 ls []) := by
  obtain ⟨hx, hb, hml, hown, hts, hK⟩ := hZ
  intro σ x1 x2 x3 H locs ls h hl hC hS
  unfold fn_X8_readInside at h
  refine lv_aload_n hx hb dX8_readInside_0 rfl (lv_at hl 0 rfl) ?_
  refine va_get (D := D) (ci := 8) (v := .ref (b + 1)) (C := RX8) (T := TX8) (N := 21) hx hb hts (wqs inW_X8) hown hK.1 hC.1 (b - b) sg_gModel rfl 0 (by decide) (hts _ (wq wt_648)) (fun _ h9 => h9) rfl dX8_readInside_1 ?_
  refine lv_iload_n hx hb dX8_readInside_4 rfl (lv_at hl 2 rfl) ?_
  obtain ⟨hg, h⟩ := sg_gd h
  refine va_iald hx hb hK.1 hC.1 ((b + 1) - b) 0 sg_ga_text rfl (sg_in hg) dX8_readInside_5 ?_
  obtain ⟨v1, ev1, h⟩ := sg_lte h
  refine sg_topi ev1 ?_
  refine lv_istore (lv' := [(4, .int v1), (0, .ref b), (1, .int x1), (2, .int x2), (3, .int x3)]) hx hb dX8_readInside_6 hl (by decide) rfl (fun ls hl => ?_)
  refine lv_iconst (v := 4) hx hb dX8_readInside_8 (by decide) ?_
  refine lv_iload_n hx hb dX8_readInside_9 rfl (lv_at hl 2 rfl) ?_
  refine lv_imul hx hb dX8_readInside_10 ?_
  refine lv_aload_n hx hb dX8_readInside_11 rfl (lv_at hl 1 rfl) ?_
  refine va_get (D := D) (ci := 8) (v := .ref (b + 7)) (C := RX8) (T := TX8) (N := 21) hx hb hts (wqs inW_X8) hown hK.1 hC.1 (b - b) sg_gModel rfl 8 (by decide) (hts _ (wq wt_656)) (fun _ h9 => h9) rfl dX8_readInside_12 ?_
  refine lv_iload_n hx hb dX8_readInside_15 rfl (lv_at hl 2 rfl) ?_
  obtain ⟨hg, h⟩ := sg_gd h
  refine va_iald hx hb hK.1 hC.1 ((b + 7) - b) 0 sg_ga_subfields rfl (sg_in hg) dX8_readInside_16 ?_
  refine lv_iadd hx hb dX8_readInside_17 ?_
  refine lv_iconst (v := 1) hx hb dX8_readInside_18 (by decide) ?_
  refine lv_isub hx hb dX8_readInside_19 ?_
  obtain ⟨v2, ev2, h⟩ := sg_lte h
  refine sg_topi ev2 ?_
  refine lv_istore (lv' := [(5, .int v2), (4, .int v1), (0, .ref b), (1, .int x1), (2, .int x2), (3, .int x3)]) hx hb dX8_readInside_20 hl (by decide) rfl (fun ls hl => ?_)
  refine lv_iload_n hx hb dX8_readInside_22 rfl (lv_at hl 5 rfl) ?_
  refine lv_iconst (v := 2) hx hb dX8_readInside_23 (by decide) ?_
  refine lv_icmp_le (tgt := 44) hx hb dX8_readInside_24 (by decide) (fun hc => ?_) (fun hc => ?_)
  · replace h := (if_pos hc).symm.trans h
    exact w_X8_readInside_B44 ⟨hx, hb, hml, hown, hts, hK⟩ hret  h (lv_sub hl [2, 3, 4, 5, 1, 0] rfl) hC hS
  · replace h := (if_neg hc).symm.trans h
    refine lv_aload_n hx hb dX8_readInside_27 rfl (lv_at hl 2 rfl) ?_
    refine va_get (D := D) (ci := 8) (v := .ref (b + 1)) (C := RX8) (T := TX8) (N := 21) hx hb hts (wqs inW_X8) hown hK.1 hC.1 (b - b) sg_gModel rfl 0 (by decide) (hts _ (wq wt_648)) (fun _ h9 => h9) rfl dX8_readInside_28 ?_
    refine lv_iload_n hx hb dX8_readInside_31 rfl (lv_at hl 4 rfl) ?_
    refine lv_iconst (v := 1) hx hb dX8_readInside_32 (by decide) ?_
    refine lv_isub hx hb dX8_readInside_33 ?_
    obtain ⟨hg, h⟩ := sg_gd h
    refine va_iald hx hb hK.1 hC.1 ((b + 1) - b) 0 sg_ga_text rfl (sg_in hg) dX8_readInside_34 ?_
    refine lv_bipush (v := 31) hx hb dX8_readInside_35 (by decide) ?_
    refine lv_icmp_ne (tgt := 44) hx hb dX8_readInside_37 (by decide) (fun hc => ?_) (fun hc => ?_)
    · replace h := (if_neg hc).symm.trans h
      exact w_X8_readInside_B44 ⟨hx, hb, hml, hown, hts, hK⟩ hret  h (lv_sub hl [2, 3, 4, 5, 1, 0] rfl) hC hS
    · replace h := (if_pos hc).symm.trans h
      refine lv_iconst (v := 1) hx hb dX8_readInside_40 (by decide) ?_
      refine lv_goto (tgt := 45) hx hb dX8_readInside_41 (by decide) ?_
      exact w_X8_readInside_B45 ⟨hx, hb, hml, hown, hts, hK⟩ hret  h (lv_sub hl [2, 3, 4, 5, 1, 0] rfl) hC hS
set_option maxHeartbeats 4000000 in
set_option maxRecDepth 100000 in
theorem c_X8_readInside (l : Launch) (D : va_G) (κ : Nat → ClassId) (b : Nat) (σ : Sg) (x1 : Int32) (x2 : Int32) (x3 : Int32) (rr : Sg)  (h : fn_X8_readInside b σ x1 x2 x3 = some rr) : Met l yX8_readInside wsX8_readInside rm_X8_readInside (va_Pc [.ref b, .int x1, .int x2, .int x3] (fun U => KK D κ U ∧ MW D κ b σ U.heap)) (va_Qv (fun u : Sg => u = rr) (fun u t => MW D κ b u t.heap) (sg_A b 16)) 0 0 (sg_A b 16) := by
  refine Met.ofW (cc := cX8_readInside) (maxL := 8) (ret := none) (by decide) rfl ?_
  intro p e s m args below meth c s₁ B hml hv
  obtain ⟨rfl, hK, hC⟩ := hv
  have hr := B.returns
  have hlocks := B.notSynchronized
  have hl := lv_entry ([.ref b, .int x1, .int x2, .int x3]) (n := 8) (Nat.le_of_ble_eq_true rfl)
  rw [lg_entry_eq]
  generalize (lg_sl ([.ref b, .int x1, .int x2, .int x3]) ++ List.replicate (8 - (lg_sl ([.ref b, .int x1, .int x2, .int x3])).length) Slot.unset).toArray = ls at hl ⊢
  have hl : lv_has ls 8 [(0, .ref b), (1, .int x1), (2, .int x2), (3, .int x3)] := hl
  exact w_X8_readInside_B0 ⟨B.exec, B.bytes, hml, findClass_of_methodNamed B.named, atoms_spec (ws := wsX8_readInside) B.pre, hK⟩ (fun u H locs pc ls hq hC hS hd => W.vret B.exec B.bytes hr (fun t ht hW => ⟨⟨_, rfl, Option.some.inj hq, MW_e ht hC⟩, hS.F ht⟩) hS.2.2 hd) h  hl hC va_S.rf

-- RecordShelfModel.readField(III)V
theorem dX8_readField_0 : decode cX8_readField 0 = .ok (.aload_n 0, 1) := by decide +kernel
theorem dX8_readField_1 : decode cX8_readField 1 = .ok (.getfield 28, 3) := by decide +kernel
theorem dX8_readField_4 : decode cX8_readField 4 = .ok (.iload_n 1, 1) := by decide +kernel
theorem dX8_readField_5 : decode cX8_readField 5 = .ok (.iconst 0, 1) := by decide +kernel
theorem dX8_readField_6 : decode cX8_readField 6 = .ok (.iastore, 1) := by decide +kernel
theorem dX8_readField_7 : decode cX8_readField 7 = .ok (.iconst 0, 1) := by decide +kernel
theorem dX8_readField_8 : decode cX8_readField 8 = .ok (.istore 4, 2) := by decide +kernel
theorem dX8_readField_10 : decode cX8_readField 10 = .ok (.iload 4, 2) := by decide +kernel
theorem dX8_readField_12 : decode cX8_readField 12 = .ok (.iload_n 3, 1) := by decide +kernel
theorem dX8_readField_13 : decode cX8_readField 13 = .ok (.iconst 1, 1) := by decide +kernel
theorem dX8_readField_14 : decode cX8_readField 14 = .ok (.isub, 1) := by decide +kernel
theorem dX8_readField_15 : decode cX8_readField 15 = .ok (.if_icmp .ge 27, 3) := by decide +kernel
theorem dX8_readField_18 : decode cX8_readField 18 = .ok (.aload_n 0, 1) := by decide +kernel
theorem dX8_readField_19 : decode cX8_readField 19 = .ok (.getfield 72, 3) := by decide +kernel
theorem dX8_readField_22 : decode cX8_readField 22 = .ok (.ifCond .ne 20, 3) := by decide +kernel
theorem dX8_readField_25 : decode cX8_readField 25 = .ok (.aload_n 0, 1) := by decide +kernel
theorem dX8_readField_26 : decode cX8_readField 26 = .ok (.iload_n 1, 1) := by decide +kernel
theorem dX8_readField_27 : decode cX8_readField 27 = .ok (.iload_n 2, 1) := by decide +kernel
theorem dX8_readField_28 : decode cX8_readField 28 = .ok (.iload 4, 2) := by decide +kernel
theorem dX8_readField_30 : decode cX8_readField 30 = .ok (.iadd, 1) := by decide +kernel
theorem dX8_readField_31 : decode cX8_readField 31 = .ok (.iload 4, 2) := by decide +kernel
theorem dX8_readField_33 : decode cX8_readField 33 = .ok (.invokevirtual 105, 3) := by decide +kernel
theorem dX8_readField_36 : decode cX8_readField 36 = .ok (.iinc 4 1, 3) := by decide +kernel
theorem dX8_readField_39 : decode cX8_readField 39 = .ok (.goto (-29), 3) := by decide +kernel
theorem dX8_readField_42 : decode cX8_readField 42 = .ok (.iload_n 2, 1) := by decide +kernel
theorem dX8_readField_43 : decode cX8_readField 43 = .ok (.iload_n 3, 1) := by decide +kernel
theorem dX8_readField_44 : decode cX8_readField 44 = .ok (.iadd, 1) := by decide +kernel
theorem dX8_readField_45 : decode cX8_readField 45 = .ok (.iconst 1, 1) := by decide +kernel
theorem dX8_readField_46 : decode cX8_readField 46 = .ok (.isub, 1) := by decide +kernel
theorem dX8_readField_47 : decode cX8_readField 47 = .ok (.istore 4, 2) := by decide +kernel
theorem dX8_readField_49 : decode cX8_readField 49 = .ok (.iload_n 3, 1) := by decide +kernel
theorem dX8_readField_50 : decode cX8_readField 50 = .ok (.iconst 5, 1) := by decide +kernel
theorem dX8_readField_51 : decode cX8_readField 51 = .ok (.if_icmp .lt 29, 3) := by decide +kernel
theorem dX8_readField_54 : decode cX8_readField 54 = .ok (.aload_n 0, 1) := by decide +kernel
theorem dX8_readField_55 : decode cX8_readField 55 = .ok (.getfield 7, 3) := by decide +kernel
theorem dX8_readField_58 : decode cX8_readField 58 = .ok (.iload 4, 2) := by decide +kernel
theorem dX8_readField_60 : decode cX8_readField 60 = .ok (.iaload, 1) := by decide +kernel
theorem dX8_readField_61 : decode cX8_readField 61 = .ok (.bipush 30, 2) := by decide +kernel
theorem dX8_readField_63 : decode cX8_readField 63 = .ok (.if_icmp .ne 17, 3) := by decide +kernel
theorem dX8_readField_66 : decode cX8_readField 66 = .ok (.aload_n 0, 1) := by decide +kernel
theorem dX8_readField_67 : decode cX8_readField 67 = .ok (.getfield 7, 3) := by decide +kernel
theorem dX8_readField_70 : decode cX8_readField 70 = .ok (.iload 4, 2) := by decide +kernel
theorem dX8_readField_72 : decode cX8_readField 72 = .ok (.iconst 1, 1) := by decide +kernel
theorem dX8_readField_73 : decode cX8_readField 73 = .ok (.isub, 1) := by decide +kernel
theorem dX8_readField_74 : decode cX8_readField 74 = .ok (.iaload, 1) := by decide +kernel
theorem dX8_readField_75 : decode cX8_readField 75 = .ok (.bipush 31, 2) := by decide +kernel
theorem dX8_readField_77 : decode cX8_readField 77 = .ok (.if_icmp .ne 11, 3) := by decide +kernel
theorem dX8_readField_80 : decode cX8_readField 80 = .ok (.aload_n 0, 1) := by decide +kernel
theorem dX8_readField_81 : decode cX8_readField 81 = .ok (.bipush (-6), 2) := by decide +kernel
theorem dX8_readField_83 : decode cX8_readField 83 = .ok (.iload 4, 2) := by decide +kernel
theorem dX8_readField_85 : decode cX8_readField 85 = .ok (.invokevirtual 82, 3) := by decide +kernel
theorem dX8_readField_88 : decode cX8_readField 88 = .ok (.return_, 1) := by decide +kernel
def rm_X8_readField : Room := { frames := 3, cells := 0, slots := 0, locals := 67 }
def fn_X8_readField_B80 (b : Nat) (σ : Sg) (x4 : Int32) : Option (Sg) :=
  ((fn_X8_fail b σ (-6) x4).bind fun r1 =>
  some r1)
set_option maxHeartbeats 4000000 in
set_option maxRecDepth 100000 in
theorem w_X8_readField_B80 {p : Program} {l : Launch} {e : Env} {s : State} {m : MethodId} {args : Array Value} {below : List Frame} {meth : Method} {c : Code} {Q : State → Prop} {D : va_G} {κ : Nat → ClassId} {b : Nat} {H0 : Heap} {rr : Sg} (hZ : sg_Z p c s m args D κ cX8_readField 5 RX8 wsX8_readField) (hret : ∀ (u : Sg) (H : Heap) (locs : List Loc) (pc : Nat) (ls : Array Slot), some u = some rr → MW D κ b u H → va_S (sg_A b 16) H0 H locs → decode cX8_readField pc = .ok (.return_, 1) → W p l e rm_X8_readField s m args below meth c H locs 0 0 Q (F0 m pc ls [])) : ∀ {σ : Sg} {x4 : Int32} {H : Heap} {locs : List Loc} {ls : Array Slot}, fn_X8_readField_B80 b σ x4 = some rr → lv_has ls 5 [(0, .ref b), (4, .int x4)] → MW D κ b σ H → va_S (sg_A b 16) H0 H locs → W p l e rm_X8_readField s m args below meth c H locs 0 0 Q (F0 m 80 ls []) := by
  obtain ⟨hx, hb, hml, hown, hts, hK⟩ := hZ
  intro σ x4 H locs ls h hl hC hS
  unfold fn_X8_readField_B80 at h
  refine lv_aload_n hx hb dX8_readField_80 rfl (lv_at hl 0 rfl) ?_
  refine lv_bipush (v := (-6)) hx hb dX8_readField_81 (by decide) ?_
  refine lv_iload hx hb dX8_readField_83 (lv_at hl 1 rfl) ?_
  obtain ⟨r1, er1, h⟩ := Option.bind_eq_some_iff.mp h
  refine va_callv (va_runV (As := [.int (-6), .int x4]) (rest := []) ⟨hx, hb, hml, hown, hts⟩ (c_X8_fail l D κ b σ (-6) x4 _ er1) (cwV 2 hts (gwV wt_737 wt_739 wp_32 wt_9 wt_740) rfl rfl rfl (by decide +kernel) ⟨Nat.le_of_ble_eq_true rfl, Nat.le_of_ble_eq_true rfl⟩) (MW_preV hK hC sg_gModel rfl) rfl rfl hl.1 rfl (lv_room (Nat.le_of_ble_eq_true rfl)) dX8_readField_85 ⟨Nat.zero_le _, Nat.zero_le _⟩) hS (fun _ _ h => h) (fun _ h => h) (fun u t H locs ht _ hp hB _ _ hS => ?_)
  have hC : MW D κ b r1 H := MW_b hB ht hp
  exact hret _ _ _ _ _ h hC hS dX8_readField_88
def fn_X8_readField_B42 (b : Nat) (σ : Sg) (x2 : Int32) (x3 : Int32) : Option (Sg) :=
  (sg_lt (((x2 + x3) - 1) : Int32) fun v1 =>
  (if x3 < 5 then
  fn_X8_readField_B80 b σ v1
  else (if sg_ib v1 600 then
  (if (σ.1 (b + 1) (sg_x v1)) = 30 then
  (if sg_ib (v1 - 1) 600 then
  (if (σ.1 (b + 1) (sg_x (v1 - 1))) = 31 then
  fn_X8_readField_B80 b σ v1
  else some σ)
  else none)
  else fn_X8_readField_B80 b σ v1)
  else none)))
set_option maxHeartbeats 4000000 in
set_option maxRecDepth 100000 in
theorem w_X8_readField_B42 {p : Program} {l : Launch} {e : Env} {s : State} {m : MethodId} {args : Array Value} {below : List Frame} {meth : Method} {c : Code} {Q : State → Prop} {D : va_G} {κ : Nat → ClassId} {b : Nat} {H0 : Heap} {rr : Sg} (hZ : sg_Z p c s m args D κ cX8_readField 5 RX8 wsX8_readField) (hret : ∀ (u : Sg) (H : Heap) (locs : List Loc) (pc : Nat) (ls : Array Slot), some u = some rr → MW D κ b u H → va_S (sg_A b 16) H0 H locs → decode cX8_readField pc = .ok (.return_, 1) → W p l e rm_X8_readField s m args below meth c H locs 0 0 Q (F0 m pc ls [])) : ∀ {σ : Sg} {x2 : Int32} {x3 : Int32} {H : Heap} {locs : List Loc} {ls : Array Slot}, fn_X8_readField_B42 b σ x2 x3 = some rr → lv_has ls 5 [(0, .ref b), (2, .int x2), (3, .int x3)] → MW D κ b σ H → va_S (sg_A b 16) H0 H locs → W p l e rm_X8_readField s m args below meth c H locs 0 0 Q (F0 m 42 ls []) := by
  obtain ⟨hx, hb, hml, hown, hts, hK⟩ := hZ
  intro σ x2 x3 H locs ls h hl hC hS
  unfold fn_X8_readField_B42 at h
  refine lv_iload_n hx hb dX8_readField_42 rfl (lv_at hl 1 rfl) ?_
  refine lv_iload_n hx hb dX8_readField_43 rfl (lv_at hl 2 rfl) ?_
  refine lv_iadd hx hb dX8_readField_44 ?_
  refine lv_iconst (v := 1) hx hb dX8_readField_45 (by decide) ?_
  refine lv_isub hx hb dX8_readField_46 ?_
  obtain ⟨v1, ev1, h⟩ := sg_lte h
  refine sg_topi ev1 ?_
  refine lv_istore (lv' := [(4, .int v1), (0, .ref b), (2, .int x2), (3, .int x3)]) hx hb dX8_readField_47 hl (by decide) rfl (fun ls hl => ?_)
  refine lv_iload_n hx hb dX8_readField_49 rfl (lv_at hl 3 rfl) ?_
  refine lv_iconst (v := 5) hx hb dX8_readField_50 (by decide) ?_
  refine lv_icmp_lt (tgt := 80) hx hb dX8_readField_51 (by decide) (fun hc => ?_) (fun hc => ?_)
  · replace h := (if_pos hc).symm.trans h
    exact w_X8_readField_B80 ⟨hx, hb, hml, hown, hts, hK⟩ hret  h (lv_sub hl [1, 0] rfl) hC hS
  · replace h := (if_neg hc).symm.trans h
    refine lv_aload_n hx hb dX8_readField_54 rfl (lv_at hl 1 rfl) ?_
    refine va_get (D := D) (ci := 8) (v := .ref (b + 1)) (C := RX8) (T := TX8) (N := 21) hx hb hts (wqs inW_X8) hown hK.1 hC.1 (b - b) sg_gModel rfl 0 (by decide) (hts _ (wq wt_648)) (fun _ h9 => h9) rfl dX8_readField_55 ?_
    refine lv_iload hx hb dX8_readField_58 (lv_at hl 0 rfl) ?_
    obtain ⟨hg, h⟩ := sg_gd h
    refine va_iald hx hb hK.1 hC.1 ((b + 1) - b) 0 sg_ga_text rfl (sg_in hg) dX8_readField_60 ?_
    refine lv_bipush (v := 30) hx hb dX8_readField_61 (by decide) ?_
    refine lv_icmp_ne (tgt := 80) hx hb dX8_readField_63 (by decide) (fun hc => ?_) (fun hc => ?_)
    · replace h := (if_neg hc).symm.trans h
      exact w_X8_readField_B80 ⟨hx, hb, hml, hown, hts, hK⟩ hret  h (lv_sub hl [1, 0] rfl) hC hS
    · replace h := (if_pos hc).symm.trans h
      refine lv_aload_n hx hb dX8_readField_66 rfl (lv_at hl 1 rfl) ?_
      refine va_get (D := D) (ci := 8) (v := .ref (b + 1)) (C := RX8) (T := TX8) (N := 21) hx hb hts (wqs inW_X8) hown hK.1 hC.1 (b - b) sg_gModel rfl 0 (by decide) (hts _ (wq wt_648)) (fun _ h9 => h9) rfl dX8_readField_67 ?_
      refine lv_iload hx hb dX8_readField_70 (lv_at hl 0 rfl) ?_
      refine lv_iconst (v := 1) hx hb dX8_readField_72 (by decide) ?_
      refine lv_isub hx hb dX8_readField_73 ?_
      obtain ⟨hg, h⟩ := sg_gd h
      refine va_iald hx hb hK.1 hC.1 ((b + 1) - b) 0 sg_ga_text rfl (sg_in hg) dX8_readField_74 ?_
      refine lv_bipush (v := 31) hx hb dX8_readField_75 (by decide) ?_
      refine lv_icmp_ne (tgt := 88) hx hb dX8_readField_77 (by decide) (fun hc => ?_) (fun hc => ?_)
      · replace h := (if_neg hc).symm.trans h
        exact hret _ _ _ _ _ h hC hS dX8_readField_88
      · replace h := (if_pos hc).symm.trans h
        exact w_X8_readField_B80 ⟨hx, hb, hml, hown, hts, hK⟩ hret  h (lv_sub hl [1, 0] rfl) hC hS
def fn_X8_readField_B10b (b : Nat) (z10 : Sg → Int32 → Int32 → Int32 → Int32 → Option (Sg)) (σ : Sg) (x1 : Int32) (x2 : Int32) (x3 : Int32) (x4 : Int32) : Option (Sg) :=
  (if ((x3 - 1) : Int32) ≤ x4 then
  fn_X8_readField_B42 b σ x2 x3
  else (if (σ.1 b 12) = 0 then
  ((fn_X8_readInside b σ x1 (x2 + x4) x4).bind fun r1 =>
  (sg_lt (x4 + 1 : Int32) fun v2 =>
  z10 r1 x1 x2 x3 v2))
  else fn_X8_readField_B42 b σ x2 x3))
def fn_X8_readField_B10 (b : Nat) : Nat → Sg → Int32 → Int32 → Int32 → Int32 → Option (Sg)
  | 0 => fun _ _ _ _ _ => none
  | n + 1 => fun σ x1 x2 x3 x4 => fn_X8_readField_B10b b (fn_X8_readField_B10 b n) σ x1 x2 x3 x4
set_option maxHeartbeats 4000000 in
set_option maxRecDepth 100000 in
theorem w_X8_readField_B10b {p : Program} {l : Launch} {e : Env} {s : State} {m : MethodId} {args : Array Value} {below : List Frame} {meth : Method} {c : Code} {Q : State → Prop} {D : va_G} {κ : Nat → ClassId} {b : Nat} {H0 : Heap} {rr : Sg} (hZ : sg_Z p c s m args D κ cX8_readField 5 RX8 wsX8_readField) (hret : ∀ (u : Sg) (H : Heap) (locs : List Loc) (pc : Nat) (ls : Array Slot), some u = some rr → MW D κ b u H → va_S (sg_A b 16) H0 H locs → decode cX8_readField pc = .ok (.return_, 1) → W p l e rm_X8_readField s m args below meth c H locs 0 0 Q (F0 m pc ls [])) {z10 : Sg → Int32 → Int32 → Int32 → Int32 → Option (Sg)} (hr10 : ∀ {σ : Sg} {x1 : Int32} {x2 : Int32} {x3 : Int32} {x4 : Int32} {H : Heap} {locs : List Loc} {ls : Array Slot}, z10 σ x1 x2 x3 x4 = some rr → lv_has ls 5 [(0, .ref b), (1, .int x1), (2, .int x2), (3, .int x3), (4, .int x4)] → MW D κ b σ H → va_S (sg_A b 16) H0 H locs → W p l e rm_X8_readField s m args below meth c H locs 0 0 Q (F0 m 10 ls [])) : ∀ {σ : Sg} {x1 : Int32} {x2 : Int32} {x3 : Int32} {x4 : Int32} {H : Heap} {locs : List Loc} {ls : Array Slot}, fn_X8_readField_B10b b z10 σ x1 x2 x3 x4 = some rr → lv_has ls 5 [(0, .ref b), (1, .int x1), (2, .int x2), (3, .int x3), (4, .int x4)] → MW D κ b σ H → va_S (sg_A b 16) H0 H locs → W p l e rm_X8_readField s m args below meth c H locs 0 0 Q (F0 m 10 ls []) := by
  obtain ⟨hx, hb, hml, hown, hts, hK⟩ := hZ
  intro σ x1 x2 x3 x4 H locs ls h hl hC hS
  unfold fn_X8_readField_B10b at h
  refine lv_iload hx hb dX8_readField_10 (lv_at hl 4 rfl) ?_
  refine lv_iload_n hx hb dX8_readField_12 rfl (lv_at hl 3 rfl) ?_
  refine lv_iconst (v := 1) hx hb dX8_readField_13 (by decide) ?_
  refine lv_isub hx hb dX8_readField_14 ?_
  refine lv_icmp_ge (tgt := 42) hx hb dX8_readField_15 (by decide) (fun hc => ?_) (fun hc => ?_)
  · replace h := (if_pos hc).symm.trans h
    exact w_X8_readField_B42 ⟨hx, hb, hml, hown, hts, hK⟩ hret  h (lv_sub hl [0, 2, 3] rfl) hC hS
  · replace h := (if_neg hc).symm.trans h
    refine lv_aload_n hx hb dX8_readField_18 rfl (lv_at hl 0 rfl) ?_
    refine va_get (D := D) (ci := 8) (v := .int (σ.1 b 12)) (C := RX8) (T := TX8) (N := 21) hx hb hts (wqs inW_X8) hown hK.1 hC.1 (b - b) sg_gModel rfl 12 (by decide) (hts _ (wq wt_660)) (fun _ h9 => h9) rfl dX8_readField_19 ?_
    refine lv_if_ne (tgt := 42) hx hb dX8_readField_22 (by decide) (fun hc => ?_) (fun hc => ?_)
    · replace h := (if_neg hc).symm.trans h
      exact w_X8_readField_B42 ⟨hx, hb, hml, hown, hts, hK⟩ hret  h (lv_sub hl [0, 2, 3] rfl) hC hS
    · replace h := (if_pos hc).symm.trans h
      refine lv_aload_n hx hb dX8_readField_25 rfl (lv_at hl 0 rfl) ?_
      refine lv_iload_n hx hb dX8_readField_26 rfl (lv_at hl 1 rfl) ?_
      refine lv_iload_n hx hb dX8_readField_27 rfl (lv_at hl 2 rfl) ?_
      refine lv_iload hx hb dX8_readField_28 (lv_at hl 4 rfl) ?_
      refine lv_iadd hx hb dX8_readField_30 ?_
      refine lv_iload hx hb dX8_readField_31 (lv_at hl 4 rfl) ?_
      obtain ⟨r1, er1, h⟩ := Option.bind_eq_some_iff.mp h
      refine va_callv (va_runV (As := [.int x1, .int (x2 + x4), .int x4]) (rest := []) ⟨hx, hb, hml, hown, hts⟩ (c_X8_readInside l D κ b σ x1 (x2 + x4) x4 _ er1) (cwV 3 hts (gwV wt_778 wt_780 wp_40 wt_9 wt_781) rfl rfl rfl (by decide +kernel) ⟨Nat.le_of_ble_eq_true rfl, Nat.le_of_ble_eq_true rfl⟩) (MW_preV hK hC sg_gModel rfl) rfl rfl hl.1 rfl (lv_room (Nat.le_of_ble_eq_true rfl)) dX8_readField_33 ⟨Nat.zero_le _, Nat.zero_le _⟩) hS (fun _ _ h => h) (fun _ h => h) (fun u t H locs ht _ hp hB _ _ hS => ?_)
      have hC : MW D κ b r1 H := MW_b hB ht hp
      obtain ⟨v2, ev2, h⟩ := sg_lte h
      refine lv_iinc (v := v2) (lv' := [(4, .int v2), (0, .ref b), (1, .int x1), (2, .int x2), (3, .int x3)]) (k := 4) hx hb dX8_readField_36 hl rfl (sg_inc (by decide) ev2) (by decide) rfl (fun ls hl => ?_)
      refine lv_goto (tgt := 10) hx hb dX8_readField_39 (by decide) ?_
      exact hr10 h (lv_sub hl [1, 2, 3, 4, 0] rfl) hC hS
set_option maxHeartbeats 4000000 in
theorem w_X8_readField_B10 {p : Program} {l : Launch} {e : Env} {s : State} {m : MethodId} {args : Array Value} {below : List Frame} {meth : Method} {c : Code} {Q : State → Prop} {D : va_G} {κ : Nat → ClassId} {b : Nat} {H0 : Heap} {rr : Sg} (hZ : sg_Z p c s m args D κ cX8_readField 5 RX8 wsX8_readField) (hret : ∀ (u : Sg) (H : Heap) (locs : List Loc) (pc : Nat) (ls : Array Slot), some u = some rr → MW D κ b u H → va_S (sg_A b 16) H0 H locs → decode cX8_readField pc = .ok (.return_, 1) → W p l e rm_X8_readField s m args below meth c H locs 0 0 Q (F0 m pc ls [])) : ∀ n : Nat, ∀ {σ : Sg} {x1 : Int32} {x2 : Int32} {x3 : Int32} {x4 : Int32} {H : Heap} {locs : List Loc} {ls : Array Slot}, fn_X8_readField_B10 b n σ x1 x2 x3 x4 = some rr → lv_has ls 5 [(0, .ref b), (1, .int x1), (2, .int x2), (3, .int x3), (4, .int x4)] → MW D κ b σ H → va_S (sg_A b 16) H0 H locs → W p l e rm_X8_readField s m args below meth c H locs 0 0 Q (F0 m 10 ls []) := by
  intro n
  induction n with
  | zero => intro σ x1 x2 x3 x4 H locs ls h hl hC hS; cases (show (none : Option (Sg)) = some rr from h)
  | succ n ih =>
    intro σ x1 x2 x3 x4 H locs ls h hl hC hS
    exact w_X8_readField_B10b hZ hret ih (show fn_X8_readField_B10b b (fn_X8_readField_B10 b n) σ x1 x2 x3 x4 = some rr from h)  hl hC hS
def fn_X8_readField (b : Nat) (σ : Sg) (x1 : Int32) (x2 : Int32) (x3 : Int32) : Option (Sg) :=
  (if sg_ib x1 48 then
  (sg_lt (sg_w σ (b + 7) (sg_x x1) 0) fun σ1 =>
  fn_X8_readField_B10 b sg_N σ1 x1 x2 x3 0)
  else none)
set_option maxHeartbeats 4000000 in
set_option maxRecDepth 100000 in
theorem w_X8_readField_B0 {p : Program} {l : Launch} {e : Env} {s : State} {m : MethodId} {args : Array Value} {below : List Frame} {meth : Method} {c : Code} {Q : State → Prop} {D : va_G} {κ : Nat → ClassId} {b : Nat} {H0 : Heap} {rr : Sg} (hZ : sg_Z p c s m args D κ cX8_readField 5 RX8 wsX8_readField) (hret : ∀ (u : Sg) (H : Heap) (locs : List Loc) (pc : Nat) (ls : Array Slot), some u = some rr → MW D κ b u H → va_S (sg_A b 16) H0 H locs → decode cX8_readField pc = .ok (.return_, 1) → W p l e rm_X8_readField s m args below meth c H locs 0 0 Q (F0 m pc ls [])) : ∀ {σ : Sg} {x1 : Int32} {x2 : Int32} {x3 : Int32} {H : Heap} {locs : List Loc} {ls : Array Slot}, fn_X8_readField b σ x1 x2 x3 = some rr → lv_has ls 5 [(0, .ref b), (1, .int x1), (2, .int x2), (3, .int x3)] → MW D κ b σ H → va_S (sg_A b 16) H0 H locs → W p l e rm_X8_readField s m args below meth c H locs 0 0 Q (F0 m 0 ls []) := by
  obtain ⟨hx, hb, hml, hown, hts, hK⟩ := hZ
  intro σ x1 x2 x3 H locs ls h hl hC hS
  unfold fn_X8_readField at h
  refine lv_aload_n hx hb dX8_readField_0 rfl (lv_at hl 0 rfl) ?_
  refine va_get (D := D) (ci := 8) (v := .ref (b + 7)) (C := RX8) (T := TX8) (N := 21) hx hb hts (wqs inW_X8) hown hK.1 hC.1 (b - b) sg_gModel rfl 8 (by decide) (hts _ (wq wt_656)) (fun _ h9 => h9) rfl dX8_readField_1 ?_
  refine lv_iload_n hx hb dX8_readField_4 rfl (lv_at hl 1 rfl) ?_
  refine lv_iconst (v := 0) hx hb dX8_readField_5 (by decide) ?_
  obtain ⟨hg, h⟩ := sg_gd h
  refine va_iast hx hb hK.1 hC.1 sg_D hS ((b + 7) - b) 0 sg_ga_subfields rfl (sg_in hg) dX8_readField_6 (fun H locs hP _ hS => ?_)
  obtain ⟨σ1, eσ1, h⟩ := sg_lte h
  have hC : MW D κ b σ1 H := eσ1 ▸ MW_put (k := sg_x x1) (v := 0) hC sg_aa_subfields (sg_ya_subfields _ _) hP
  refine lv_iconst (v := 0) hx hb dX8_readField_7 (by decide) ?_
  refine lv_istore (lv' := [(4, .int 0), (0, .ref b), (1, .int x1), (2, .int x2), (3, .int x3)]) hx hb dX8_readField_8 hl (by decide) rfl (fun ls hl => ?_)
  exact w_X8_readField_B10 ⟨hx, hb, hml, hown, hts, hK⟩ hret  sg_N h (lv_sub hl [1, 2, 3, 4, 0] rfl) hC hS
set_option maxHeartbeats 4000000 in
set_option maxRecDepth 100000 in
theorem c_X8_readField (l : Launch) (D : va_G) (κ : Nat → ClassId) (b : Nat) (σ : Sg) (x1 : Int32) (x2 : Int32) (x3 : Int32) (rr : Sg)  (h : fn_X8_readField b σ x1 x2 x3 = some rr) : Met l yX8_readField wsX8_readField rm_X8_readField (va_Pc [.ref b, .int x1, .int x2, .int x3] (fun U => KK D κ U ∧ MW D κ b σ U.heap)) (va_Qv (fun u : Sg => u = rr) (fun u t => MW D κ b u t.heap) (sg_A b 16)) 0 0 (sg_A b 16) := by
  refine Met.ofW (cc := cX8_readField) (maxL := 5) (ret := none) (by decide) rfl ?_
  intro p e s m args below meth c s₁ B hml hv
  obtain ⟨rfl, hK, hC⟩ := hv
  have hr := B.returns
  have hlocks := B.notSynchronized
  have hl := lv_entry ([.ref b, .int x1, .int x2, .int x3]) (n := 5) (Nat.le_of_ble_eq_true rfl)
  rw [lg_entry_eq]
  generalize (lg_sl ([.ref b, .int x1, .int x2, .int x3]) ++ List.replicate (5 - (lg_sl ([.ref b, .int x1, .int x2, .int x3])).length) Slot.unset).toArray = ls at hl ⊢
  have hl : lv_has ls 5 [(0, .ref b), (1, .int x1), (2, .int x2), (3, .int x3)] := hl
  exact w_X8_readField_B0 ⟨B.exec, B.bytes, hml, findClass_of_methodNamed B.named, atoms_spec (ws := wsX8_readField) B.pre, hK⟩ (fun u H locs pc ls hq hC hS hd => W.vret B.exec B.bytes hr (fun t ht hW => ⟨⟨_, rfl, Option.some.inj hq, MW_e ht hC⟩, hS.F ht⟩) hS.2.2 hd) h  hl hC va_S.rf

-- RecordShelfModel.read()I
theorem dX8_read_0 : decode cX8_read 0 = .ok (.aload_n 0, 1) := by decide +kernel
theorem dX8_read_1 : decode cX8_read 1 = .ok (.iconst 0, 1) := by decide +kernel
theorem dX8_read_2 : decode cX8_read 2 = .ok (.putfield 72, 3) := by decide +kernel
theorem dX8_read_5 : decode cX8_read 5 = .ok (.aload_n 0, 1) := by decide +kernel
theorem dX8_read_6 : decode cX8_read 6 = .ok (.iconst (-1), 1) := by decide +kernel
theorem dX8_read_7 : decode cX8_read 7 = .ok (.putfield 40, 3) := by decide +kernel
theorem dX8_read_10 : decode cX8_read 10 = .ok (.aload_n 0, 1) := by decide +kernel
theorem dX8_read_11 : decode cX8_read 11 = .ok (.getfield 109, 3) := by decide +kernel
theorem dX8_read_14 : decode cX8_read 14 = .ok (.bipush 6, 2) := by decide +kernel
theorem dX8_read_16 : decode cX8_read 16 = .ok (.if_icmp .ne 6, 3) := by decide +kernel
theorem dX8_read_19 : decode cX8_read 19 = .ok (.bipush (-2), 2) := by decide +kernel
theorem dX8_read_21 : decode cX8_read 21 = .ok (.ireturn, 1) := by decide +kernel
theorem dX8_read_22 : decode cX8_read 22 = .ok (.aload_n 0, 1) := by decide +kernel
theorem dX8_read_23 : decode cX8_read 23 = .ok (.getfield 109, 3) := by decide +kernel
theorem dX8_read_26 : decode cX8_read 26 = .ok (.istore_n 1, 1) := by decide +kernel
theorem dX8_read_27 : decode cX8_read 27 = .ok (.aload_n 0, 1) := by decide +kernel
theorem dX8_read_28 : decode cX8_read 28 = .ok (.invokevirtual 112, 3) := by decide +kernel
theorem dX8_read_31 : decode cX8_read 31 = .ok (.istore_n 2, 1) := by decide +kernel
theorem dX8_read_32 : decode cX8_read 32 = .ok (.bipush 25, 2) := by decide +kernel
theorem dX8_read_34 : decode cX8_read 34 = .ok (.bipush 12, 2) := by decide +kernel
theorem dX8_read_36 : decode cX8_read 36 = .ok (.iload_n 2, 1) := by decide +kernel
theorem dX8_read_37 : decode cX8_read 37 = .ok (.imul, 1) := by decide +kernel
theorem dX8_read_38 : decode cX8_read 38 = .ok (.iadd, 1) := by decide +kernel
theorem dX8_read_39 : decode cX8_read 39 = .ok (.istore_n 3, 1) := by decide +kernel
theorem dX8_read_40 : decode cX8_read 40 = .ok (.iconst 0, 1) := by decide +kernel
theorem dX8_read_41 : decode cX8_read 41 = .ok (.istore 4, 2) := by decide +kernel
theorem dX8_read_43 : decode cX8_read 43 = .ok (.iconst 0, 1) := by decide +kernel
theorem dX8_read_44 : decode cX8_read 44 = .ok (.istore 5, 2) := by decide +kernel
theorem dX8_read_46 : decode cX8_read 46 = .ok (.iload 5, 2) := by decide +kernel
theorem dX8_read_48 : decode cX8_read 48 = .ok (.iload_n 2, 1) := by decide +kernel
theorem dX8_read_49 : decode cX8_read 49 = .ok (.if_icmp .ge 37, 3) := by decide +kernel
theorem dX8_read_52 : decode cX8_read 52 = .ok (.aload_n 0, 1) := by decide +kernel
theorem dX8_read_53 : decode cX8_read 53 = .ok (.getfield 72, 3) := by decide +kernel
theorem dX8_read_56 : decode cX8_read 56 = .ok (.ifCond .ne 30, 3) := by decide +kernel
theorem dX8_read_59 : decode cX8_read 59 = .ok (.aload_n 0, 1) := by decide +kernel
theorem dX8_read_60 : decode cX8_read 60 = .ok (.iload_n 1, 1) := by decide +kernel
theorem dX8_read_61 : decode cX8_read 61 = .ok (.iload 5, 2) := by decide +kernel
theorem dX8_read_63 : decode cX8_read 63 = .ok (.iload 4, 2) := by decide +kernel
theorem dX8_read_65 : decode cX8_read 65 = .ok (.invokevirtual 116, 3) := by decide +kernel
theorem dX8_read_68 : decode cX8_read 68 = .ok (.iload 4, 2) := by decide +kernel
theorem dX8_read_70 : decode cX8_read 70 = .ok (.aload_n 0, 1) := by decide +kernel
theorem dX8_read_71 : decode cX8_read 71 = .ok (.getfield 44, 3) := by decide +kernel
theorem dX8_read_74 : decode cX8_read 74 = .ok (.iload 5, 2) := by decide +kernel
theorem dX8_read_76 : decode cX8_read 76 = .ok (.iaload, 1) := by decide +kernel
theorem dX8_read_77 : decode cX8_read 77 = .ok (.iadd, 1) := by decide +kernel
theorem dX8_read_78 : decode cX8_read 78 = .ok (.istore 4, 2) := by decide +kernel
theorem dX8_read_80 : decode cX8_read 80 = .ok (.iinc 5 1, 3) := by decide +kernel
theorem dX8_read_83 : decode cX8_read 83 = .ok (.goto (-37), 3) := by decide +kernel
theorem dX8_read_86 : decode cX8_read 86 = .ok (.aload_n 0, 1) := by decide +kernel
theorem dX8_read_87 : decode cX8_read 87 = .ok (.getfield 72, 3) := by decide +kernel
theorem dX8_read_90 : decode cX8_read 90 = .ok (.ifCond .ne 25, 3) := by decide +kernel
theorem dX8_read_93 : decode cX8_read 93 = .ok (.aload_n 0, 1) := by decide +kernel
theorem dX8_read_94 : decode cX8_read 94 = .ok (.getfield 7, 3) := by decide +kernel
theorem dX8_read_97 : decode cX8_read 97 = .ok (.iload_n 3, 1) := by decide +kernel
theorem dX8_read_98 : decode cX8_read 98 = .ok (.iconst 1, 1) := by decide +kernel
theorem dX8_read_99 : decode cX8_read 99 = .ok (.isub, 1) := by decide +kernel
theorem dX8_read_100 : decode cX8_read 100 = .ok (.iaload, 1) := by decide +kernel
theorem dX8_read_101 : decode cX8_read 101 = .ok (.bipush 30, 2) := by decide +kernel
theorem dX8_read_103 : decode cX8_read 103 = .ok (.if_icmp .eq 12, 3) := by decide +kernel
theorem dX8_read_106 : decode cX8_read 106 = .ok (.aload_n 0, 1) := by decide +kernel
theorem dX8_read_107 : decode cX8_read 107 = .ok (.bipush (-4), 2) := by decide +kernel
theorem dX8_read_109 : decode cX8_read 109 = .ok (.iload_n 3, 1) := by decide +kernel
theorem dX8_read_110 : decode cX8_read 110 = .ok (.iconst 1, 1) := by decide +kernel
theorem dX8_read_111 : decode cX8_read 111 = .ok (.isub, 1) := by decide +kernel
theorem dX8_read_112 : decode cX8_read 112 = .ok (.invokevirtual 82, 3) := by decide +kernel
theorem dX8_read_115 : decode cX8_read 115 = .ok (.aload_n 0, 1) := by decide +kernel
theorem dX8_read_116 : decode cX8_read 116 = .ok (.getfield 72, 3) := by decide +kernel
theorem dX8_read_119 : decode cX8_read 119 = .ok (.ifCond .ne 23, 3) := by decide +kernel
theorem dX8_read_122 : decode cX8_read 122 = .ok (.iload_n 3, 1) := by decide +kernel
theorem dX8_read_123 : decode cX8_read 123 = .ok (.iload 4, 2) := by decide +kernel
theorem dX8_read_125 : decode cX8_read 125 = .ok (.iadd, 1) := by decide +kernel
theorem dX8_read_126 : decode cX8_read 126 = .ok (.iconst 1, 1) := by decide +kernel
theorem dX8_read_127 : decode cX8_read 127 = .ok (.iadd, 1) := by decide +kernel
theorem dX8_read_128 : decode cX8_read 128 = .ok (.aload_n 0, 1) := by decide +kernel
theorem dX8_read_129 : decode cX8_read 129 = .ok (.getfield 65, 3) := by decide +kernel
theorem dX8_read_132 : decode cX8_read 132 = .ok (.if_icmp .eq 10, 3) := by decide +kernel
theorem dX8_read_135 : decode cX8_read 135 = .ok (.aload_n 0, 1) := by decide +kernel
theorem dX8_read_136 : decode cX8_read 136 = .ok (.bipush (-5), 2) := by decide +kernel
theorem dX8_read_138 : decode cX8_read 138 = .ok (.iload_n 3, 1) := by decide +kernel
theorem dX8_read_139 : decode cX8_read 139 = .ok (.invokevirtual 82, 3) := by decide +kernel
theorem dX8_read_142 : decode cX8_read 142 = .ok (.iload_n 3, 1) := by decide +kernel
theorem dX8_read_143 : decode cX8_read 143 = .ok (.istore 5, 2) := by decide +kernel
theorem dX8_read_145 : decode cX8_read 145 = .ok (.iconst 0, 1) := by decide +kernel
theorem dX8_read_146 : decode cX8_read 146 = .ok (.istore 6, 2) := by decide +kernel
theorem dX8_read_148 : decode cX8_read 148 = .ok (.iload 6, 2) := by decide +kernel
theorem dX8_read_150 : decode cX8_read 150 = .ok (.iload_n 2, 1) := by decide +kernel
theorem dX8_read_151 : decode cX8_read 151 = .ok (.if_icmp .ge 88, 3) := by decide +kernel
theorem dX8_read_154 : decode cX8_read 154 = .ok (.aload_n 0, 1) := by decide +kernel
theorem dX8_read_155 : decode cX8_read 155 = .ok (.getfield 72, 3) := by decide +kernel
theorem dX8_read_158 : decode cX8_read 158 = .ok (.ifCond .ne 81, 3) := by decide +kernel
theorem dX8_read_161 : decode cX8_read 161 = .ok (.aload_n 0, 1) := by decide +kernel
theorem dX8_read_162 : decode cX8_read 162 = .ok (.getfield 19, 3) := by decide +kernel
theorem dX8_read_165 : decode cX8_read 165 = .ok (.bipush 8, 2) := by decide +kernel
theorem dX8_read_167 : decode cX8_read 167 = .ok (.iload_n 1, 1) := by decide +kernel
theorem dX8_read_168 : decode cX8_read 168 = .ok (.imul, 1) := by decide +kernel
theorem dX8_read_169 : decode cX8_read 169 = .ok (.iload 6, 2) := by decide +kernel
theorem dX8_read_171 : decode cX8_read 171 = .ok (.iadd, 1) := by decide +kernel
theorem dX8_read_172 : decode cX8_read 172 = .ok (.iaload, 1) := by decide +kernel
theorem dX8_read_173 : decode cX8_read 173 = .ok (.bipush 10, 2) := by decide +kernel
theorem dX8_read_175 : decode cX8_read 175 = .ok (.if_icmp .ge 26, 3) := by decide +kernel
theorem dX8_read_178 : decode cX8_read 178 = .ok (.aload_n 0, 1) := by decide +kernel
theorem dX8_read_179 : decode cX8_read 179 = .ok (.bipush 8, 2) := by decide +kernel
theorem dX8_read_181 : decode cX8_read 181 = .ok (.iload_n 1, 1) := by decide +kernel
theorem dX8_read_182 : decode cX8_read 182 = .ok (.imul, 1) := by decide +kernel
theorem dX8_read_183 : decode cX8_read 183 = .ok (.iload 6, 2) := by decide +kernel
theorem dX8_read_185 : decode cX8_read 185 = .ok (.iadd, 1) := by decide +kernel
theorem dX8_read_186 : decode cX8_read 186 = .ok (.iload 5, 2) := by decide +kernel
theorem dX8_read_188 : decode cX8_read 188 = .ok (.aload_n 0, 1) := by decide +kernel
theorem dX8_read_189 : decode cX8_read 189 = .ok (.getfield 44, 3) := by decide +kernel
theorem dX8_read_192 : decode cX8_read 192 = .ok (.iload 6, 2) := by decide +kernel
theorem dX8_read_194 : decode cX8_read 194 = .ok (.iaload, 1) := by decide +kernel
theorem dX8_read_195 : decode cX8_read 195 = .ok (.invokevirtual 119, 3) := by decide +kernel
theorem dX8_read_198 : decode cX8_read 198 = .ok (.goto 23, 3) := by decide +kernel
theorem dX8_read_201 : decode cX8_read 201 = .ok (.aload_n 0, 1) := by decide +kernel
theorem dX8_read_202 : decode cX8_read 202 = .ok (.bipush 8, 2) := by decide +kernel
theorem dX8_read_204 : decode cX8_read 204 = .ok (.iload_n 1, 1) := by decide +kernel
theorem dX8_read_205 : decode cX8_read 205 = .ok (.imul, 1) := by decide +kernel
theorem dX8_read_206 : decode cX8_read 206 = .ok (.iload 6, 2) := by decide +kernel
theorem dX8_read_208 : decode cX8_read 208 = .ok (.iadd, 1) := by decide +kernel
theorem dX8_read_209 : decode cX8_read 209 = .ok (.iload 5, 2) := by decide +kernel
theorem dX8_read_211 : decode cX8_read 211 = .ok (.aload_n 0, 1) := by decide +kernel
theorem dX8_read_212 : decode cX8_read 212 = .ok (.getfield 44, 3) := by decide +kernel
theorem dX8_read_215 : decode cX8_read 215 = .ok (.iload 6, 2) := by decide +kernel
theorem dX8_read_217 : decode cX8_read 217 = .ok (.iaload, 1) := by decide +kernel
theorem dX8_read_218 : decode cX8_read 218 = .ok (.invokevirtual 122, 3) := by decide +kernel
theorem dX8_read_221 : decode cX8_read 221 = .ok (.iload 5, 2) := by decide +kernel
theorem dX8_read_223 : decode cX8_read 223 = .ok (.aload_n 0, 1) := by decide +kernel
theorem dX8_read_224 : decode cX8_read 224 = .ok (.getfield 44, 3) := by decide +kernel
theorem dX8_read_227 : decode cX8_read 227 = .ok (.iload 6, 2) := by decide +kernel
theorem dX8_read_229 : decode cX8_read 229 = .ok (.iaload, 1) := by decide +kernel
theorem dX8_read_230 : decode cX8_read 230 = .ok (.iadd, 1) := by decide +kernel
theorem dX8_read_231 : decode cX8_read 231 = .ok (.istore 5, 2) := by decide +kernel
theorem dX8_read_233 : decode cX8_read 233 = .ok (.iinc 6 1, 3) := by decide +kernel
theorem dX8_read_236 : decode cX8_read 236 = .ok (.goto (-88), 3) := by decide +kernel
theorem dX8_read_239 : decode cX8_read 239 = .ok (.aload_n 0, 1) := by decide +kernel
theorem dX8_read_240 : decode cX8_read 240 = .ok (.getfield 72, 3) := by decide +kernel
theorem dX8_read_243 : decode cX8_read 243 = .ok (.ifCond .ne 31, 3) := by decide +kernel
theorem dX8_read_246 : decode cX8_read 246 = .ok (.aload_n 0, 1) := by decide +kernel
theorem dX8_read_247 : decode cX8_read 247 = .ok (.getfield 7, 3) := by decide +kernel
theorem dX8_read_250 : decode cX8_read 250 = .ok (.aload_n 0, 1) := by decide +kernel
theorem dX8_read_251 : decode cX8_read 251 = .ok (.getfield 65, 3) := by decide +kernel
theorem dX8_read_254 : decode cX8_read 254 = .ok (.iconst 1, 1) := by decide +kernel
theorem dX8_read_255 : decode cX8_read 255 = .ok (.isub, 1) := by decide +kernel
theorem dX8_read_256 : decode cX8_read 256 = .ok (.iaload, 1) := by decide +kernel
theorem dX8_read_257 : decode cX8_read 257 = .ok (.bipush 29, 2) := by decide +kernel
theorem dX8_read_259 : decode cX8_read 259 = .ok (.if_icmp .eq 15, 3) := by decide +kernel
theorem dX8_read_262 : decode cX8_read 262 = .ok (.aload_n 0, 1) := by decide +kernel
theorem dX8_read_263 : decode cX8_read 263 = .ok (.bipush (-7), 2) := by decide +kernel
theorem dX8_read_265 : decode cX8_read 265 = .ok (.aload_n 0, 1) := by decide +kernel
theorem dX8_read_266 : decode cX8_read 266 = .ok (.getfield 65, 3) := by decide +kernel
theorem dX8_read_269 : decode cX8_read 269 = .ok (.iconst 1, 1) := by decide +kernel
theorem dX8_read_270 : decode cX8_read 270 = .ok (.isub, 1) := by decide +kernel
theorem dX8_read_271 : decode cX8_read 271 = .ok (.invokevirtual 82, 3) := by decide +kernel
theorem dX8_read_274 : decode cX8_read 274 = .ok (.aload_n 0, 1) := by decide +kernel
theorem dX8_read_275 : decode cX8_read 275 = .ok (.getfield 72, 3) := by decide +kernel
theorem dX8_read_278 : decode cX8_read 278 = .ok (.ifCond .eq 8, 3) := by decide +kernel
theorem dX8_read_281 : decode cX8_read 281 = .ok (.aload_n 0, 1) := by decide +kernel
theorem dX8_read_282 : decode cX8_read 282 = .ok (.getfield 72, 3) := by decide +kernel
theorem dX8_read_285 : decode cX8_read 285 = .ok (.ireturn, 1) := by decide +kernel
theorem dX8_read_286 : decode cX8_read 286 = .ok (.iconst 0, 1) := by decide +kernel
theorem dX8_read_287 : decode cX8_read 287 = .ok (.istore 6, 2) := by decide +kernel
theorem dX8_read_289 : decode cX8_read 289 = .ok (.iload 6, 2) := by decide +kernel
theorem dX8_read_291 : decode cX8_read 291 = .ok (.bipush 8, 2) := by decide +kernel
theorem dX8_read_293 : decode cX8_read 293 = .ok (.if_icmp .ge 44, 3) := by decide +kernel
theorem dX8_read_296 : decode cX8_read 296 = .ok (.aload_n 0, 1) := by decide +kernel
theorem dX8_read_297 : decode cX8_read 297 = .ok (.getfield 13, 3) := by decide +kernel
theorem dX8_read_300 : decode cX8_read 300 = .ok (.bipush 8, 2) := by decide +kernel
theorem dX8_read_302 : decode cX8_read 302 = .ok (.iload_n 1, 1) := by decide +kernel
theorem dX8_read_303 : decode cX8_read 303 = .ok (.imul, 1) := by decide +kernel
theorem dX8_read_304 : decode cX8_read 304 = .ok (.iload 6, 2) := by decide +kernel
theorem dX8_read_306 : decode cX8_read 306 = .ok (.iadd, 1) := by decide +kernel
theorem dX8_read_307 : decode cX8_read 307 = .ok (.aload_n 0, 1) := by decide +kernel
theorem dX8_read_308 : decode cX8_read 308 = .ok (.getfield 7, 3) := by decide +kernel
theorem dX8_read_311 : decode cX8_read 311 = .ok (.iload 6, 2) := by decide +kernel
theorem dX8_read_313 : decode cX8_read 313 = .ok (.iconst 5, 1) := by decide +kernel
theorem dX8_read_314 : decode cX8_read 314 = .ok (.if_icmp .ge 10, 3) := by decide +kernel
theorem dX8_read_317 : decode cX8_read 317 = .ok (.iconst 5, 1) := by decide +kernel
theorem dX8_read_318 : decode cX8_read 318 = .ok (.iload 6, 2) := by decide +kernel
theorem dX8_read_320 : decode cX8_read 320 = .ok (.iadd, 1) := by decide +kernel
theorem dX8_read_321 : decode cX8_read 321 = .ok (.goto 8, 3) := by decide +kernel
theorem dX8_read_324 : decode cX8_read 324 = .ok (.bipush 12, 2) := by decide +kernel
theorem dX8_read_326 : decode cX8_read 326 = .ok (.iload 6, 2) := by decide +kernel
theorem dX8_read_328 : decode cX8_read 328 = .ok (.iadd, 1) := by decide +kernel
theorem dX8_read_329 : decode cX8_read 329 = .ok (.iaload, 1) := by decide +kernel
theorem dX8_read_330 : decode cX8_read 330 = .ok (.iastore, 1) := by decide +kernel
theorem dX8_read_331 : decode cX8_read 331 = .ok (.iinc 6 1, 3) := by decide +kernel
theorem dX8_read_334 : decode cX8_read 334 = .ok (.goto (-45), 3) := by decide +kernel
theorem dX8_read_337 : decode cX8_read 337 = .ok (.aload_n 0, 1) := by decide +kernel
theorem dX8_read_338 : decode cX8_read 338 = .ok (.getfield 16, 3) := by decide +kernel
theorem dX8_read_341 : decode cX8_read 341 = .ok (.iload_n 1, 1) := by decide +kernel
theorem dX8_read_342 : decode cX8_read 342 = .ok (.iload_n 2, 1) := by decide +kernel
theorem dX8_read_343 : decode cX8_read 343 = .ok (.iastore, 1) := by decide +kernel
theorem dX8_read_344 : decode cX8_read 344 = .ok (.aload_n 0, 1) := by decide +kernel
theorem dX8_read_345 : decode cX8_read 345 = .ok (.dup, 1) := by decide +kernel
theorem dX8_read_346 : decode cX8_read 346 = .ok (.getfield 109, 3) := by decide +kernel
theorem dX8_read_349 : decode cX8_read 349 = .ok (.iconst 1, 1) := by decide +kernel
theorem dX8_read_350 : decode cX8_read 350 = .ok (.iadd, 1) := by decide +kernel
theorem dX8_read_351 : decode cX8_read 351 = .ok (.putfield 109, 3) := by decide +kernel
theorem dX8_read_354 : decode cX8_read 354 = .ok (.iload_n 1, 1) := by decide +kernel
theorem dX8_read_355 : decode cX8_read 355 = .ok (.ireturn, 1) := by decide +kernel
def rm_X8_read : Room := { frames := 4, cells := 0, slots := 0, locals := 91 }
def fn_X8_read_B329 (b : Nat) (z289 : Sg → Int32 → Int32 → Int32 → Option (Int32 × Sg)) (σ : Sg) (x1 : Int32) (x2 : Int32) (x6 : Int32) (y0 : Int32) (y2 : Int32) : Option (Int32 × Sg) :=
  (if sg_ib y0 600 then
  (if sg_ib y2 48 then
  (sg_lt (sg_w σ (b + 2) (sg_x y2) (σ.1 (b + 1) (sg_x y0))) fun σ1 =>
  (sg_lt (x6 + 1 : Int32) fun v2 =>
  z289 σ1 x1 x2 v2))
  else none)
  else none)
set_option maxHeartbeats 4000000 in
set_option maxRecDepth 100000 in
theorem w_X8_read_B329 {p : Program} {l : Launch} {e : Env} {s : State} {m : MethodId} {args : Array Value} {below : List Frame} {meth : Method} {c : Code} {Q : State → Prop} {D : va_G} {κ : Nat → ClassId} {b : Nat} {H0 : Heap} {rr : Int32 × Sg} (hZ : sg_Z p c s m args D κ cX8_read 7 RX8 wsX8_read) (hret : ∀ (v : Int32) (u : Sg) (H : Heap) (locs : List Loc) (pc : Nat) (ls : Array Slot), some (v, u) = some rr → MW D κ b u H → va_S (sg_A b 16) H0 H locs → decode cX8_read pc = .ok (.ireturn, 1) → W p l e rm_X8_read s m args below meth c H locs 0 0 Q (F0 m pc ls [.int v])) {z289 : Sg → Int32 → Int32 → Int32 → Option (Int32 × Sg)} (hr289 : ∀ {σ : Sg} {x1 : Int32} {x2 : Int32} {x6 : Int32} {H : Heap} {locs : List Loc} {ls : Array Slot}, z289 σ x1 x2 x6 = some rr → lv_has ls 7 [(0, .ref b), (1, .int x1), (2, .int x2), (6, .int x6)] → MW D κ b σ H → va_S (sg_A b 16) H0 H locs → W p l e rm_X8_read s m args below meth c H locs 0 0 Q (F0 m 289 ls [])) : ∀ {σ : Sg} {x1 : Int32} {x2 : Int32} {x6 : Int32} {y0 : Int32} {y2 : Int32} {H : Heap} {locs : List Loc} {ls : Array Slot}, fn_X8_read_B329 b z289 σ x1 x2 x6 y0 y2 = some rr → lv_has ls 7 [(0, .ref b), (1, .int x1), (2, .int x2), (6, .int x6)] → MW D κ b σ H → va_S (sg_A b 16) H0 H locs → W p l e rm_X8_read s m args below meth c H locs 0 0 Q (F0 m 329 ls [.int y0, .ref (b + 1), .int y2, .ref (b + 2)]) := by
  obtain ⟨hx, hb, hml, hown, hts, hK⟩ := hZ
  intro σ x1 x2 x6 y0 y2 H locs ls h hl hC hS
  unfold fn_X8_read_B329 at h
  obtain ⟨hg, h⟩ := sg_gd h
  refine va_iald hx hb hK.1 hC.1 ((b + 1) - b) 0 sg_ga_text rfl (sg_in hg) dX8_read_329 ?_
  obtain ⟨hg, h⟩ := sg_gd h
  refine va_iast hx hb hK.1 hC.1 sg_D hS ((b + 2) - b) 0 sg_ga_letters rfl (sg_in hg) dX8_read_330 (fun H locs hP _ hS => ?_)
  obtain ⟨σ1, eσ1, h⟩ := sg_lte h
  have hC : MW D κ b σ1 H := eσ1 ▸ MW_put (k := sg_x y2) (v := (σ.1 (b + 1) (sg_x y0))) hC sg_aa_letters (sg_ya_letters _ _) hP
  obtain ⟨v2, ev2, h⟩ := sg_lte h
  refine lv_iinc (v := v2) (lv' := [(6, .int v2), (0, .ref b), (1, .int x1), (2, .int x2)]) (k := 3) hx hb dX8_read_331 hl rfl (sg_inc (by decide) ev2) (by decide) rfl (fun ls hl => ?_)
  refine lv_goto (tgt := 289) hx hb dX8_read_334 (by decide) ?_
  exact hr289 h (lv_sub hl [1, 2, 3, 0] rfl) hC hS
def fn_X8_read_B289b (b : Nat) (z289 : Sg → Int32 → Int32 → Int32 → Option (Int32 × Sg)) (σ : Sg) (x1 : Int32) (x2 : Int32) (x6 : Int32) : Option (Int32 × Sg) :=
  (if (8 : Int32) ≤ x6 then
  (if sg_ib x1 6 then
  (sg_lt (sg_w σ (b + 3) (sg_x x1) x2) fun σ1 =>
  (sg_lt (sg_w σ1 b 2 ((σ1.1 b 2) + 1)) fun σ2 =>
  some (x1, σ2)))
  else none)
  else (if (5 : Int32) ≤ x6 then
  fn_X8_read_B329 b z289 σ x1 x2 x6 (12 + x6) ((8 * x1) + x6)
  else fn_X8_read_B329 b z289 σ x1 x2 x6 (5 + x6) ((8 * x1) + x6)))
def fn_X8_read_B289 (b : Nat) : Nat → Sg → Int32 → Int32 → Int32 → Option (Int32 × Sg)
  | 0 => fun _ _ _ _ => none
  | n + 1 => fun σ x1 x2 x6 => fn_X8_read_B289b b (fn_X8_read_B289 b n) σ x1 x2 x6
set_option maxHeartbeats 4000000 in
set_option maxRecDepth 100000 in
theorem w_X8_read_B289b {p : Program} {l : Launch} {e : Env} {s : State} {m : MethodId} {args : Array Value} {below : List Frame} {meth : Method} {c : Code} {Q : State → Prop} {D : va_G} {κ : Nat → ClassId} {b : Nat} {H0 : Heap} {rr : Int32 × Sg} (hZ : sg_Z p c s m args D κ cX8_read 7 RX8 wsX8_read) (hret : ∀ (v : Int32) (u : Sg) (H : Heap) (locs : List Loc) (pc : Nat) (ls : Array Slot), some (v, u) = some rr → MW D κ b u H → va_S (sg_A b 16) H0 H locs → decode cX8_read pc = .ok (.ireturn, 1) → W p l e rm_X8_read s m args below meth c H locs 0 0 Q (F0 m pc ls [.int v])) {z289 : Sg → Int32 → Int32 → Int32 → Option (Int32 × Sg)} (hr289 : ∀ {σ : Sg} {x1 : Int32} {x2 : Int32} {x6 : Int32} {H : Heap} {locs : List Loc} {ls : Array Slot}, z289 σ x1 x2 x6 = some rr → lv_has ls 7 [(0, .ref b), (1, .int x1), (2, .int x2), (6, .int x6)] → MW D κ b σ H → va_S (sg_A b 16) H0 H locs → W p l e rm_X8_read s m args below meth c H locs 0 0 Q (F0 m 289 ls [])) : ∀ {σ : Sg} {x1 : Int32} {x2 : Int32} {x6 : Int32} {H : Heap} {locs : List Loc} {ls : Array Slot}, fn_X8_read_B289b b z289 σ x1 x2 x6 = some rr → lv_has ls 7 [(0, .ref b), (1, .int x1), (2, .int x2), (6, .int x6)] → MW D κ b σ H → va_S (sg_A b 16) H0 H locs → W p l e rm_X8_read s m args below meth c H locs 0 0 Q (F0 m 289 ls []) := by
  obtain ⟨hx, hb, hml, hown, hts, hK⟩ := hZ
  intro σ x1 x2 x6 H locs ls h hl hC hS
  unfold fn_X8_read_B289b at h
  refine lv_iload hx hb dX8_read_289 (lv_at hl 3 rfl) ?_
  refine lv_bipush (v := 8) hx hb dX8_read_291 (by decide) ?_
  refine lv_icmp_ge (tgt := 337) hx hb dX8_read_293 (by decide) (fun hc => ?_) (fun hc => ?_)
  · replace h := (if_pos hc).symm.trans h
    refine lv_aload_n hx hb dX8_read_337 rfl (lv_at hl 0 rfl) ?_
    refine va_get (D := D) (ci := 8) (v := .ref (b + 3)) (C := RX8) (T := TX8) (N := 21) hx hb hts (wqs inW_X8) hown hK.1 hC.1 (b - b) sg_gModel rfl 4 (by decide) (hts _ (wq wt_652)) (fun _ h9 => h9) rfl dX8_read_338 ?_
    refine lv_iload_n hx hb dX8_read_341 rfl (lv_at hl 1 rfl) ?_
    refine lv_iload_n hx hb dX8_read_342 rfl (lv_at hl 2 rfl) ?_
    obtain ⟨hg, h⟩ := sg_gd h
    refine va_iast hx hb hK.1 hC.1 sg_D hS ((b + 3) - b) 0 sg_ga_fieldsOf rfl (sg_in hg) dX8_read_343 (fun H locs hP _ hS => ?_)
    obtain ⟨σ1, eσ1, h⟩ := sg_lte h
    have hC : MW D κ b σ1 H := eσ1 ▸ MW_put (k := sg_x x1) (v := x2) hC sg_aa_fieldsOf (sg_ya_fieldsOf _ _) hP
    refine lv_aload_n hx hb dX8_read_344 rfl (lv_at hl 0 rfl) ?_
    refine lv_dup hx hb dX8_read_345 rfl ?_
    refine va_get (D := D) (ci := 8) (v := .int (σ1.1 b 2)) (C := RX8) (T := TX8) (N := 21) hx hb hts (wqs inW_X8) hown hK.1 hC.1 (b - b) sg_gModel rfl 2 (by decide) (hts _ (wq wt_650)) (fun _ h9 => h9) rfl dX8_read_346 ?_
    refine lv_iconst (v := 1) hx hb dX8_read_349 (by decide) ?_
    refine lv_iadd hx hb dX8_read_350 ?_
    refine va_put (D := D) (ci := 8) (v := .int ((σ1.1 b 2) + 1)) (ty := .int) (C := RX8) (T := TX8) (N := 21) hx hb hts (wqs inW_X8) tyX8 tyX8_ok nmX8 hown hK.1 hC.1 sg_D hS (b - b) sg_gModel rfl 2 (by decide) (hts _ (wq wt_650)) (fun _ h9 => h9) rfl (by decide +kernel) rfl rfl (Nat.le_of_ble_eq_true rfl) dX8_read_351 (fun H locs hP _ hS => ?_)
    obtain ⟨σ2, eσ2, h⟩ := sg_lte h
    have hC : MW D κ b σ2 H := eσ2 ▸ MW_put (k := 2) (v := ((σ1.1 b 2) + 1)) hC sg_aModel (sg_yModel _ _) hP
    refine lv_iload_n hx hb dX8_read_354 rfl (lv_at hl 1 rfl) ?_
    exact hret _ _ _ _ _ _ h hC hS dX8_read_355
  · replace h := (if_neg hc).symm.trans h
    refine lv_aload_n hx hb dX8_read_296 rfl (lv_at hl 0 rfl) ?_
    refine va_get (D := D) (ci := 8) (v := .ref (b + 2)) (C := RX8) (T := TX8) (N := 21) hx hb hts (wqs inW_X8) hown hK.1 hC.1 (b - b) sg_gModel rfl 3 (by decide) (hts _ (wq wt_651)) (fun _ h9 => h9) rfl dX8_read_297 ?_
    refine lv_bipush (v := 8) hx hb dX8_read_300 (by decide) ?_
    refine lv_iload_n hx hb dX8_read_302 rfl (lv_at hl 1 rfl) ?_
    refine lv_imul hx hb dX8_read_303 ?_
    refine lv_iload hx hb dX8_read_304 (lv_at hl 3 rfl) ?_
    refine lv_iadd hx hb dX8_read_306 ?_
    refine lv_aload_n hx hb dX8_read_307 rfl (lv_at hl 0 rfl) ?_
    refine va_get (D := D) (ci := 8) (v := .ref (b + 1)) (C := RX8) (T := TX8) (N := 21) hx hb hts (wqs inW_X8) hown hK.1 hC.1 (b - b) sg_gModel rfl 0 (by decide) (hts _ (wq wt_648)) (fun _ h9 => h9) rfl dX8_read_308 ?_
    refine lv_iload hx hb dX8_read_311 (lv_at hl 3 rfl) ?_
    refine lv_iconst (v := 5) hx hb dX8_read_313 (by decide) ?_
    refine lv_icmp_ge (tgt := 324) hx hb dX8_read_314 (by decide) (fun hc => ?_) (fun hc => ?_)
    · replace h := (if_pos hc).symm.trans h
      refine lv_bipush (v := 12) hx hb dX8_read_324 (by decide) ?_
      refine lv_iload hx hb dX8_read_326 (lv_at hl 3 rfl) ?_
      refine lv_iadd hx hb dX8_read_328 ?_
      exact w_X8_read_B329 ⟨hx, hb, hml, hown, hts, hK⟩ hret hr289 h (lv_sub hl [0, 1, 2, 3] rfl) hC hS
    · replace h := (if_neg hc).symm.trans h
      refine lv_iconst (v := 5) hx hb dX8_read_317 (by decide) ?_
      refine lv_iload hx hb dX8_read_318 (lv_at hl 3 rfl) ?_
      refine lv_iadd hx hb dX8_read_320 ?_
      refine lv_goto (tgt := 329) hx hb dX8_read_321 (by decide) ?_
      exact w_X8_read_B329 ⟨hx, hb, hml, hown, hts, hK⟩ hret hr289 h (lv_sub hl [0, 1, 2, 3] rfl) hC hS
set_option maxHeartbeats 4000000 in
theorem w_X8_read_B289 {p : Program} {l : Launch} {e : Env} {s : State} {m : MethodId} {args : Array Value} {below : List Frame} {meth : Method} {c : Code} {Q : State → Prop} {D : va_G} {κ : Nat → ClassId} {b : Nat} {H0 : Heap} {rr : Int32 × Sg} (hZ : sg_Z p c s m args D κ cX8_read 7 RX8 wsX8_read) (hret : ∀ (v : Int32) (u : Sg) (H : Heap) (locs : List Loc) (pc : Nat) (ls : Array Slot), some (v, u) = some rr → MW D κ b u H → va_S (sg_A b 16) H0 H locs → decode cX8_read pc = .ok (.ireturn, 1) → W p l e rm_X8_read s m args below meth c H locs 0 0 Q (F0 m pc ls [.int v])) : ∀ n : Nat, ∀ {σ : Sg} {x1 : Int32} {x2 : Int32} {x6 : Int32} {H : Heap} {locs : List Loc} {ls : Array Slot}, fn_X8_read_B289 b n σ x1 x2 x6 = some rr → lv_has ls 7 [(0, .ref b), (1, .int x1), (2, .int x2), (6, .int x6)] → MW D κ b σ H → va_S (sg_A b 16) H0 H locs → W p l e rm_X8_read s m args below meth c H locs 0 0 Q (F0 m 289 ls []) := by
  intro n
  induction n with
  | zero => intro σ x1 x2 x6 H locs ls h hl hC hS; cases (show (none : Option (Int32 × Sg)) = some rr from h)
  | succ n ih =>
    intro σ x1 x2 x6 H locs ls h hl hC hS
    exact w_X8_read_B289b hZ hret ih (show fn_X8_read_B289b b (fn_X8_read_B289 b n) σ x1 x2 x6 = some rr from h)  hl hC hS
def fn_X8_read_B274 (b : Nat) (σ : Sg) (x1 : Int32) (x2 : Int32) : Option (Int32 × Sg) :=
  (if (σ.1 b 12) = 0 then
  fn_X8_read_B289 b sg_N σ x1 x2 0
  else some ((σ.1 b 12), σ))
set_option maxHeartbeats 4000000 in
set_option maxRecDepth 100000 in
theorem w_X8_read_B274 {p : Program} {l : Launch} {e : Env} {s : State} {m : MethodId} {args : Array Value} {below : List Frame} {meth : Method} {c : Code} {Q : State → Prop} {D : va_G} {κ : Nat → ClassId} {b : Nat} {H0 : Heap} {rr : Int32 × Sg} (hZ : sg_Z p c s m args D κ cX8_read 7 RX8 wsX8_read) (hret : ∀ (v : Int32) (u : Sg) (H : Heap) (locs : List Loc) (pc : Nat) (ls : Array Slot), some (v, u) = some rr → MW D κ b u H → va_S (sg_A b 16) H0 H locs → decode cX8_read pc = .ok (.ireturn, 1) → W p l e rm_X8_read s m args below meth c H locs 0 0 Q (F0 m pc ls [.int v])) : ∀ {σ : Sg} {x1 : Int32} {x2 : Int32} {H : Heap} {locs : List Loc} {ls : Array Slot}, fn_X8_read_B274 b σ x1 x2 = some rr → lv_has ls 7 [(0, .ref b), (1, .int x1), (2, .int x2)] → MW D κ b σ H → va_S (sg_A b 16) H0 H locs → W p l e rm_X8_read s m args below meth c H locs 0 0 Q (F0 m 274 ls []) := by
  obtain ⟨hx, hb, hml, hown, hts, hK⟩ := hZ
  intro σ x1 x2 H locs ls h hl hC hS
  unfold fn_X8_read_B274 at h
  refine lv_aload_n hx hb dX8_read_274 rfl (lv_at hl 0 rfl) ?_
  refine va_get (D := D) (ci := 8) (v := .int (σ.1 b 12)) (C := RX8) (T := TX8) (N := 21) hx hb hts (wqs inW_X8) hown hK.1 hC.1 (b - b) sg_gModel rfl 12 (by decide) (hts _ (wq wt_660)) (fun _ h9 => h9) rfl dX8_read_275 ?_
  refine lv_if_eq (tgt := 286) hx hb dX8_read_278 (by decide) (fun hc => ?_) (fun hc => ?_)
  · replace h := (if_pos hc).symm.trans h
    refine lv_iconst (v := 0) hx hb dX8_read_286 (by decide) ?_
    refine lv_istore (lv' := [(6, .int 0), (0, .ref b), (1, .int x1), (2, .int x2)]) hx hb dX8_read_287 hl (by decide) rfl (fun ls hl => ?_)
    exact w_X8_read_B289 ⟨hx, hb, hml, hown, hts, hK⟩ hret  sg_N h (lv_sub hl [1, 2, 3, 0] rfl) hC hS
  · replace h := (if_neg hc).symm.trans h
    refine lv_aload_n hx hb dX8_read_281 rfl (lv_at hl 0 rfl) ?_
    refine va_get (D := D) (ci := 8) (v := .int (σ.1 b 12)) (C := RX8) (T := TX8) (N := 21) hx hb hts (wqs inW_X8) hown hK.1 hC.1 (b - b) sg_gModel rfl 12 (by decide) (hts _ (wq wt_660)) (fun _ h9 => h9) rfl dX8_read_282 ?_
    exact hret _ _ _ _ _ _ h hC hS dX8_read_285
def fn_X8_read_B239 (b : Nat) (σ : Sg) (x1 : Int32) (x2 : Int32) : Option (Int32 × Sg) :=
  (if (σ.1 b 12) = 0 then
  (if sg_ib ((σ.1 b 1) - 1) 600 then
  (if (σ.1 (b + 1) (sg_x ((σ.1 b 1) - 1))) = 29 then
  fn_X8_read_B274 b σ x1 x2
  else ((fn_X8_fail b σ (-7) ((σ.1 b 1) - 1)).bind fun r1 =>
  fn_X8_read_B274 b r1 x1 x2))
  else none)
  else fn_X8_read_B274 b σ x1 x2)
set_option maxHeartbeats 4000000 in
set_option maxRecDepth 100000 in
theorem w_X8_read_B239 {p : Program} {l : Launch} {e : Env} {s : State} {m : MethodId} {args : Array Value} {below : List Frame} {meth : Method} {c : Code} {Q : State → Prop} {D : va_G} {κ : Nat → ClassId} {b : Nat} {H0 : Heap} {rr : Int32 × Sg} (hZ : sg_Z p c s m args D κ cX8_read 7 RX8 wsX8_read) (hret : ∀ (v : Int32) (u : Sg) (H : Heap) (locs : List Loc) (pc : Nat) (ls : Array Slot), some (v, u) = some rr → MW D κ b u H → va_S (sg_A b 16) H0 H locs → decode cX8_read pc = .ok (.ireturn, 1) → W p l e rm_X8_read s m args below meth c H locs 0 0 Q (F0 m pc ls [.int v])) : ∀ {σ : Sg} {x1 : Int32} {x2 : Int32} {H : Heap} {locs : List Loc} {ls : Array Slot}, fn_X8_read_B239 b σ x1 x2 = some rr → lv_has ls 7 [(0, .ref b), (1, .int x1), (2, .int x2)] → MW D κ b σ H → va_S (sg_A b 16) H0 H locs → W p l e rm_X8_read s m args below meth c H locs 0 0 Q (F0 m 239 ls []) := by
  obtain ⟨hx, hb, hml, hown, hts, hK⟩ := hZ
  intro σ x1 x2 H locs ls h hl hC hS
  unfold fn_X8_read_B239 at h
  refine lv_aload_n hx hb dX8_read_239 rfl (lv_at hl 0 rfl) ?_
  refine va_get (D := D) (ci := 8) (v := .int (σ.1 b 12)) (C := RX8) (T := TX8) (N := 21) hx hb hts (wqs inW_X8) hown hK.1 hC.1 (b - b) sg_gModel rfl 12 (by decide) (hts _ (wq wt_660)) (fun _ h9 => h9) rfl dX8_read_240 ?_
  refine lv_if_ne (tgt := 274) hx hb dX8_read_243 (by decide) (fun hc => ?_) (fun hc => ?_)
  · replace h := (if_neg hc).symm.trans h
    exact w_X8_read_B274 ⟨hx, hb, hml, hown, hts, hK⟩ hret  h (lv_sub hl [0, 1, 2] rfl) hC hS
  · replace h := (if_pos hc).symm.trans h
    refine lv_aload_n hx hb dX8_read_246 rfl (lv_at hl 0 rfl) ?_
    refine va_get (D := D) (ci := 8) (v := .ref (b + 1)) (C := RX8) (T := TX8) (N := 21) hx hb hts (wqs inW_X8) hown hK.1 hC.1 (b - b) sg_gModel rfl 0 (by decide) (hts _ (wq wt_648)) (fun _ h9 => h9) rfl dX8_read_247 ?_
    refine lv_aload_n hx hb dX8_read_250 rfl (lv_at hl 0 rfl) ?_
    refine va_get (D := D) (ci := 8) (v := .int (σ.1 b 1)) (C := RX8) (T := TX8) (N := 21) hx hb hts (wqs inW_X8) hown hK.1 hC.1 (b - b) sg_gModel rfl 1 (by decide) (hts _ (wq wt_649)) (fun _ h9 => h9) rfl dX8_read_251 ?_
    refine lv_iconst (v := 1) hx hb dX8_read_254 (by decide) ?_
    refine lv_isub hx hb dX8_read_255 ?_
    obtain ⟨hg, h⟩ := sg_gd h
    refine va_iald hx hb hK.1 hC.1 ((b + 1) - b) 0 sg_ga_text rfl (sg_in hg) dX8_read_256 ?_
    refine lv_bipush (v := 29) hx hb dX8_read_257 (by decide) ?_
    refine lv_icmp_eq (tgt := 274) hx hb dX8_read_259 (by decide) (fun hc => ?_) (fun hc => ?_)
    · replace h := (if_pos hc).symm.trans h
      exact w_X8_read_B274 ⟨hx, hb, hml, hown, hts, hK⟩ hret  h (lv_sub hl [0, 1, 2] rfl) hC hS
    · replace h := (if_neg hc).symm.trans h
      refine lv_aload_n hx hb dX8_read_262 rfl (lv_at hl 0 rfl) ?_
      refine lv_bipush (v := (-7)) hx hb dX8_read_263 (by decide) ?_
      refine lv_aload_n hx hb dX8_read_265 rfl (lv_at hl 0 rfl) ?_
      refine va_get (D := D) (ci := 8) (v := .int (σ.1 b 1)) (C := RX8) (T := TX8) (N := 21) hx hb hts (wqs inW_X8) hown hK.1 hC.1 (b - b) sg_gModel rfl 1 (by decide) (hts _ (wq wt_649)) (fun _ h9 => h9) rfl dX8_read_266 ?_
      refine lv_iconst (v := 1) hx hb dX8_read_269 (by decide) ?_
      refine lv_isub hx hb dX8_read_270 ?_
      obtain ⟨r1, er1, h⟩ := Option.bind_eq_some_iff.mp h
      refine va_callv (va_runV (As := [.int (-7), .int ((σ.1 b 1) - 1)]) (rest := []) ⟨hx, hb, hml, hown, hts⟩ (c_X8_fail l D κ b σ (-7) ((σ.1 b 1) - 1) _ er1) (cwV 2 hts (gwV wt_737 wt_739 wp_32 wt_9 wt_740) rfl rfl rfl (by decide +kernel) ⟨Nat.le_of_ble_eq_true rfl, Nat.le_of_ble_eq_true rfl⟩) (MW_preV hK hC sg_gModel rfl) rfl rfl hl.1 rfl (lv_room (Nat.le_of_ble_eq_true rfl)) dX8_read_271 ⟨Nat.zero_le _, Nat.zero_le _⟩) hS (fun _ _ h => h) (fun _ h => h) (fun u t H locs ht _ hp hB _ _ hS => ?_)
      have hC : MW D κ b r1 H := MW_b hB ht hp
      exact w_X8_read_B274 ⟨hx, hb, hml, hown, hts, hK⟩ hret  h (lv_sub hl [0, 1, 2] rfl) hC hS
def fn_X8_read_B221 (b : Nat) (z148 : Sg → Int32 → Int32 → Int32 → Int32 → Option (Int32 × Sg)) (σ : Sg) (x1 : Int32) (x2 : Int32) (x5 : Int32) (x6 : Int32) : Option (Int32 × Sg) :=
  (if sg_ib x6 8 then
  (sg_lt ((x5 + (σ.1 (b + 11) (sg_x x6))) : Int32) fun v1 =>
  (sg_lt (x6 + 1 : Int32) fun v2 =>
  z148 σ x1 x2 v1 v2))
  else none)
set_option maxHeartbeats 4000000 in
set_option maxRecDepth 100000 in
theorem w_X8_read_B221 {p : Program} {l : Launch} {e : Env} {s : State} {m : MethodId} {args : Array Value} {below : List Frame} {meth : Method} {c : Code} {Q : State → Prop} {D : va_G} {κ : Nat → ClassId} {b : Nat} {H0 : Heap} {rr : Int32 × Sg} (hZ : sg_Z p c s m args D κ cX8_read 7 RX8 wsX8_read) (hret : ∀ (v : Int32) (u : Sg) (H : Heap) (locs : List Loc) (pc : Nat) (ls : Array Slot), some (v, u) = some rr → MW D κ b u H → va_S (sg_A b 16) H0 H locs → decode cX8_read pc = .ok (.ireturn, 1) → W p l e rm_X8_read s m args below meth c H locs 0 0 Q (F0 m pc ls [.int v])) {z148 : Sg → Int32 → Int32 → Int32 → Int32 → Option (Int32 × Sg)} (hr148 : ∀ {σ : Sg} {x1 : Int32} {x2 : Int32} {x5 : Int32} {x6 : Int32} {H : Heap} {locs : List Loc} {ls : Array Slot}, z148 σ x1 x2 x5 x6 = some rr → lv_has ls 7 [(0, .ref b), (1, .int x1), (2, .int x2), (5, .int x5), (6, .int x6)] → MW D κ b σ H → va_S (sg_A b 16) H0 H locs → W p l e rm_X8_read s m args below meth c H locs 0 0 Q (F0 m 148 ls [])) : ∀ {σ : Sg} {x1 : Int32} {x2 : Int32} {x5 : Int32} {x6 : Int32} {H : Heap} {locs : List Loc} {ls : Array Slot}, fn_X8_read_B221 b z148 σ x1 x2 x5 x6 = some rr → lv_has ls 7 [(0, .ref b), (1, .int x1), (2, .int x2), (5, .int x5), (6, .int x6)] → MW D κ b σ H → va_S (sg_A b 16) H0 H locs → W p l e rm_X8_read s m args below meth c H locs 0 0 Q (F0 m 221 ls []) := by
  obtain ⟨hx, hb, hml, hown, hts, hK⟩ := hZ
  intro σ x1 x2 x5 x6 H locs ls h hl hC hS
  unfold fn_X8_read_B221 at h
  refine lv_iload hx hb dX8_read_221 (lv_at hl 3 rfl) ?_
  refine lv_aload_n hx hb dX8_read_223 rfl (lv_at hl 0 rfl) ?_
  refine va_get (D := D) (ci := 8) (v := .ref (b + 11)) (C := RX8) (T := TX8) (N := 21) hx hb hts (wqs inW_X8) hown hK.1 hC.1 (b - b) sg_gModel rfl 14 (by decide) (hts _ (wq wt_662)) (fun _ h9 => h9) rfl dX8_read_224 ?_
  refine lv_iload hx hb dX8_read_227 (lv_at hl 4 rfl) ?_
  obtain ⟨hg, h⟩ := sg_gd h
  refine va_iald hx hb hK.1 hC.1 ((b + 11) - b) 0 sg_ga_lengths rfl (sg_in hg) dX8_read_229 ?_
  refine lv_iadd hx hb dX8_read_230 ?_
  obtain ⟨v1, ev1, h⟩ := sg_lte h
  refine sg_topi ev1 ?_
  refine lv_istore (lv' := [(5, .int v1), (0, .ref b), (1, .int x1), (2, .int x2), (6, .int x6)]) hx hb dX8_read_231 hl (by decide) rfl (fun ls hl => ?_)
  obtain ⟨v2, ev2, h⟩ := sg_lte h
  refine lv_iinc (v := v2) (lv' := [(6, .int v2), (5, .int v1), (0, .ref b), (1, .int x1), (2, .int x2)]) (k := 4) hx hb dX8_read_233 hl rfl (sg_inc (by decide) ev2) (by decide) rfl (fun ls hl => ?_)
  refine lv_goto (tgt := 148) hx hb dX8_read_236 (by decide) ?_
  exact hr148 h (lv_sub hl [2, 3, 4, 1, 0] rfl) hC hS
def fn_X8_read_B148b (b : Nat) (z148 : Sg → Int32 → Int32 → Int32 → Int32 → Option (Int32 × Sg)) (σ : Sg) (x1 : Int32) (x2 : Int32) (x5 : Int32) (x6 : Int32) : Option (Int32 × Sg) :=
  (if (x2 : Int32) ≤ x6 then
  fn_X8_read_B239 b σ x1 x2
  else (if (σ.1 b 12) = 0 then
  (if sg_ib ((8 * x1) + x6) 48 then
  (if (10 : Int32) ≤ (σ.1 (b + 4) (sg_x ((8 * x1) + x6))) then
  (if sg_ib x6 8 then
  ((fn_X8_readField b σ ((8 * x1) + x6) x5 (σ.1 (b + 11) (sg_x x6))).bind fun r1 =>
  fn_X8_read_B221 b z148 r1 x1 x2 x5 x6)
  else none)
  else (if sg_ib x6 8 then
  ((fn_X8_readSimple b σ ((8 * x1) + x6) x5 (σ.1 (b + 11) (sg_x x6))).bind fun r2 =>
  fn_X8_read_B221 b z148 r2 x1 x2 x5 x6)
  else none))
  else none)
  else fn_X8_read_B239 b σ x1 x2))
def fn_X8_read_B148 (b : Nat) : Nat → Sg → Int32 → Int32 → Int32 → Int32 → Option (Int32 × Sg)
  | 0 => fun _ _ _ _ _ => none
  | n + 1 => fun σ x1 x2 x5 x6 => fn_X8_read_B148b b (fn_X8_read_B148 b n) σ x1 x2 x5 x6
set_option maxHeartbeats 4000000 in
set_option maxRecDepth 100000 in
theorem w_X8_read_B148b {p : Program} {l : Launch} {e : Env} {s : State} {m : MethodId} {args : Array Value} {below : List Frame} {meth : Method} {c : Code} {Q : State → Prop} {D : va_G} {κ : Nat → ClassId} {b : Nat} {H0 : Heap} {rr : Int32 × Sg} (hZ : sg_Z p c s m args D κ cX8_read 7 RX8 wsX8_read) (hret : ∀ (v : Int32) (u : Sg) (H : Heap) (locs : List Loc) (pc : Nat) (ls : Array Slot), some (v, u) = some rr → MW D κ b u H → va_S (sg_A b 16) H0 H locs → decode cX8_read pc = .ok (.ireturn, 1) → W p l e rm_X8_read s m args below meth c H locs 0 0 Q (F0 m pc ls [.int v])) {z148 : Sg → Int32 → Int32 → Int32 → Int32 → Option (Int32 × Sg)} (hr148 : ∀ {σ : Sg} {x1 : Int32} {x2 : Int32} {x5 : Int32} {x6 : Int32} {H : Heap} {locs : List Loc} {ls : Array Slot}, z148 σ x1 x2 x5 x6 = some rr → lv_has ls 7 [(0, .ref b), (1, .int x1), (2, .int x2), (5, .int x5), (6, .int x6)] → MW D κ b σ H → va_S (sg_A b 16) H0 H locs → W p l e rm_X8_read s m args below meth c H locs 0 0 Q (F0 m 148 ls [])) : ∀ {σ : Sg} {x1 : Int32} {x2 : Int32} {x5 : Int32} {x6 : Int32} {H : Heap} {locs : List Loc} {ls : Array Slot}, fn_X8_read_B148b b z148 σ x1 x2 x5 x6 = some rr → lv_has ls 7 [(0, .ref b), (1, .int x1), (2, .int x2), (5, .int x5), (6, .int x6)] → MW D κ b σ H → va_S (sg_A b 16) H0 H locs → W p l e rm_X8_read s m args below meth c H locs 0 0 Q (F0 m 148 ls []) := by
  obtain ⟨hx, hb, hml, hown, hts, hK⟩ := hZ
  intro σ x1 x2 x5 x6 H locs ls h hl hC hS
  unfold fn_X8_read_B148b at h
  refine lv_iload hx hb dX8_read_148 (lv_at hl 4 rfl) ?_
  refine lv_iload_n hx hb dX8_read_150 rfl (lv_at hl 2 rfl) ?_
  refine lv_icmp_ge (tgt := 239) hx hb dX8_read_151 (by decide) (fun hc => ?_) (fun hc => ?_)
  · replace h := (if_pos hc).symm.trans h
    exact w_X8_read_B239 ⟨hx, hb, hml, hown, hts, hK⟩ hret  h (lv_sub hl [0, 1, 2] rfl) hC hS
  · replace h := (if_neg hc).symm.trans h
    refine lv_aload_n hx hb dX8_read_154 rfl (lv_at hl 0 rfl) ?_
    refine va_get (D := D) (ci := 8) (v := .int (σ.1 b 12)) (C := RX8) (T := TX8) (N := 21) hx hb hts (wqs inW_X8) hown hK.1 hC.1 (b - b) sg_gModel rfl 12 (by decide) (hts _ (wq wt_660)) (fun _ h9 => h9) rfl dX8_read_155 ?_
    refine lv_if_ne (tgt := 239) hx hb dX8_read_158 (by decide) (fun hc => ?_) (fun hc => ?_)
    · replace h := (if_neg hc).symm.trans h
      exact w_X8_read_B239 ⟨hx, hb, hml, hown, hts, hK⟩ hret  h (lv_sub hl [0, 1, 2] rfl) hC hS
    · replace h := (if_pos hc).symm.trans h
      refine lv_aload_n hx hb dX8_read_161 rfl (lv_at hl 0 rfl) ?_
      refine va_get (D := D) (ci := 8) (v := .ref (b + 4)) (C := RX8) (T := TX8) (N := 21) hx hb hts (wqs inW_X8) hown hK.1 hC.1 (b - b) sg_gModel rfl 5 (by decide) (hts _ (wq wt_653)) (fun _ h9 => h9) rfl dX8_read_162 ?_
      refine lv_bipush (v := 8) hx hb dX8_read_165 (by decide) ?_
      refine lv_iload_n hx hb dX8_read_167 rfl (lv_at hl 1 rfl) ?_
      refine lv_imul hx hb dX8_read_168 ?_
      refine lv_iload hx hb dX8_read_169 (lv_at hl 4 rfl) ?_
      refine lv_iadd hx hb dX8_read_171 ?_
      obtain ⟨hg, h⟩ := sg_gd h
      refine va_iald hx hb hK.1 hC.1 ((b + 4) - b) 0 sg_ga_tags rfl (sg_in hg) dX8_read_172 ?_
      refine lv_bipush (v := 10) hx hb dX8_read_173 (by decide) ?_
      refine lv_icmp_ge (tgt := 201) hx hb dX8_read_175 (by decide) (fun hc => ?_) (fun hc => ?_)
      · replace h := (if_pos hc).symm.trans h
        refine lv_aload_n hx hb dX8_read_201 rfl (lv_at hl 0 rfl) ?_
        refine lv_bipush (v := 8) hx hb dX8_read_202 (by decide) ?_
        refine lv_iload_n hx hb dX8_read_204 rfl (lv_at hl 1 rfl) ?_
        refine lv_imul hx hb dX8_read_205 ?_
        refine lv_iload hx hb dX8_read_206 (lv_at hl 4 rfl) ?_
        refine lv_iadd hx hb dX8_read_208 ?_
        refine lv_iload hx hb dX8_read_209 (lv_at hl 3 rfl) ?_
        refine lv_aload_n hx hb dX8_read_211 rfl (lv_at hl 0 rfl) ?_
        refine va_get (D := D) (ci := 8) (v := .ref (b + 11)) (C := RX8) (T := TX8) (N := 21) hx hb hts (wqs inW_X8) hown hK.1 hC.1 (b - b) sg_gModel rfl 14 (by decide) (hts _ (wq wt_662)) (fun _ h9 => h9) rfl dX8_read_212 ?_
        refine lv_iload hx hb dX8_read_215 (lv_at hl 4 rfl) ?_
        obtain ⟨hg, h⟩ := sg_gd h
        refine va_iald hx hb hK.1 hC.1 ((b + 11) - b) 0 sg_ga_lengths rfl (sg_in hg) dX8_read_217 ?_
        obtain ⟨r1, er1, h⟩ := Option.bind_eq_some_iff.mp h
        refine va_callv (va_runV (As := [.int ((8 * x1) + x6), .int x5, .int (σ.1 (b + 11) (sg_x x6))]) (rest := []) ⟨hx, hb, hml, hown, hts⟩ (c_X8_readField l D κ b σ ((8 * x1) + x6) x5 (σ.1 (b + 11) (sg_x x6)) _ er1) (cwV 3 hts (gwV wt_774 wt_776 wp_39 wt_9 wt_777) rfl rfl rfl (by decide +kernel) ⟨Nat.le_of_ble_eq_true rfl, Nat.le_of_ble_eq_true rfl⟩) (MW_preV hK hC sg_gModel rfl) rfl rfl hl.1 rfl (lv_room (Nat.le_of_ble_eq_true rfl)) dX8_read_218 ⟨Nat.zero_le _, Nat.zero_le _⟩) hS (fun _ _ h => h) (fun _ h => h) (fun u t H locs ht _ hp hB _ _ hS => ?_)
        have hC : MW D κ b r1 H := MW_b hB ht hp
        exact w_X8_read_B221 ⟨hx, hb, hml, hown, hts, hK⟩ hret hr148 h (lv_sub hl [0, 1, 2, 3, 4] rfl) hC hS
      · replace h := (if_neg hc).symm.trans h
        refine lv_aload_n hx hb dX8_read_178 rfl (lv_at hl 0 rfl) ?_
        refine lv_bipush (v := 8) hx hb dX8_read_179 (by decide) ?_
        refine lv_iload_n hx hb dX8_read_181 rfl (lv_at hl 1 rfl) ?_
        refine lv_imul hx hb dX8_read_182 ?_
        refine lv_iload hx hb dX8_read_183 (lv_at hl 4 rfl) ?_
        refine lv_iadd hx hb dX8_read_185 ?_
        refine lv_iload hx hb dX8_read_186 (lv_at hl 3 rfl) ?_
        refine lv_aload_n hx hb dX8_read_188 rfl (lv_at hl 0 rfl) ?_
        refine va_get (D := D) (ci := 8) (v := .ref (b + 11)) (C := RX8) (T := TX8) (N := 21) hx hb hts (wqs inW_X8) hown hK.1 hC.1 (b - b) sg_gModel rfl 14 (by decide) (hts _ (wq wt_662)) (fun _ h9 => h9) rfl dX8_read_189 ?_
        refine lv_iload hx hb dX8_read_192 (lv_at hl 4 rfl) ?_
        obtain ⟨hg, h⟩ := sg_gd h
        refine va_iald hx hb hK.1 hC.1 ((b + 11) - b) 0 sg_ga_lengths rfl (sg_in hg) dX8_read_194 ?_
        obtain ⟨r2, er2, h⟩ := Option.bind_eq_some_iff.mp h
        refine va_callv (va_runV (As := [.int ((8 * x1) + x6), .int x5, .int (σ.1 (b + 11) (sg_x x6))]) (rest := []) ⟨hx, hb, hml, hown, hts⟩ (c_X8_readSimple l D κ b σ ((8 * x1) + x6) x5 (σ.1 (b + 11) (sg_x x6)) _ er2) (cwV 3 hts (gwV wt_762 wt_764 wp_36 wt_9 wt_765) rfl rfl rfl (by decide +kernel) ⟨Nat.le_of_ble_eq_true rfl, Nat.le_of_ble_eq_true rfl⟩) (MW_preV hK hC sg_gModel rfl) rfl rfl hl.1 rfl (lv_room (Nat.le_of_ble_eq_true rfl)) dX8_read_195 ⟨Nat.zero_le _, Nat.zero_le _⟩) hS (fun _ _ h => h) (fun _ h => h) (fun u t H locs ht _ hp hB _ _ hS => ?_)
        have hC : MW D κ b r2 H := MW_b hB ht hp
        refine lv_goto (tgt := 221) hx hb dX8_read_198 (by decide) ?_
        exact w_X8_read_B221 ⟨hx, hb, hml, hown, hts, hK⟩ hret hr148 h (lv_sub hl [0, 1, 2, 3, 4] rfl) hC hS
set_option maxHeartbeats 4000000 in
theorem w_X8_read_B148 {p : Program} {l : Launch} {e : Env} {s : State} {m : MethodId} {args : Array Value} {below : List Frame} {meth : Method} {c : Code} {Q : State → Prop} {D : va_G} {κ : Nat → ClassId} {b : Nat} {H0 : Heap} {rr : Int32 × Sg} (hZ : sg_Z p c s m args D κ cX8_read 7 RX8 wsX8_read) (hret : ∀ (v : Int32) (u : Sg) (H : Heap) (locs : List Loc) (pc : Nat) (ls : Array Slot), some (v, u) = some rr → MW D κ b u H → va_S (sg_A b 16) H0 H locs → decode cX8_read pc = .ok (.ireturn, 1) → W p l e rm_X8_read s m args below meth c H locs 0 0 Q (F0 m pc ls [.int v])) : ∀ n : Nat, ∀ {σ : Sg} {x1 : Int32} {x2 : Int32} {x5 : Int32} {x6 : Int32} {H : Heap} {locs : List Loc} {ls : Array Slot}, fn_X8_read_B148 b n σ x1 x2 x5 x6 = some rr → lv_has ls 7 [(0, .ref b), (1, .int x1), (2, .int x2), (5, .int x5), (6, .int x6)] → MW D κ b σ H → va_S (sg_A b 16) H0 H locs → W p l e rm_X8_read s m args below meth c H locs 0 0 Q (F0 m 148 ls []) := by
  intro n
  induction n with
  | zero => intro σ x1 x2 x5 x6 H locs ls h hl hC hS; cases (show (none : Option (Int32 × Sg)) = some rr from h)
  | succ n ih =>
    intro σ x1 x2 x5 x6 H locs ls h hl hC hS
    exact w_X8_read_B148b hZ hret ih (show fn_X8_read_B148b b (fn_X8_read_B148 b n) σ x1 x2 x5 x6 = some rr from h)  hl hC hS
def fn_X8_read_B142 (b : Nat) (σ : Sg) (x1 : Int32) (x2 : Int32) (x3 : Int32) : Option (Int32 × Sg) :=
  fn_X8_read_B148 b sg_N σ x1 x2 x3 0
set_option maxHeartbeats 4000000 in
set_option maxRecDepth 100000 in
theorem w_X8_read_B142 {p : Program} {l : Launch} {e : Env} {s : State} {m : MethodId} {args : Array Value} {below : List Frame} {meth : Method} {c : Code} {Q : State → Prop} {D : va_G} {κ : Nat → ClassId} {b : Nat} {H0 : Heap} {rr : Int32 × Sg} (hZ : sg_Z p c s m args D κ cX8_read 7 RX8 wsX8_read) (hret : ∀ (v : Int32) (u : Sg) (H : Heap) (locs : List Loc) (pc : Nat) (ls : Array Slot), some (v, u) = some rr → MW D κ b u H → va_S (sg_A b 16) H0 H locs → decode cX8_read pc = .ok (.ireturn, 1) → W p l e rm_X8_read s m args below meth c H locs 0 0 Q (F0 m pc ls [.int v])) : ∀ {σ : Sg} {x1 : Int32} {x2 : Int32} {x3 : Int32} {H : Heap} {locs : List Loc} {ls : Array Slot}, fn_X8_read_B142 b σ x1 x2 x3 = some rr → lv_has ls 7 [(0, .ref b), (1, .int x1), (2, .int x2), (3, .int x3)] → MW D κ b σ H → va_S (sg_A b 16) H0 H locs → W p l e rm_X8_read s m args below meth c H locs 0 0 Q (F0 m 142 ls []) := by
  obtain ⟨hx, hb, hml, hown, hts, hK⟩ := hZ
  intro σ x1 x2 x3 H locs ls h hl hC hS
  unfold fn_X8_read_B142 at h
  refine lv_iload_n hx hb dX8_read_142 rfl (lv_at hl 3 rfl) ?_
  refine lv_istore (lv' := [(5, .int x3), (0, .ref b), (1, .int x1), (2, .int x2), (3, .int x3)]) hx hb dX8_read_143 hl (by decide) rfl (fun ls hl => ?_)
  refine lv_iconst (v := 0) hx hb dX8_read_145 (by decide) ?_
  refine lv_istore (lv' := [(6, .int 0), (5, .int x3), (0, .ref b), (1, .int x1), (2, .int x2), (3, .int x3)]) hx hb dX8_read_146 hl (by decide) rfl (fun ls hl => ?_)
  exact w_X8_read_B148 ⟨hx, hb, hml, hown, hts, hK⟩ hret  sg_N h (lv_sub hl [2, 3, 4, 1, 0] rfl) hC hS
def fn_X8_read_B115 (b : Nat) (σ : Sg) (x1 : Int32) (x2 : Int32) (x3 : Int32) (x4 : Int32) : Option (Int32 × Sg) :=
  (if (σ.1 b 12) = 0 then
  (if ((x3 + x4) + 1) = (σ.1 b 1) then
  fn_X8_read_B142 b σ x1 x2 x3
  else ((fn_X8_fail b σ (-5) x3).bind fun r1 =>
  fn_X8_read_B142 b r1 x1 x2 x3))
  else fn_X8_read_B142 b σ x1 x2 x3)
set_option maxHeartbeats 4000000 in
set_option maxRecDepth 100000 in
theorem w_X8_read_B115 {p : Program} {l : Launch} {e : Env} {s : State} {m : MethodId} {args : Array Value} {below : List Frame} {meth : Method} {c : Code} {Q : State → Prop} {D : va_G} {κ : Nat → ClassId} {b : Nat} {H0 : Heap} {rr : Int32 × Sg} (hZ : sg_Z p c s m args D κ cX8_read 7 RX8 wsX8_read) (hret : ∀ (v : Int32) (u : Sg) (H : Heap) (locs : List Loc) (pc : Nat) (ls : Array Slot), some (v, u) = some rr → MW D κ b u H → va_S (sg_A b 16) H0 H locs → decode cX8_read pc = .ok (.ireturn, 1) → W p l e rm_X8_read s m args below meth c H locs 0 0 Q (F0 m pc ls [.int v])) : ∀ {σ : Sg} {x1 : Int32} {x2 : Int32} {x3 : Int32} {x4 : Int32} {H : Heap} {locs : List Loc} {ls : Array Slot}, fn_X8_read_B115 b σ x1 x2 x3 x4 = some rr → lv_has ls 7 [(0, .ref b), (1, .int x1), (2, .int x2), (3, .int x3), (4, .int x4)] → MW D κ b σ H → va_S (sg_A b 16) H0 H locs → W p l e rm_X8_read s m args below meth c H locs 0 0 Q (F0 m 115 ls []) := by
  obtain ⟨hx, hb, hml, hown, hts, hK⟩ := hZ
  intro σ x1 x2 x3 x4 H locs ls h hl hC hS
  unfold fn_X8_read_B115 at h
  refine lv_aload_n hx hb dX8_read_115 rfl (lv_at hl 0 rfl) ?_
  refine va_get (D := D) (ci := 8) (v := .int (σ.1 b 12)) (C := RX8) (T := TX8) (N := 21) hx hb hts (wqs inW_X8) hown hK.1 hC.1 (b - b) sg_gModel rfl 12 (by decide) (hts _ (wq wt_660)) (fun _ h9 => h9) rfl dX8_read_116 ?_
  refine lv_if_ne (tgt := 142) hx hb dX8_read_119 (by decide) (fun hc => ?_) (fun hc => ?_)
  · replace h := (if_neg hc).symm.trans h
    exact w_X8_read_B142 ⟨hx, hb, hml, hown, hts, hK⟩ hret  h (lv_sub hl [0, 1, 2, 3] rfl) hC hS
  · replace h := (if_pos hc).symm.trans h
    refine lv_iload_n hx hb dX8_read_122 rfl (lv_at hl 3 rfl) ?_
    refine lv_iload hx hb dX8_read_123 (lv_at hl 4 rfl) ?_
    refine lv_iadd hx hb dX8_read_125 ?_
    refine lv_iconst (v := 1) hx hb dX8_read_126 (by decide) ?_
    refine lv_iadd hx hb dX8_read_127 ?_
    refine lv_aload_n hx hb dX8_read_128 rfl (lv_at hl 0 rfl) ?_
    refine va_get (D := D) (ci := 8) (v := .int (σ.1 b 1)) (C := RX8) (T := TX8) (N := 21) hx hb hts (wqs inW_X8) hown hK.1 hC.1 (b - b) sg_gModel rfl 1 (by decide) (hts _ (wq wt_649)) (fun _ h9 => h9) rfl dX8_read_129 ?_
    refine lv_icmp_eq (tgt := 142) hx hb dX8_read_132 (by decide) (fun hc => ?_) (fun hc => ?_)
    · replace h := (if_pos hc).symm.trans h
      exact w_X8_read_B142 ⟨hx, hb, hml, hown, hts, hK⟩ hret  h (lv_sub hl [0, 1, 2, 3] rfl) hC hS
    · replace h := (if_neg hc).symm.trans h
      refine lv_aload_n hx hb dX8_read_135 rfl (lv_at hl 0 rfl) ?_
      refine lv_bipush (v := (-5)) hx hb dX8_read_136 (by decide) ?_
      refine lv_iload_n hx hb dX8_read_138 rfl (lv_at hl 3 rfl) ?_
      obtain ⟨r1, er1, h⟩ := Option.bind_eq_some_iff.mp h
      refine va_callv (va_runV (As := [.int (-5), .int x3]) (rest := []) ⟨hx, hb, hml, hown, hts⟩ (c_X8_fail l D κ b σ (-5) x3 _ er1) (cwV 2 hts (gwV wt_737 wt_739 wp_32 wt_9 wt_740) rfl rfl rfl (by decide +kernel) ⟨Nat.le_of_ble_eq_true rfl, Nat.le_of_ble_eq_true rfl⟩) (MW_preV hK hC sg_gModel rfl) rfl rfl hl.1 rfl (lv_room (Nat.le_of_ble_eq_true rfl)) dX8_read_139 ⟨Nat.zero_le _, Nat.zero_le _⟩) hS (fun _ _ h => h) (fun _ h => h) (fun u t H locs ht _ hp hB _ _ hS => ?_)
      have hC : MW D κ b r1 H := MW_b hB ht hp
      exact w_X8_read_B142 ⟨hx, hb, hml, hown, hts, hK⟩ hret  h (lv_sub hl [0, 1, 2, 3] rfl) hC hS
def fn_X8_read_B86 (b : Nat) (σ : Sg) (x1 : Int32) (x2 : Int32) (x3 : Int32) (x4 : Int32) : Option (Int32 × Sg) :=
  (if (σ.1 b 12) = 0 then
  (if sg_ib (x3 - 1) 600 then
  (if (σ.1 (b + 1) (sg_x (x3 - 1))) = 30 then
  fn_X8_read_B115 b σ x1 x2 x3 x4
  else ((fn_X8_fail b σ (-4) (x3 - 1)).bind fun r1 =>
  fn_X8_read_B115 b r1 x1 x2 x3 x4))
  else none)
  else fn_X8_read_B115 b σ x1 x2 x3 x4)
set_option maxHeartbeats 4000000 in
set_option maxRecDepth 100000 in
theorem w_X8_read_B86 {p : Program} {l : Launch} {e : Env} {s : State} {m : MethodId} {args : Array Value} {below : List Frame} {meth : Method} {c : Code} {Q : State → Prop} {D : va_G} {κ : Nat → ClassId} {b : Nat} {H0 : Heap} {rr : Int32 × Sg} (hZ : sg_Z p c s m args D κ cX8_read 7 RX8 wsX8_read) (hret : ∀ (v : Int32) (u : Sg) (H : Heap) (locs : List Loc) (pc : Nat) (ls : Array Slot), some (v, u) = some rr → MW D κ b u H → va_S (sg_A b 16) H0 H locs → decode cX8_read pc = .ok (.ireturn, 1) → W p l e rm_X8_read s m args below meth c H locs 0 0 Q (F0 m pc ls [.int v])) : ∀ {σ : Sg} {x1 : Int32} {x2 : Int32} {x3 : Int32} {x4 : Int32} {H : Heap} {locs : List Loc} {ls : Array Slot}, fn_X8_read_B86 b σ x1 x2 x3 x4 = some rr → lv_has ls 7 [(0, .ref b), (1, .int x1), (2, .int x2), (3, .int x3), (4, .int x4)] → MW D κ b σ H → va_S (sg_A b 16) H0 H locs → W p l e rm_X8_read s m args below meth c H locs 0 0 Q (F0 m 86 ls []) := by
  obtain ⟨hx, hb, hml, hown, hts, hK⟩ := hZ
  intro σ x1 x2 x3 x4 H locs ls h hl hC hS
  unfold fn_X8_read_B86 at h
  refine lv_aload_n hx hb dX8_read_86 rfl (lv_at hl 0 rfl) ?_
  refine va_get (D := D) (ci := 8) (v := .int (σ.1 b 12)) (C := RX8) (T := TX8) (N := 21) hx hb hts (wqs inW_X8) hown hK.1 hC.1 (b - b) sg_gModel rfl 12 (by decide) (hts _ (wq wt_660)) (fun _ h9 => h9) rfl dX8_read_87 ?_
  refine lv_if_ne (tgt := 115) hx hb dX8_read_90 (by decide) (fun hc => ?_) (fun hc => ?_)
  · replace h := (if_neg hc).symm.trans h
    exact w_X8_read_B115 ⟨hx, hb, hml, hown, hts, hK⟩ hret  h (lv_sub hl [0, 1, 2, 3, 4] rfl) hC hS
  · replace h := (if_pos hc).symm.trans h
    refine lv_aload_n hx hb dX8_read_93 rfl (lv_at hl 0 rfl) ?_
    refine va_get (D := D) (ci := 8) (v := .ref (b + 1)) (C := RX8) (T := TX8) (N := 21) hx hb hts (wqs inW_X8) hown hK.1 hC.1 (b - b) sg_gModel rfl 0 (by decide) (hts _ (wq wt_648)) (fun _ h9 => h9) rfl dX8_read_94 ?_
    refine lv_iload_n hx hb dX8_read_97 rfl (lv_at hl 3 rfl) ?_
    refine lv_iconst (v := 1) hx hb dX8_read_98 (by decide) ?_
    refine lv_isub hx hb dX8_read_99 ?_
    obtain ⟨hg, h⟩ := sg_gd h
    refine va_iald hx hb hK.1 hC.1 ((b + 1) - b) 0 sg_ga_text rfl (sg_in hg) dX8_read_100 ?_
    refine lv_bipush (v := 30) hx hb dX8_read_101 (by decide) ?_
    refine lv_icmp_eq (tgt := 115) hx hb dX8_read_103 (by decide) (fun hc => ?_) (fun hc => ?_)
    · replace h := (if_pos hc).symm.trans h
      exact w_X8_read_B115 ⟨hx, hb, hml, hown, hts, hK⟩ hret  h (lv_sub hl [0, 1, 2, 3, 4] rfl) hC hS
    · replace h := (if_neg hc).symm.trans h
      refine lv_aload_n hx hb dX8_read_106 rfl (lv_at hl 0 rfl) ?_
      refine lv_bipush (v := (-4)) hx hb dX8_read_107 (by decide) ?_
      refine lv_iload_n hx hb dX8_read_109 rfl (lv_at hl 3 rfl) ?_
      refine lv_iconst (v := 1) hx hb dX8_read_110 (by decide) ?_
      refine lv_isub hx hb dX8_read_111 ?_
      obtain ⟨r1, er1, h⟩ := Option.bind_eq_some_iff.mp h
      refine va_callv (va_runV (As := [.int (-4), .int (x3 - 1)]) (rest := []) ⟨hx, hb, hml, hown, hts⟩ (c_X8_fail l D κ b σ (-4) (x3 - 1) _ er1) (cwV 2 hts (gwV wt_737 wt_739 wp_32 wt_9 wt_740) rfl rfl rfl (by decide +kernel) ⟨Nat.le_of_ble_eq_true rfl, Nat.le_of_ble_eq_true rfl⟩) (MW_preV hK hC sg_gModel rfl) rfl rfl hl.1 rfl (lv_room (Nat.le_of_ble_eq_true rfl)) dX8_read_112 ⟨Nat.zero_le _, Nat.zero_le _⟩) hS (fun _ _ h => h) (fun _ h => h) (fun u t H locs ht _ hp hB _ _ hS => ?_)
      have hC : MW D κ b r1 H := MW_b hB ht hp
      exact w_X8_read_B115 ⟨hx, hb, hml, hown, hts, hK⟩ hret  h (lv_sub hl [0, 1, 2, 3, 4] rfl) hC hS
def fn_X8_read_B46b (b : Nat) (z46 : Sg → Int32 → Int32 → Int32 → Int32 → Int32 → Option (Int32 × Sg)) (σ : Sg) (x1 : Int32) (x2 : Int32) (x3 : Int32) (x4 : Int32) (x5 : Int32) : Option (Int32 × Sg) :=
  (if (x2 : Int32) ≤ x5 then
  fn_X8_read_B86 b σ x1 x2 x3 x4
  else (if (σ.1 b 12) = 0 then
  ((fn_X8_readEntry b σ x1 x5 x4).bind fun r1 =>
  (if sg_ib x5 8 then
  (sg_lt ((x4 + (r1.1 (b + 11) (sg_x x5))) : Int32) fun v2 =>
  (sg_lt (x5 + 1 : Int32) fun v3 =>
  z46 r1 x1 x2 x3 v2 v3))
  else none))
  else fn_X8_read_B86 b σ x1 x2 x3 x4))
def fn_X8_read_B46 (b : Nat) : Nat → Sg → Int32 → Int32 → Int32 → Int32 → Int32 → Option (Int32 × Sg)
  | 0 => fun _ _ _ _ _ _ => none
  | n + 1 => fun σ x1 x2 x3 x4 x5 => fn_X8_read_B46b b (fn_X8_read_B46 b n) σ x1 x2 x3 x4 x5
set_option maxHeartbeats 4000000 in
set_option maxRecDepth 100000 in
theorem w_X8_read_B46b {p : Program} {l : Launch} {e : Env} {s : State} {m : MethodId} {args : Array Value} {below : List Frame} {meth : Method} {c : Code} {Q : State → Prop} {D : va_G} {κ : Nat → ClassId} {b : Nat} {H0 : Heap} {rr : Int32 × Sg} (hZ : sg_Z p c s m args D κ cX8_read 7 RX8 wsX8_read) (hret : ∀ (v : Int32) (u : Sg) (H : Heap) (locs : List Loc) (pc : Nat) (ls : Array Slot), some (v, u) = some rr → MW D κ b u H → va_S (sg_A b 16) H0 H locs → decode cX8_read pc = .ok (.ireturn, 1) → W p l e rm_X8_read s m args below meth c H locs 0 0 Q (F0 m pc ls [.int v])) {z46 : Sg → Int32 → Int32 → Int32 → Int32 → Int32 → Option (Int32 × Sg)} (hr46 : ∀ {σ : Sg} {x1 : Int32} {x2 : Int32} {x3 : Int32} {x4 : Int32} {x5 : Int32} {H : Heap} {locs : List Loc} {ls : Array Slot}, z46 σ x1 x2 x3 x4 x5 = some rr → lv_has ls 7 [(0, .ref b), (1, .int x1), (2, .int x2), (3, .int x3), (4, .int x4), (5, .int x5)] → MW D κ b σ H → va_S (sg_A b 16) H0 H locs → W p l e rm_X8_read s m args below meth c H locs 0 0 Q (F0 m 46 ls [])) : ∀ {σ : Sg} {x1 : Int32} {x2 : Int32} {x3 : Int32} {x4 : Int32} {x5 : Int32} {H : Heap} {locs : List Loc} {ls : Array Slot}, fn_X8_read_B46b b z46 σ x1 x2 x3 x4 x5 = some rr → lv_has ls 7 [(0, .ref b), (1, .int x1), (2, .int x2), (3, .int x3), (4, .int x4), (5, .int x5)] → MW D κ b σ H → va_S (sg_A b 16) H0 H locs → W p l e rm_X8_read s m args below meth c H locs 0 0 Q (F0 m 46 ls []) := by
  obtain ⟨hx, hb, hml, hown, hts, hK⟩ := hZ
  intro σ x1 x2 x3 x4 x5 H locs ls h hl hC hS
  unfold fn_X8_read_B46b at h
  refine lv_iload hx hb dX8_read_46 (lv_at hl 5 rfl) ?_
  refine lv_iload_n hx hb dX8_read_48 rfl (lv_at hl 2 rfl) ?_
  refine lv_icmp_ge (tgt := 86) hx hb dX8_read_49 (by decide) (fun hc => ?_) (fun hc => ?_)
  · replace h := (if_pos hc).symm.trans h
    exact w_X8_read_B86 ⟨hx, hb, hml, hown, hts, hK⟩ hret  h (lv_sub hl [0, 1, 2, 3, 4] rfl) hC hS
  · replace h := (if_neg hc).symm.trans h
    refine lv_aload_n hx hb dX8_read_52 rfl (lv_at hl 0 rfl) ?_
    refine va_get (D := D) (ci := 8) (v := .int (σ.1 b 12)) (C := RX8) (T := TX8) (N := 21) hx hb hts (wqs inW_X8) hown hK.1 hC.1 (b - b) sg_gModel rfl 12 (by decide) (hts _ (wq wt_660)) (fun _ h9 => h9) rfl dX8_read_53 ?_
    refine lv_if_ne (tgt := 86) hx hb dX8_read_56 (by decide) (fun hc => ?_) (fun hc => ?_)
    · replace h := (if_neg hc).symm.trans h
      exact w_X8_read_B86 ⟨hx, hb, hml, hown, hts, hK⟩ hret  h (lv_sub hl [0, 1, 2, 3, 4] rfl) hC hS
    · replace h := (if_pos hc).symm.trans h
      refine lv_aload_n hx hb dX8_read_59 rfl (lv_at hl 0 rfl) ?_
      refine lv_iload_n hx hb dX8_read_60 rfl (lv_at hl 1 rfl) ?_
      refine lv_iload hx hb dX8_read_61 (lv_at hl 5 rfl) ?_
      refine lv_iload hx hb dX8_read_63 (lv_at hl 4 rfl) ?_
      obtain ⟨r1, er1, h⟩ := Option.bind_eq_some_iff.mp h
      refine va_callv (va_runV (As := [.int x1, .int x5, .int x4]) (rest := []) ⟨hx, hb, hml, hown, hts⟩ (c_X8_readEntry l D κ b σ x1 x5 x4 _ er1) (cwV 3 hts (gwV wt_758 wt_760 wp_35 wt_9 wt_761) rfl rfl rfl (by decide +kernel) ⟨Nat.le_of_ble_eq_true rfl, Nat.le_of_ble_eq_true rfl⟩) (MW_preV hK hC sg_gModel rfl) rfl rfl hl.1 rfl (lv_room (Nat.le_of_ble_eq_true rfl)) dX8_read_65 ⟨Nat.zero_le _, Nat.zero_le _⟩) hS (fun _ _ h => h) (fun _ h => h) (fun u t H locs ht _ hp hB _ _ hS => ?_)
      have hC : MW D κ b r1 H := MW_b hB ht hp
      refine lv_iload hx hb dX8_read_68 (lv_at hl 4 rfl) ?_
      refine lv_aload_n hx hb dX8_read_70 rfl (lv_at hl 0 rfl) ?_
      refine va_get (D := D) (ci := 8) (v := .ref (b + 11)) (C := RX8) (T := TX8) (N := 21) hx hb hts (wqs inW_X8) hown hK.1 hC.1 (b - b) sg_gModel rfl 14 (by decide) (hts _ (wq wt_662)) (fun _ h9 => h9) rfl dX8_read_71 ?_
      refine lv_iload hx hb dX8_read_74 (lv_at hl 5 rfl) ?_
      obtain ⟨hg, h⟩ := sg_gd h
      refine va_iald hx hb hK.1 hC.1 ((b + 11) - b) 0 sg_ga_lengths rfl (sg_in hg) dX8_read_76 ?_
      refine lv_iadd hx hb dX8_read_77 ?_
      obtain ⟨v2, ev2, h⟩ := sg_lte h
      refine sg_topi ev2 ?_
      refine lv_istore (lv' := [(4, .int v2), (0, .ref b), (1, .int x1), (2, .int x2), (3, .int x3), (5, .int x5)]) hx hb dX8_read_78 hl (by decide) rfl (fun ls hl => ?_)
      obtain ⟨v3, ev3, h⟩ := sg_lte h
      refine lv_iinc (v := v3) (lv' := [(5, .int v3), (4, .int v2), (0, .ref b), (1, .int x1), (2, .int x2), (3, .int x3)]) (k := 5) hx hb dX8_read_80 hl rfl (sg_inc (by decide) ev3) (by decide) rfl (fun ls hl => ?_)
      refine lv_goto (tgt := 46) hx hb dX8_read_83 (by decide) ?_
      exact hr46 h (lv_sub hl [2, 3, 4, 5, 1, 0] rfl) hC hS
set_option maxHeartbeats 4000000 in
theorem w_X8_read_B46 {p : Program} {l : Launch} {e : Env} {s : State} {m : MethodId} {args : Array Value} {below : List Frame} {meth : Method} {c : Code} {Q : State → Prop} {D : va_G} {κ : Nat → ClassId} {b : Nat} {H0 : Heap} {rr : Int32 × Sg} (hZ : sg_Z p c s m args D κ cX8_read 7 RX8 wsX8_read) (hret : ∀ (v : Int32) (u : Sg) (H : Heap) (locs : List Loc) (pc : Nat) (ls : Array Slot), some (v, u) = some rr → MW D κ b u H → va_S (sg_A b 16) H0 H locs → decode cX8_read pc = .ok (.ireturn, 1) → W p l e rm_X8_read s m args below meth c H locs 0 0 Q (F0 m pc ls [.int v])) : ∀ n : Nat, ∀ {σ : Sg} {x1 : Int32} {x2 : Int32} {x3 : Int32} {x4 : Int32} {x5 : Int32} {H : Heap} {locs : List Loc} {ls : Array Slot}, fn_X8_read_B46 b n σ x1 x2 x3 x4 x5 = some rr → lv_has ls 7 [(0, .ref b), (1, .int x1), (2, .int x2), (3, .int x3), (4, .int x4), (5, .int x5)] → MW D κ b σ H → va_S (sg_A b 16) H0 H locs → W p l e rm_X8_read s m args below meth c H locs 0 0 Q (F0 m 46 ls []) := by
  intro n
  induction n with
  | zero => intro σ x1 x2 x3 x4 x5 H locs ls h hl hC hS; cases (show (none : Option (Int32 × Sg)) = some rr from h)
  | succ n ih =>
    intro σ x1 x2 x3 x4 x5 H locs ls h hl hC hS
    exact w_X8_read_B46b hZ hret ih (show fn_X8_read_B46b b (fn_X8_read_B46 b n) σ x1 x2 x3 x4 x5 = some rr from h)  hl hC hS
def fn_X8_read (b : Nat) (σ : Sg) : Option (Int32 × Sg) :=
  (sg_lt (sg_w σ b 12 0) fun σ1 =>
  (sg_lt (sg_w σ1 b 13 (-1)) fun σ2 =>
  (if (σ2.1 b 2) = 6 then
  some ((-2), σ2)
  else (sg_lt ((σ2.1 b 2) : Int32) fun v3 =>
  ((fn_X8_readLeader b σ2).bind fun r4 =>
  (sg_lt ((25 + (12 * r4.1)) : Int32) fun v5 =>
  fn_X8_read_B46 b sg_N r4.2 v3 r4.1 v5 0 0))))))
set_option maxHeartbeats 4000000 in
set_option maxRecDepth 100000 in
theorem w_X8_read_B0 {p : Program} {l : Launch} {e : Env} {s : State} {m : MethodId} {args : Array Value} {below : List Frame} {meth : Method} {c : Code} {Q : State → Prop} {D : va_G} {κ : Nat → ClassId} {b : Nat} {H0 : Heap} {rr : Int32 × Sg} (hZ : sg_Z p c s m args D κ cX8_read 7 RX8 wsX8_read) (hret : ∀ (v : Int32) (u : Sg) (H : Heap) (locs : List Loc) (pc : Nat) (ls : Array Slot), some (v, u) = some rr → MW D κ b u H → va_S (sg_A b 16) H0 H locs → decode cX8_read pc = .ok (.ireturn, 1) → W p l e rm_X8_read s m args below meth c H locs 0 0 Q (F0 m pc ls [.int v])) : ∀ {σ : Sg} {H : Heap} {locs : List Loc} {ls : Array Slot}, fn_X8_read b σ = some rr → lv_has ls 7 [(0, .ref b)] → MW D κ b σ H → va_S (sg_A b 16) H0 H locs → W p l e rm_X8_read s m args below meth c H locs 0 0 Q (F0 m 0 ls []) := by
  obtain ⟨hx, hb, hml, hown, hts, hK⟩ := hZ
  intro σ H locs ls h hl hC hS
  unfold fn_X8_read at h
  refine lv_aload_n hx hb dX8_read_0 rfl (lv_at hl 0 rfl) ?_
  refine lv_iconst (v := 0) hx hb dX8_read_1 (by decide) ?_
  refine va_put (D := D) (ci := 8) (v := .int 0) (ty := .int) (C := RX8) (T := TX8) (N := 21) hx hb hts (wqs inW_X8) tyX8 tyX8_ok nmX8 hown hK.1 hC.1 sg_D hS (b - b) sg_gModel rfl 12 (by decide) (hts _ (wq wt_660)) (fun _ h9 => h9) rfl (by decide +kernel) rfl rfl (Nat.le_of_ble_eq_true rfl) dX8_read_2 (fun H locs hP _ hS => ?_)
  obtain ⟨σ1, eσ1, h⟩ := sg_lte h
  have hC : MW D κ b σ1 H := eσ1 ▸ MW_put (k := 12) (v := 0) hC sg_aModel (sg_yModel _ _) hP
  refine lv_aload_n hx hb dX8_read_5 rfl (lv_at hl 0 rfl) ?_
  refine lv_iconst (v := (-1)) hx hb dX8_read_6 (by decide) ?_
  refine va_put (D := D) (ci := 8) (v := .int (-1)) (ty := .int) (C := RX8) (T := TX8) (N := 21) hx hb hts (wqs inW_X8) tyX8 tyX8_ok nmX8 hown hK.1 hC.1 sg_D hS (b - b) sg_gModel rfl 13 (by decide) (hts _ (wq wt_661)) (fun _ h9 => h9) rfl (by decide +kernel) rfl rfl (Nat.le_of_ble_eq_true rfl) dX8_read_7 (fun H locs hP _ hS => ?_)
  obtain ⟨σ2, eσ2, h⟩ := sg_lte h
  have hC : MW D κ b σ2 H := eσ2 ▸ MW_put (k := 13) (v := (-1)) hC sg_aModel (sg_yModel _ _) hP
  refine lv_aload_n hx hb dX8_read_10 rfl (lv_at hl 0 rfl) ?_
  refine va_get (D := D) (ci := 8) (v := .int (σ2.1 b 2)) (C := RX8) (T := TX8) (N := 21) hx hb hts (wqs inW_X8) hown hK.1 hC.1 (b - b) sg_gModel rfl 2 (by decide) (hts _ (wq wt_650)) (fun _ h9 => h9) rfl dX8_read_11 ?_
  refine lv_bipush (v := 6) hx hb dX8_read_14 (by decide) ?_
  refine lv_icmp_ne (tgt := 22) hx hb dX8_read_16 (by decide) (fun hc => ?_) (fun hc => ?_)
  · replace h := (if_neg hc).symm.trans h
    refine lv_aload_n hx hb dX8_read_22 rfl (lv_at hl 0 rfl) ?_
    refine va_get (D := D) (ci := 8) (v := .int (σ2.1 b 2)) (C := RX8) (T := TX8) (N := 21) hx hb hts (wqs inW_X8) hown hK.1 hC.1 (b - b) sg_gModel rfl 2 (by decide) (hts _ (wq wt_650)) (fun _ h9 => h9) rfl dX8_read_23 ?_
    obtain ⟨v3, ev3, h⟩ := sg_lte h
    refine sg_topi ev3 ?_
    refine lv_istore_n (lv' := [(1, .int v3), (0, .ref b)]) hx hb dX8_read_26 rfl hl (by decide) rfl (fun ls hl => ?_)
    refine lv_aload_n hx hb dX8_read_27 rfl (lv_at hl 1 rfl) ?_
    obtain ⟨r4, er4, h⟩ := Option.bind_eq_some_iff.mp h
    refine va_calli (va_runV (As := []) (rest := []) ⟨hx, hb, hml, hown, hts⟩ (c_X8_readLeader l D κ b σ2 _ er4) (cwV 0 hts (gwV wt_733 wt_735 wp_31 wt_9 wt_736) rfl rfl rfl (by decide +kernel) ⟨Nat.le_of_ble_eq_true rfl, Nat.le_of_ble_eq_true rfl⟩) (MW_preV hK hC sg_gModel rfl) rfl rfl hl.1 rfl (lv_room (Nat.le_of_ble_eq_true rfl)) dX8_read_28 ⟨Nat.zero_le _, Nat.zero_le _⟩) hS (fun _ _ h => h) (fun _ h => h) (fun r u t H locs ht _ hp hB _ _ hS => ?_)
    refine sg_topi hp.1 ?_
    have hC : MW D κ b r4.2 H := MW_b hB ht hp.2
    refine lv_istore_n (lv' := [(2, .int r4.1), (1, .int v3), (0, .ref b)]) hx hb dX8_read_31 rfl hl (by decide) rfl (fun ls hl => ?_)
    refine lv_bipush (v := 25) hx hb dX8_read_32 (by decide) ?_
    refine lv_bipush (v := 12) hx hb dX8_read_34 (by decide) ?_
    refine lv_iload_n hx hb dX8_read_36 rfl (lv_at hl 0 rfl) ?_
    refine lv_imul hx hb dX8_read_37 ?_
    refine lv_iadd hx hb dX8_read_38 ?_
    obtain ⟨v5, ev5, h⟩ := sg_lte h
    refine sg_topi ev5 ?_
    refine lv_istore_n (lv' := [(3, .int v5), (2, .int r4.1), (1, .int v3), (0, .ref b)]) hx hb dX8_read_39 rfl hl (by decide) rfl (fun ls hl => ?_)
    refine lv_iconst (v := 0) hx hb dX8_read_40 (by decide) ?_
    refine lv_istore (lv' := [(4, .int 0), (3, .int v5), (2, .int r4.1), (1, .int v3), (0, .ref b)]) hx hb dX8_read_41 hl (by decide) rfl (fun ls hl => ?_)
    refine lv_iconst (v := 0) hx hb dX8_read_43 (by decide) ?_
    refine lv_istore (lv' := [(5, .int 0), (4, .int 0), (3, .int v5), (2, .int r4.1), (1, .int v3), (0, .ref b)]) hx hb dX8_read_44 hl (by decide) rfl (fun ls hl => ?_)
    exact w_X8_read_B46 ⟨hx, hb, hml, hown, hts, hK⟩ hret  sg_N h (lv_sub hl [5, 4, 3, 2, 1, 0] rfl) hC hS
  · replace h := (if_pos hc).symm.trans h
    refine lv_bipush (v := (-2)) hx hb dX8_read_19 (by decide) ?_
    exact hret _ _ _ _ _ _ h hC hS dX8_read_21
set_option maxHeartbeats 4000000 in
set_option maxRecDepth 100000 in
theorem c_X8_read (l : Launch) (D : va_G) (κ : Nat → ClassId) (b : Nat) (σ : Sg)  (rr : Int32 × Sg)  (h : fn_X8_read b σ = some rr) : Met l yX8_read wsX8_read rm_X8_read (va_Pc [.ref b] (fun U => KK D κ U ∧ MW D κ b σ U.heap)) (va_Qi (fun (r : Int32) (u : Sg) => r = rr.1 ∧ u = rr.2) (fun u t => MW D κ b u t.heap) (sg_A b 16)) 0 0 (sg_A b 16) := by
  refine Met.ofW (cc := cX8_read) (maxL := 7) (ret := (some .int)) (by decide) rfl ?_
  intro p e s m args below meth c s₁ B hml hv
  obtain ⟨rfl, hK, hC⟩ := hv
  have hr := B.returns
  have hlocks := B.notSynchronized
  have hl := lv_entry ([.ref b]) (n := 7) (Nat.le_of_ble_eq_true rfl)
  rw [lg_entry_eq]
  generalize (lg_sl ([.ref b]) ++ List.replicate (7 - (lg_sl ([.ref b])).length) Slot.unset).toArray = ls at hl ⊢
  have hl : lv_has ls 7 [(0, .ref b)] := hl
  exact w_X8_read_B0 ⟨B.exec, B.bytes, hml, findClass_of_methodNamed B.named, atoms_spec (ws := wsX8_read) B.pre, hK⟩ (fun v u H locs pc ls hq hC hS hd => W.iret B.exec B.bytes hr (fun t ht hW => ⟨⟨v, _, rfl, ⟨congrArg Prod.fst (Option.some.inj hq), congrArg Prod.snd (Option.some.inj hq)⟩, MW_e ht hC⟩, hS.F ht⟩) hS.2.2 hd) h  hl hC va_S.rf

-- RecordShelfModel.fresh()I
theorem dX8_fresh_0 : decode cX8_fresh 0 = .ok (.aload_n 0, 1) := by decide +kernel
theorem dX8_fresh_1 : decode cX8_fresh 1 = .ok (.getfield 109, 3) := by decide +kernel
theorem dX8_fresh_4 : decode cX8_fresh 4 = .ok (.bipush 6, 2) := by decide +kernel
theorem dX8_fresh_6 : decode cX8_fresh 6 = .ok (.if_icmp .ne 6, 3) := by decide +kernel
theorem dX8_fresh_9 : decode cX8_fresh 9 = .ok (.bipush (-2), 2) := by decide +kernel
theorem dX8_fresh_11 : decode cX8_fresh 11 = .ok (.ireturn, 1) := by decide +kernel
theorem dX8_fresh_12 : decode cX8_fresh 12 = .ok (.iconst 0, 1) := by decide +kernel
theorem dX8_fresh_13 : decode cX8_fresh 13 = .ok (.istore_n 1, 1) := by decide +kernel
theorem dX8_fresh_14 : decode cX8_fresh 14 = .ok (.iload_n 1, 1) := by decide +kernel
theorem dX8_fresh_15 : decode cX8_fresh 15 = .ok (.bipush 8, 2) := by decide +kernel
theorem dX8_fresh_17 : decode cX8_fresh 17 = .ok (.if_icmp .ge 59, 3) := by decide +kernel
theorem dX8_fresh_20 : decode cX8_fresh 20 = .ok (.aload_n 0, 1) := by decide +kernel
theorem dX8_fresh_21 : decode cX8_fresh 21 = .ok (.getfield 13, 3) := by decide +kernel
theorem dX8_fresh_24 : decode cX8_fresh 24 = .ok (.bipush 8, 2) := by decide +kernel
theorem dX8_fresh_26 : decode cX8_fresh 26 = .ok (.aload_n 0, 1) := by decide +kernel
theorem dX8_fresh_27 : decode cX8_fresh 27 = .ok (.getfield 109, 3) := by decide +kernel
theorem dX8_fresh_30 : decode cX8_fresh 30 = .ok (.imul, 1) := by decide +kernel
theorem dX8_fresh_31 : decode cX8_fresh 31 = .ok (.iload_n 1, 1) := by decide +kernel
theorem dX8_fresh_32 : decode cX8_fresh 32 = .ok (.iadd, 1) := by decide +kernel
theorem dX8_fresh_33 : decode cX8_fresh 33 = .ok (.iload_n 1, 1) := by decide +kernel
theorem dX8_fresh_34 : decode cX8_fresh 34 = .ok (.ifCond .ne 8, 3) := by decide +kernel
theorem dX8_fresh_37 : decode cX8_fresh 37 = .ok (.bipush 110, 2) := by decide +kernel
theorem dX8_fresh_39 : decode cX8_fresh 39 = .ok (.goto 30, 3) := by decide +kernel
theorem dX8_fresh_42 : decode cX8_fresh 42 = .ok (.iload_n 1, 1) := by decide +kernel
theorem dX8_fresh_43 : decode cX8_fresh 43 = .ok (.iconst 1, 1) := by decide +kernel
theorem dX8_fresh_44 : decode cX8_fresh 44 = .ok (.if_icmp .eq 8, 3) := by decide +kernel
theorem dX8_fresh_47 : decode cX8_fresh 47 = .ok (.iload_n 1, 1) := by decide +kernel
theorem dX8_fresh_48 : decode cX8_fresh 48 = .ok (.iconst 4, 1) := by decide +kernel
theorem dX8_fresh_49 : decode cX8_fresh 49 = .ok (.if_icmp .ne 8, 3) := by decide +kernel
theorem dX8_fresh_52 : decode cX8_fresh 52 = .ok (.bipush 97, 2) := by decide +kernel
theorem dX8_fresh_54 : decode cX8_fresh 54 = .ok (.goto 15, 3) := by decide +kernel
theorem dX8_fresh_57 : decode cX8_fresh 57 = .ok (.iload_n 1, 1) := by decide +kernel
theorem dX8_fresh_58 : decode cX8_fresh 58 = .ok (.iconst 2, 1) := by decide +kernel
theorem dX8_fresh_59 : decode cX8_fresh 59 = .ok (.if_icmp .ne 8, 3) := by decide +kernel
theorem dX8_fresh_62 : decode cX8_fresh 62 = .ok (.bipush 109, 2) := by decide +kernel
theorem dX8_fresh_64 : decode cX8_fresh 64 = .ok (.goto 5, 3) := by decide +kernel
theorem dX8_fresh_67 : decode cX8_fresh 67 = .ok (.bipush 32, 2) := by decide +kernel
theorem dX8_fresh_69 : decode cX8_fresh 69 = .ok (.iastore, 1) := by decide +kernel
theorem dX8_fresh_70 : decode cX8_fresh 70 = .ok (.iinc 1 1, 3) := by decide +kernel
theorem dX8_fresh_73 : decode cX8_fresh 73 = .ok (.goto (-59), 3) := by decide +kernel
theorem dX8_fresh_76 : decode cX8_fresh 76 = .ok (.aload_n 0, 1) := by decide +kernel
theorem dX8_fresh_77 : decode cX8_fresh 77 = .ok (.getfield 16, 3) := by decide +kernel
theorem dX8_fresh_80 : decode cX8_fresh 80 = .ok (.aload_n 0, 1) := by decide +kernel
theorem dX8_fresh_81 : decode cX8_fresh 81 = .ok (.getfield 109, 3) := by decide +kernel
theorem dX8_fresh_84 : decode cX8_fresh 84 = .ok (.iconst 0, 1) := by decide +kernel
theorem dX8_fresh_85 : decode cX8_fresh 85 = .ok (.iastore, 1) := by decide +kernel
theorem dX8_fresh_86 : decode cX8_fresh 86 = .ok (.aload_n 0, 1) := by decide +kernel
theorem dX8_fresh_87 : decode cX8_fresh 87 = .ok (.dup, 1) := by decide +kernel
theorem dX8_fresh_88 : decode cX8_fresh 88 = .ok (.getfield 109, 3) := by decide +kernel
theorem dX8_fresh_91 : decode cX8_fresh 91 = .ok (.iconst 1, 1) := by decide +kernel
theorem dX8_fresh_92 : decode cX8_fresh 92 = .ok (.iadd, 1) := by decide +kernel
theorem dX8_fresh_93 : decode cX8_fresh 93 = .ok (.putfield 109, 3) := by decide +kernel
theorem dX8_fresh_96 : decode cX8_fresh 96 = .ok (.aload_n 0, 1) := by decide +kernel
theorem dX8_fresh_97 : decode cX8_fresh 97 = .ok (.getfield 109, 3) := by decide +kernel
theorem dX8_fresh_100 : decode cX8_fresh 100 = .ok (.iconst 1, 1) := by decide +kernel
theorem dX8_fresh_101 : decode cX8_fresh 101 = .ok (.isub, 1) := by decide +kernel
theorem dX8_fresh_102 : decode cX8_fresh 102 = .ok (.ireturn, 1) := by decide +kernel
def rm_X8_fresh : Room := { frames := 0, cells := 0, slots := 0, locals := 0 }
def fn_X8_fresh_B69 (b : Nat) (z14 : Sg → Int32 → Option (Int32 × Sg)) (σ : Sg) (x1 : Int32) (y0 : Int32) (y1 : Int32) : Option (Int32 × Sg) :=
  (if sg_ib y1 48 then
  (sg_lt (sg_w σ (b + 2) (sg_x y1) y0) fun σ1 =>
  (sg_lt (x1 + 1 : Int32) fun v2 =>
  z14 σ1 v2))
  else none)
set_option maxHeartbeats 4000000 in
set_option maxRecDepth 100000 in
theorem w_X8_fresh_B69 {p : Program} {l : Launch} {e : Env} {s : State} {m : MethodId} {args : Array Value} {below : List Frame} {meth : Method} {c : Code} {Q : State → Prop} {D : va_G} {κ : Nat → ClassId} {b : Nat} {H0 : Heap} {rr : Int32 × Sg} (hZ : sg_Z p c s m args D κ cX8_fresh 2 RX8 wsX8_fresh) (hret : ∀ (v : Int32) (u : Sg) (H : Heap) (locs : List Loc) (pc : Nat) (ls : Array Slot), some (v, u) = some rr → MW D κ b u H → va_S (sg_A b 16) H0 H locs → decode cX8_fresh pc = .ok (.ireturn, 1) → W p l e rm_X8_fresh s m args below meth c H locs 0 0 Q (F0 m pc ls [.int v])) {z14 : Sg → Int32 → Option (Int32 × Sg)} (hr14 : ∀ {σ : Sg} {x1 : Int32} {H : Heap} {locs : List Loc} {ls : Array Slot}, z14 σ x1 = some rr → lv_has ls 2 [(0, .ref b), (1, .int x1)] → MW D κ b σ H → va_S (sg_A b 16) H0 H locs → W p l e rm_X8_fresh s m args below meth c H locs 0 0 Q (F0 m 14 ls [])) : ∀ {σ : Sg} {x1 : Int32} {y0 : Int32} {y1 : Int32} {H : Heap} {locs : List Loc} {ls : Array Slot}, fn_X8_fresh_B69 b z14 σ x1 y0 y1 = some rr → lv_has ls 2 [(0, .ref b), (1, .int x1)] → MW D κ b σ H → va_S (sg_A b 16) H0 H locs → W p l e rm_X8_fresh s m args below meth c H locs 0 0 Q (F0 m 69 ls [.int y0, .int y1, .ref (b + 2)]) := by
  obtain ⟨hx, hb, hml, hown, hts, hK⟩ := hZ
  intro σ x1 y0 y1 H locs ls h hl hC hS
  unfold fn_X8_fresh_B69 at h
  obtain ⟨hg, h⟩ := sg_gd h
  refine va_iast hx hb hK.1 hC.1 sg_D hS ((b + 2) - b) 0 sg_ga_letters rfl (sg_in hg) dX8_fresh_69 (fun H locs hP _ hS => ?_)
  obtain ⟨σ1, eσ1, h⟩ := sg_lte h
  have hC : MW D κ b σ1 H := eσ1 ▸ MW_put (k := sg_x y1) (v := y0) hC sg_aa_letters (sg_ya_letters _ _) hP
  obtain ⟨v2, ev2, h⟩ := sg_lte h
  refine lv_iinc (v := v2) (lv' := [(1, .int v2), (0, .ref b)]) (k := 1) hx hb dX8_fresh_70 hl rfl (sg_inc (by decide) ev2) (by decide) rfl (fun ls hl => ?_)
  refine lv_goto (tgt := 14) hx hb dX8_fresh_73 (by decide) ?_
  exact hr14 h (lv_sub hl [1, 0] rfl) hC hS
def fn_X8_fresh_B52 (b : Nat) (z14 : Sg → Int32 → Option (Int32 × Sg)) (σ : Sg) (x1 : Int32) (y0 : Int32) : Option (Int32 × Sg) :=
  fn_X8_fresh_B69 b z14 σ x1 97 y0
set_option maxHeartbeats 4000000 in
set_option maxRecDepth 100000 in
theorem w_X8_fresh_B52 {p : Program} {l : Launch} {e : Env} {s : State} {m : MethodId} {args : Array Value} {below : List Frame} {meth : Method} {c : Code} {Q : State → Prop} {D : va_G} {κ : Nat → ClassId} {b : Nat} {H0 : Heap} {rr : Int32 × Sg} (hZ : sg_Z p c s m args D κ cX8_fresh 2 RX8 wsX8_fresh) (hret : ∀ (v : Int32) (u : Sg) (H : Heap) (locs : List Loc) (pc : Nat) (ls : Array Slot), some (v, u) = some rr → MW D κ b u H → va_S (sg_A b 16) H0 H locs → decode cX8_fresh pc = .ok (.ireturn, 1) → W p l e rm_X8_fresh s m args below meth c H locs 0 0 Q (F0 m pc ls [.int v])) {z14 : Sg → Int32 → Option (Int32 × Sg)} (hr14 : ∀ {σ : Sg} {x1 : Int32} {H : Heap} {locs : List Loc} {ls : Array Slot}, z14 σ x1 = some rr → lv_has ls 2 [(0, .ref b), (1, .int x1)] → MW D κ b σ H → va_S (sg_A b 16) H0 H locs → W p l e rm_X8_fresh s m args below meth c H locs 0 0 Q (F0 m 14 ls [])) : ∀ {σ : Sg} {x1 : Int32} {y0 : Int32} {H : Heap} {locs : List Loc} {ls : Array Slot}, fn_X8_fresh_B52 b z14 σ x1 y0 = some rr → lv_has ls 2 [(0, .ref b), (1, .int x1)] → MW D κ b σ H → va_S (sg_A b 16) H0 H locs → W p l e rm_X8_fresh s m args below meth c H locs 0 0 Q (F0 m 52 ls [.int y0, .ref (b + 2)]) := by
  obtain ⟨hx, hb, hml, hown, hts, hK⟩ := hZ
  intro σ x1 y0 H locs ls h hl hC hS
  unfold fn_X8_fresh_B52 at h
  refine lv_bipush (v := 97) hx hb dX8_fresh_52 (by decide) ?_
  refine lv_goto (tgt := 69) hx hb dX8_fresh_54 (by decide) ?_
  exact w_X8_fresh_B69 ⟨hx, hb, hml, hown, hts, hK⟩ hret hr14 h (lv_sub hl [0, 1] rfl) hC hS
def fn_X8_fresh_B14b (b : Nat) (z14 : Sg → Int32 → Option (Int32 × Sg)) (σ : Sg) (x1 : Int32) : Option (Int32 × Sg) :=
  (if (8 : Int32) ≤ x1 then
  (if sg_ib (σ.1 b 2) 6 then
  (sg_lt (sg_w σ (b + 3) (sg_x (σ.1 b 2)) 0) fun σ1 =>
  (sg_lt (sg_w σ1 b 2 ((σ1.1 b 2) + 1)) fun σ2 =>
  some (((σ2.1 b 2) - 1), σ2)))
  else none)
  else (if x1 = 0 then
  fn_X8_fresh_B69 b z14 σ x1 110 ((8 * (σ.1 b 2)) + x1)
  else (if x1 = 1 then
  fn_X8_fresh_B52 b z14 σ x1 ((8 * (σ.1 b 2)) + x1)
  else (if x1 = 4 then
  fn_X8_fresh_B52 b z14 σ x1 ((8 * (σ.1 b 2)) + x1)
  else (if x1 = 2 then
  fn_X8_fresh_B69 b z14 σ x1 109 ((8 * (σ.1 b 2)) + x1)
  else fn_X8_fresh_B69 b z14 σ x1 32 ((8 * (σ.1 b 2)) + x1))))))
def fn_X8_fresh_B14 (b : Nat) : Nat → Sg → Int32 → Option (Int32 × Sg)
  | 0 => fun _ _ => none
  | n + 1 => fun σ x1 => fn_X8_fresh_B14b b (fn_X8_fresh_B14 b n) σ x1
set_option maxHeartbeats 4000000 in
set_option maxRecDepth 100000 in
theorem w_X8_fresh_B14b {p : Program} {l : Launch} {e : Env} {s : State} {m : MethodId} {args : Array Value} {below : List Frame} {meth : Method} {c : Code} {Q : State → Prop} {D : va_G} {κ : Nat → ClassId} {b : Nat} {H0 : Heap} {rr : Int32 × Sg} (hZ : sg_Z p c s m args D κ cX8_fresh 2 RX8 wsX8_fresh) (hret : ∀ (v : Int32) (u : Sg) (H : Heap) (locs : List Loc) (pc : Nat) (ls : Array Slot), some (v, u) = some rr → MW D κ b u H → va_S (sg_A b 16) H0 H locs → decode cX8_fresh pc = .ok (.ireturn, 1) → W p l e rm_X8_fresh s m args below meth c H locs 0 0 Q (F0 m pc ls [.int v])) {z14 : Sg → Int32 → Option (Int32 × Sg)} (hr14 : ∀ {σ : Sg} {x1 : Int32} {H : Heap} {locs : List Loc} {ls : Array Slot}, z14 σ x1 = some rr → lv_has ls 2 [(0, .ref b), (1, .int x1)] → MW D κ b σ H → va_S (sg_A b 16) H0 H locs → W p l e rm_X8_fresh s m args below meth c H locs 0 0 Q (F0 m 14 ls [])) : ∀ {σ : Sg} {x1 : Int32} {H : Heap} {locs : List Loc} {ls : Array Slot}, fn_X8_fresh_B14b b z14 σ x1 = some rr → lv_has ls 2 [(0, .ref b), (1, .int x1)] → MW D κ b σ H → va_S (sg_A b 16) H0 H locs → W p l e rm_X8_fresh s m args below meth c H locs 0 0 Q (F0 m 14 ls []) := by
  obtain ⟨hx, hb, hml, hown, hts, hK⟩ := hZ
  intro σ x1 H locs ls h hl hC hS
  unfold fn_X8_fresh_B14b at h
  refine lv_iload_n hx hb dX8_fresh_14 rfl (lv_at hl 1 rfl) ?_
  refine lv_bipush (v := 8) hx hb dX8_fresh_15 (by decide) ?_
  refine lv_icmp_ge (tgt := 76) hx hb dX8_fresh_17 (by decide) (fun hc => ?_) (fun hc => ?_)
  · replace h := (if_pos hc).symm.trans h
    refine lv_aload_n hx hb dX8_fresh_76 rfl (lv_at hl 0 rfl) ?_
    refine va_get (D := D) (ci := 8) (v := .ref (b + 3)) (C := RX8) (T := TX8) (N := 21) hx hb hts (wqs inW_X8) hown hK.1 hC.1 (b - b) sg_gModel rfl 4 (by decide) (hts _ (wq wt_652)) (fun _ h9 => h9) rfl dX8_fresh_77 ?_
    refine lv_aload_n hx hb dX8_fresh_80 rfl (lv_at hl 0 rfl) ?_
    refine va_get (D := D) (ci := 8) (v := .int (σ.1 b 2)) (C := RX8) (T := TX8) (N := 21) hx hb hts (wqs inW_X8) hown hK.1 hC.1 (b - b) sg_gModel rfl 2 (by decide) (hts _ (wq wt_650)) (fun _ h9 => h9) rfl dX8_fresh_81 ?_
    refine lv_iconst (v := 0) hx hb dX8_fresh_84 (by decide) ?_
    obtain ⟨hg, h⟩ := sg_gd h
    refine va_iast hx hb hK.1 hC.1 sg_D hS ((b + 3) - b) 0 sg_ga_fieldsOf rfl (sg_in hg) dX8_fresh_85 (fun H locs hP _ hS => ?_)
    obtain ⟨σ1, eσ1, h⟩ := sg_lte h
    have hC : MW D κ b σ1 H := eσ1 ▸ MW_put (k := sg_x (σ.1 b 2)) (v := 0) hC sg_aa_fieldsOf (sg_ya_fieldsOf _ _) hP
    refine lv_aload_n hx hb dX8_fresh_86 rfl (lv_at hl 0 rfl) ?_
    refine lv_dup hx hb dX8_fresh_87 rfl ?_
    refine va_get (D := D) (ci := 8) (v := .int (σ1.1 b 2)) (C := RX8) (T := TX8) (N := 21) hx hb hts (wqs inW_X8) hown hK.1 hC.1 (b - b) sg_gModel rfl 2 (by decide) (hts _ (wq wt_650)) (fun _ h9 => h9) rfl dX8_fresh_88 ?_
    refine lv_iconst (v := 1) hx hb dX8_fresh_91 (by decide) ?_
    refine lv_iadd hx hb dX8_fresh_92 ?_
    refine va_put (D := D) (ci := 8) (v := .int ((σ1.1 b 2) + 1)) (ty := .int) (C := RX8) (T := TX8) (N := 21) hx hb hts (wqs inW_X8) tyX8 tyX8_ok nmX8 hown hK.1 hC.1 sg_D hS (b - b) sg_gModel rfl 2 (by decide) (hts _ (wq wt_650)) (fun _ h9 => h9) rfl (by decide +kernel) rfl rfl (Nat.le_of_ble_eq_true rfl) dX8_fresh_93 (fun H locs hP _ hS => ?_)
    obtain ⟨σ2, eσ2, h⟩ := sg_lte h
    have hC : MW D κ b σ2 H := eσ2 ▸ MW_put (k := 2) (v := ((σ1.1 b 2) + 1)) hC sg_aModel (sg_yModel _ _) hP
    refine lv_aload_n hx hb dX8_fresh_96 rfl (lv_at hl 0 rfl) ?_
    refine va_get (D := D) (ci := 8) (v := .int (σ2.1 b 2)) (C := RX8) (T := TX8) (N := 21) hx hb hts (wqs inW_X8) hown hK.1 hC.1 (b - b) sg_gModel rfl 2 (by decide) (hts _ (wq wt_650)) (fun _ h9 => h9) rfl dX8_fresh_97 ?_
    refine lv_iconst (v := 1) hx hb dX8_fresh_100 (by decide) ?_
    refine lv_isub hx hb dX8_fresh_101 ?_
    exact hret _ _ _ _ _ _ h hC hS dX8_fresh_102
  · replace h := (if_neg hc).symm.trans h
    refine lv_aload_n hx hb dX8_fresh_20 rfl (lv_at hl 0 rfl) ?_
    refine va_get (D := D) (ci := 8) (v := .ref (b + 2)) (C := RX8) (T := TX8) (N := 21) hx hb hts (wqs inW_X8) hown hK.1 hC.1 (b - b) sg_gModel rfl 3 (by decide) (hts _ (wq wt_651)) (fun _ h9 => h9) rfl dX8_fresh_21 ?_
    refine lv_bipush (v := 8) hx hb dX8_fresh_24 (by decide) ?_
    refine lv_aload_n hx hb dX8_fresh_26 rfl (lv_at hl 0 rfl) ?_
    refine va_get (D := D) (ci := 8) (v := .int (σ.1 b 2)) (C := RX8) (T := TX8) (N := 21) hx hb hts (wqs inW_X8) hown hK.1 hC.1 (b - b) sg_gModel rfl 2 (by decide) (hts _ (wq wt_650)) (fun _ h9 => h9) rfl dX8_fresh_27 ?_
    refine lv_imul hx hb dX8_fresh_30 ?_
    refine lv_iload_n hx hb dX8_fresh_31 rfl (lv_at hl 1 rfl) ?_
    refine lv_iadd hx hb dX8_fresh_32 ?_
    refine lv_iload_n hx hb dX8_fresh_33 rfl (lv_at hl 1 rfl) ?_
    refine lv_if_ne (tgt := 42) hx hb dX8_fresh_34 (by decide) (fun hc => ?_) (fun hc => ?_)
    · replace h := (if_neg hc).symm.trans h
      refine lv_iload_n hx hb dX8_fresh_42 rfl (lv_at hl 1 rfl) ?_
      refine lv_iconst (v := 1) hx hb dX8_fresh_43 (by decide) ?_
      refine lv_icmp_eq (tgt := 52) hx hb dX8_fresh_44 (by decide) (fun hc => ?_) (fun hc => ?_)
      · replace h := (if_pos hc).symm.trans h
        exact w_X8_fresh_B52 ⟨hx, hb, hml, hown, hts, hK⟩ hret hr14 h (lv_sub hl [0, 1] rfl) hC hS
      · replace h := (if_neg hc).symm.trans h
        refine lv_iload_n hx hb dX8_fresh_47 rfl (lv_at hl 1 rfl) ?_
        refine lv_iconst (v := 4) hx hb dX8_fresh_48 (by decide) ?_
        refine lv_icmp_ne (tgt := 57) hx hb dX8_fresh_49 (by decide) (fun hc => ?_) (fun hc => ?_)
        · replace h := (if_neg hc).symm.trans h
          refine lv_iload_n hx hb dX8_fresh_57 rfl (lv_at hl 1 rfl) ?_
          refine lv_iconst (v := 2) hx hb dX8_fresh_58 (by decide) ?_
          refine lv_icmp_ne (tgt := 67) hx hb dX8_fresh_59 (by decide) (fun hc => ?_) (fun hc => ?_)
          · replace h := (if_neg hc).symm.trans h
            refine lv_bipush (v := 32) hx hb dX8_fresh_67 (by decide) ?_
            exact w_X8_fresh_B69 ⟨hx, hb, hml, hown, hts, hK⟩ hret hr14 h (lv_sub hl [0, 1] rfl) hC hS
          · replace h := (if_pos hc).symm.trans h
            refine lv_bipush (v := 109) hx hb dX8_fresh_62 (by decide) ?_
            refine lv_goto (tgt := 69) hx hb dX8_fresh_64 (by decide) ?_
            exact w_X8_fresh_B69 ⟨hx, hb, hml, hown, hts, hK⟩ hret hr14 h (lv_sub hl [0, 1] rfl) hC hS
        · replace h := (if_pos hc).symm.trans h
          exact w_X8_fresh_B52 ⟨hx, hb, hml, hown, hts, hK⟩ hret hr14 h (lv_sub hl [0, 1] rfl) hC hS
    · replace h := (if_pos hc).symm.trans h
      refine lv_bipush (v := 110) hx hb dX8_fresh_37 (by decide) ?_
      refine lv_goto (tgt := 69) hx hb dX8_fresh_39 (by decide) ?_
      exact w_X8_fresh_B69 ⟨hx, hb, hml, hown, hts, hK⟩ hret hr14 h (lv_sub hl [0, 1] rfl) hC hS
set_option maxHeartbeats 4000000 in
theorem w_X8_fresh_B14 {p : Program} {l : Launch} {e : Env} {s : State} {m : MethodId} {args : Array Value} {below : List Frame} {meth : Method} {c : Code} {Q : State → Prop} {D : va_G} {κ : Nat → ClassId} {b : Nat} {H0 : Heap} {rr : Int32 × Sg} (hZ : sg_Z p c s m args D κ cX8_fresh 2 RX8 wsX8_fresh) (hret : ∀ (v : Int32) (u : Sg) (H : Heap) (locs : List Loc) (pc : Nat) (ls : Array Slot), some (v, u) = some rr → MW D κ b u H → va_S (sg_A b 16) H0 H locs → decode cX8_fresh pc = .ok (.ireturn, 1) → W p l e rm_X8_fresh s m args below meth c H locs 0 0 Q (F0 m pc ls [.int v])) : ∀ n : Nat, ∀ {σ : Sg} {x1 : Int32} {H : Heap} {locs : List Loc} {ls : Array Slot}, fn_X8_fresh_B14 b n σ x1 = some rr → lv_has ls 2 [(0, .ref b), (1, .int x1)] → MW D κ b σ H → va_S (sg_A b 16) H0 H locs → W p l e rm_X8_fresh s m args below meth c H locs 0 0 Q (F0 m 14 ls []) := by
  intro n
  induction n with
  | zero => intro σ x1 H locs ls h hl hC hS; cases (show (none : Option (Int32 × Sg)) = some rr from h)
  | succ n ih =>
    intro σ x1 H locs ls h hl hC hS
    exact w_X8_fresh_B14b hZ hret ih (show fn_X8_fresh_B14b b (fn_X8_fresh_B14 b n) σ x1 = some rr from h)  hl hC hS
def fn_X8_fresh (b : Nat) (σ : Sg) : Option (Int32 × Sg) :=
  (if (σ.1 b 2) = 6 then
  some ((-2), σ)
  else fn_X8_fresh_B14 b sg_N σ 0)
set_option maxHeartbeats 4000000 in
set_option maxRecDepth 100000 in
theorem w_X8_fresh_B0 {p : Program} {l : Launch} {e : Env} {s : State} {m : MethodId} {args : Array Value} {below : List Frame} {meth : Method} {c : Code} {Q : State → Prop} {D : va_G} {κ : Nat → ClassId} {b : Nat} {H0 : Heap} {rr : Int32 × Sg} (hZ : sg_Z p c s m args D κ cX8_fresh 2 RX8 wsX8_fresh) (hret : ∀ (v : Int32) (u : Sg) (H : Heap) (locs : List Loc) (pc : Nat) (ls : Array Slot), some (v, u) = some rr → MW D κ b u H → va_S (sg_A b 16) H0 H locs → decode cX8_fresh pc = .ok (.ireturn, 1) → W p l e rm_X8_fresh s m args below meth c H locs 0 0 Q (F0 m pc ls [.int v])) : ∀ {σ : Sg} {H : Heap} {locs : List Loc} {ls : Array Slot}, fn_X8_fresh b σ = some rr → lv_has ls 2 [(0, .ref b)] → MW D κ b σ H → va_S (sg_A b 16) H0 H locs → W p l e rm_X8_fresh s m args below meth c H locs 0 0 Q (F0 m 0 ls []) := by
  obtain ⟨hx, hb, hml, hown, hts, hK⟩ := hZ
  intro σ H locs ls h hl hC hS
  unfold fn_X8_fresh at h
  refine lv_aload_n hx hb dX8_fresh_0 rfl (lv_at hl 0 rfl) ?_
  refine va_get (D := D) (ci := 8) (v := .int (σ.1 b 2)) (C := RX8) (T := TX8) (N := 21) hx hb hts (wqs inW_X8) hown hK.1 hC.1 (b - b) sg_gModel rfl 2 (by decide) (hts _ (wq wt_650)) (fun _ h9 => h9) rfl dX8_fresh_1 ?_
  refine lv_bipush (v := 6) hx hb dX8_fresh_4 (by decide) ?_
  refine lv_icmp_ne (tgt := 12) hx hb dX8_fresh_6 (by decide) (fun hc => ?_) (fun hc => ?_)
  · replace h := (if_neg hc).symm.trans h
    refine lv_iconst (v := 0) hx hb dX8_fresh_12 (by decide) ?_
    refine lv_istore_n (lv' := [(1, .int 0), (0, .ref b)]) hx hb dX8_fresh_13 rfl hl (by decide) rfl (fun ls hl => ?_)
    exact w_X8_fresh_B14 ⟨hx, hb, hml, hown, hts, hK⟩ hret  sg_N h (lv_sub hl [1, 0] rfl) hC hS
  · replace h := (if_pos hc).symm.trans h
    refine lv_bipush (v := (-2)) hx hb dX8_fresh_9 (by decide) ?_
    exact hret _ _ _ _ _ _ h hC hS dX8_fresh_11
set_option maxHeartbeats 4000000 in
set_option maxRecDepth 100000 in
theorem c_X8_fresh (l : Launch) (D : va_G) (κ : Nat → ClassId) (b : Nat) (σ : Sg)  (rr : Int32 × Sg)  (h : fn_X8_fresh b σ = some rr) : Met l yX8_fresh wsX8_fresh rm_X8_fresh (va_Pc [.ref b] (fun U => KK D κ U ∧ MW D κ b σ U.heap)) (va_Qi (fun (r : Int32) (u : Sg) => r = rr.1 ∧ u = rr.2) (fun u t => MW D κ b u t.heap) (sg_A b 16)) 0 0 (sg_A b 16) := by
  refine Met.ofW (cc := cX8_fresh) (maxL := 2) (ret := (some .int)) (by decide) rfl ?_
  intro p e s m args below meth c s₁ B hml hv
  obtain ⟨rfl, hK, hC⟩ := hv
  have hr := B.returns
  have hlocks := B.notSynchronized
  have hl := lv_entry ([.ref b]) (n := 2) (Nat.le_of_ble_eq_true rfl)
  rw [lg_entry_eq]
  generalize (lg_sl ([.ref b]) ++ List.replicate (2 - (lg_sl ([.ref b])).length) Slot.unset).toArray = ls at hl ⊢
  have hl : lv_has ls 2 [(0, .ref b)] := hl
  exact w_X8_fresh_B0 ⟨B.exec, B.bytes, hml, findClass_of_methodNamed B.named, atoms_spec (ws := wsX8_fresh) B.pre, hK⟩ (fun v u H locs pc ls hq hC hS hd => W.iret B.exec B.bytes hr (fun t ht hW => ⟨⟨v, _, rfl, ⟨congrArg Prod.fst (Option.some.inj hq), congrArg Prod.snd (Option.some.inj hq)⟩, MW_e ht hC⟩, hS.F ht⟩) hS.2.2 hd) h  hl hC va_S.rf
