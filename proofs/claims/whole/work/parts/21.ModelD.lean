-- RecordShelfModel.field(IICC)I
theorem dX8_field_0 : decode cX8_field 0 = .ok (.iload_n 2, 1) := by decide +kernel
theorem dX8_field_1 : decode cX8_field 1 = .ok (.bipush 10, 2) := by decide +kernel
theorem dX8_field_3 : decode cX8_field 3 = .ok (.if_icmp .ge 7, 3) := by decide +kernel
theorem dX8_field_6 : decode cX8_field 6 = .ok (.iconst 1, 1) := by decide +kernel
theorem dX8_field_7 : decode cX8_field 7 = .ok (.goto 4, 3) := by decide +kernel
theorem dX8_field_10 : decode cX8_field 10 = .ok (.iconst 0, 1) := by decide +kernel
theorem dX8_field_11 : decode cX8_field 11 = .ok (.istore 5, 2) := by decide +kernel
theorem dX8_field_13 : decode cX8_field 13 = .ok (.aload_n 0, 1) := by decide +kernel
theorem dX8_field_14 : decode cX8_field 14 = .ok (.iload_n 1, 1) := by decide +kernel
theorem dX8_field_15 : decode cX8_field 15 = .ok (.invokevirtual 125, 3) := by decide +kernel
theorem dX8_field_18 : decode cX8_field 18 = .ok (.ifCond .eq 35, 3) := by decide +kernel
theorem dX8_field_21 : decode cX8_field 21 = .ok (.iload_n 2, 1) := by decide +kernel
theorem dX8_field_22 : decode cX8_field 22 = .ok (.iconst 1, 1) := by decide +kernel
theorem dX8_field_23 : decode cX8_field 23 = .ok (.if_icmp .lt 30, 3) := by decide +kernel
theorem dX8_field_26 : decode cX8_field 26 = .ok (.iload_n 2, 1) := by decide +kernel
theorem dX8_field_27 : decode cX8_field 27 = .ok (.sipush 999, 3) := by decide +kernel
theorem dX8_field_30 : decode cX8_field 30 = .ok (.if_icmp .gt 23, 3) := by decide +kernel
theorem dX8_field_33 : decode cX8_field 33 = .ok (.iload 5, 2) := by decide +kernel
theorem dX8_field_35 : decode cX8_field 35 = .ok (.ifCond .ne 20, 3) := by decide +kernel
theorem dX8_field_38 : decode cX8_field 38 = .ok (.iload_n 3, 1) := by decide +kernel
theorem dX8_field_39 : decode cX8_field 39 = .ok (.invokestatic 99, 3) := by decide +kernel
theorem dX8_field_42 : decode cX8_field 42 = .ok (.ifCond .eq 11, 3) := by decide +kernel
theorem dX8_field_45 : decode cX8_field 45 = .ok (.iload 4, 2) := by decide +kernel
theorem dX8_field_47 : decode cX8_field 47 = .ok (.invokestatic 99, 3) := by decide +kernel
theorem dX8_field_50 : decode cX8_field 50 = .ok (.ifCond .ne 5, 3) := by decide +kernel
theorem dX8_field_53 : decode cX8_field 53 = .ok (.iconst (-1), 1) := by decide +kernel
theorem dX8_field_54 : decode cX8_field 54 = .ok (.ireturn, 1) := by decide +kernel
theorem dX8_field_55 : decode cX8_field 55 = .ok (.aload_n 0, 1) := by decide +kernel
theorem dX8_field_56 : decode cX8_field 56 = .ok (.getfield 16, 3) := by decide +kernel
theorem dX8_field_59 : decode cX8_field 59 = .ok (.iload_n 1, 1) := by decide +kernel
theorem dX8_field_60 : decode cX8_field 60 = .ok (.iaload, 1) := by decide +kernel
theorem dX8_field_61 : decode cX8_field 61 = .ok (.bipush 8, 2) := by decide +kernel
theorem dX8_field_63 : decode cX8_field 63 = .ok (.if_icmp .ne 6, 3) := by decide +kernel
theorem dX8_field_66 : decode cX8_field 66 = .ok (.bipush (-2), 2) := by decide +kernel
theorem dX8_field_68 : decode cX8_field 68 = .ok (.ireturn, 1) := by decide +kernel
theorem dX8_field_69 : decode cX8_field 69 = .ok (.bipush 8, 2) := by decide +kernel
theorem dX8_field_71 : decode cX8_field 71 = .ok (.iload_n 1, 1) := by decide +kernel
theorem dX8_field_72 : decode cX8_field 72 = .ok (.imul, 1) := by decide +kernel
theorem dX8_field_73 : decode cX8_field 73 = .ok (.aload_n 0, 1) := by decide +kernel
theorem dX8_field_74 : decode cX8_field 74 = .ok (.getfield 16, 3) := by decide +kernel
theorem dX8_field_77 : decode cX8_field 77 = .ok (.iload_n 1, 1) := by decide +kernel
theorem dX8_field_78 : decode cX8_field 78 = .ok (.iaload, 1) := by decide +kernel
theorem dX8_field_79 : decode cX8_field 79 = .ok (.iadd, 1) := by decide +kernel
theorem dX8_field_80 : decode cX8_field 80 = .ok (.istore 6, 2) := by decide +kernel
theorem dX8_field_82 : decode cX8_field 82 = .ok (.aload_n 0, 1) := by decide +kernel
theorem dX8_field_83 : decode cX8_field 83 = .ok (.getfield 19, 3) := by decide +kernel
theorem dX8_field_86 : decode cX8_field 86 = .ok (.iload 6, 2) := by decide +kernel
theorem dX8_field_88 : decode cX8_field 88 = .ok (.iload_n 2, 1) := by decide +kernel
theorem dX8_field_89 : decode cX8_field 89 = .ok (.iastore, 1) := by decide +kernel
theorem dX8_field_90 : decode cX8_field 90 = .ok (.aload_n 0, 1) := by decide +kernel
theorem dX8_field_91 : decode cX8_field 91 = .ok (.getfield 22, 3) := by decide +kernel
theorem dX8_field_94 : decode cX8_field 94 = .ok (.iload 6, 2) := by decide +kernel
theorem dX8_field_96 : decode cX8_field 96 = .ok (.iload 5, 2) := by decide +kernel
theorem dX8_field_98 : decode cX8_field 98 = .ok (.ifCond .eq 7, 3) := by decide +kernel
theorem dX8_field_101 : decode cX8_field 101 = .ok (.iconst 0, 1) := by decide +kernel
theorem dX8_field_102 : decode cX8_field 102 = .ok (.goto 4, 3) := by decide +kernel
theorem dX8_field_105 : decode cX8_field 105 = .ok (.iload_n 3, 1) := by decide +kernel
theorem dX8_field_106 : decode cX8_field 106 = .ok (.iastore, 1) := by decide +kernel
theorem dX8_field_107 : decode cX8_field 107 = .ok (.aload_n 0, 1) := by decide +kernel
theorem dX8_field_108 : decode cX8_field 108 = .ok (.getfield 25, 3) := by decide +kernel
theorem dX8_field_111 : decode cX8_field 111 = .ok (.iload 6, 2) := by decide +kernel
theorem dX8_field_113 : decode cX8_field 113 = .ok (.iload 5, 2) := by decide +kernel
theorem dX8_field_115 : decode cX8_field 115 = .ok (.ifCond .eq 7, 3) := by decide +kernel
theorem dX8_field_118 : decode cX8_field 118 = .ok (.iconst 0, 1) := by decide +kernel
theorem dX8_field_119 : decode cX8_field 119 = .ok (.goto 5, 3) := by decide +kernel
theorem dX8_field_122 : decode cX8_field 122 = .ok (.iload 4, 2) := by decide +kernel
theorem dX8_field_124 : decode cX8_field 124 = .ok (.iastore, 1) := by decide +kernel
theorem dX8_field_125 : decode cX8_field 125 = .ok (.aload_n 0, 1) := by decide +kernel
theorem dX8_field_126 : decode cX8_field 126 = .ok (.getfield 28, 3) := by decide +kernel
theorem dX8_field_129 : decode cX8_field 129 = .ok (.iload 6, 2) := by decide +kernel
theorem dX8_field_131 : decode cX8_field 131 = .ok (.iconst 0, 1) := by decide +kernel
theorem dX8_field_132 : decode cX8_field 132 = .ok (.iastore, 1) := by decide +kernel
theorem dX8_field_133 : decode cX8_field 133 = .ok (.aload_n 0, 1) := by decide +kernel
theorem dX8_field_134 : decode cX8_field 134 = .ok (.iload 6, 2) := by decide +kernel
theorem dX8_field_136 : decode cX8_field 136 = .ok (.iload 5, 2) := by decide +kernel
theorem dX8_field_138 : decode cX8_field 138 = .ok (.ifCond .eq 7, 3) := by decide +kernel
theorem dX8_field_141 : decode cX8_field 141 = .ok (.iconst 0, 1) := by decide +kernel
theorem dX8_field_142 : decode cX8_field 142 = .ok (.goto 5, 3) := by decide +kernel
theorem dX8_field_145 : decode cX8_field 145 = .ok (.bipush 97, 2) := by decide +kernel
theorem dX8_field_147 : decode cX8_field 147 = .ok (.invokevirtual 93, 3) := by decide +kernel
theorem dX8_field_150 : decode cX8_field 150 = .ok (.aload_n 0, 1) := by decide +kernel
theorem dX8_field_151 : decode cX8_field 151 = .ok (.getfield 16, 3) := by decide +kernel
theorem dX8_field_154 : decode cX8_field 154 = .ok (.iload_n 1, 1) := by decide +kernel
theorem dX8_field_155 : decode cX8_field 155 = .ok (.dup2, 1) := by decide +kernel
theorem dX8_field_156 : decode cX8_field 156 = .ok (.iaload, 1) := by decide +kernel
theorem dX8_field_157 : decode cX8_field 157 = .ok (.iconst 1, 1) := by decide +kernel
theorem dX8_field_158 : decode cX8_field 158 = .ok (.iadd, 1) := by decide +kernel
theorem dX8_field_159 : decode cX8_field 159 = .ok (.iastore, 1) := by decide +kernel
theorem dX8_field_160 : decode cX8_field 160 = .ok (.aload_n 0, 1) := by decide +kernel
theorem dX8_field_161 : decode cX8_field 161 = .ok (.getfield 16, 3) := by decide +kernel
theorem dX8_field_164 : decode cX8_field 164 = .ok (.iload_n 1, 1) := by decide +kernel
theorem dX8_field_165 : decode cX8_field 165 = .ok (.iaload, 1) := by decide +kernel
theorem dX8_field_166 : decode cX8_field 166 = .ok (.iconst 1, 1) := by decide +kernel
theorem dX8_field_167 : decode cX8_field 167 = .ok (.isub, 1) := by decide +kernel
theorem dX8_field_168 : decode cX8_field 168 = .ok (.ireturn, 1) := by decide +kernel
def rm_X8_field : Room := { frames := 2, cells := 0, slots := 0, locals := 40 }
def fn_X8_field_B147 (b : Nat) (σ : Sg) (x1 : Int32) (y0 : Int32) (y1 : Int32) : Option (Int32 × Sg) :=
  ((fn_X8_open b σ y1 y0).bind fun r1 =>
  (if sg_ib x1 6 then
  (if sg_ib x1 6 then
  (sg_lt (sg_w r1 (b + 3) (sg_x x1) ((r1.1 (b + 3) (sg_x x1)) + 1)) fun σ2 =>
  (if sg_ib x1 6 then
  some (((σ2.1 (b + 3) (sg_x x1)) - 1), σ2)
  else none))
  else none)
  else none))
set_option maxHeartbeats 4000000 in
set_option maxRecDepth 100000 in
theorem w_X8_field_B147 {p : Program} {l : Launch} {e : Env} {s : State} {m : MethodId} {args : Array Value} {below : List Frame} {meth : Method} {c : Code} {Q : State → Prop} {D : va_G} {κ : Nat → ClassId} {b : Nat} {H0 : Heap} {rr : Int32 × Sg} (hZ : sg_Z p c s m args D κ cX8_field 7 RX8 wsX8_field) (hret : ∀ (v : Int32) (u : Sg) (H : Heap) (locs : List Loc) (pc : Nat) (ls : Array Slot), some (v, u) = some rr → MW D κ b u H → va_S (sg_A b 16) H0 H locs → decode cX8_field pc = .ok (.ireturn, 1) → W p l e rm_X8_field s m args below meth c H locs 0 0 Q (F0 m pc ls [.int v])) : ∀ {σ : Sg} {x1 : Int32} {y0 : Int32} {y1 : Int32} {H : Heap} {locs : List Loc} {ls : Array Slot}, fn_X8_field_B147 b σ x1 y0 y1 = some rr → lv_has ls 7 [(0, .ref b), (1, .int x1)] → MW D κ b σ H → va_S (sg_A b 16) H0 H locs → W p l e rm_X8_field s m args below meth c H locs 0 0 Q (F0 m 147 ls [.int y0, .int y1, .ref b]) := by
  obtain ⟨hx, hb, hml, hown, hts, hK⟩ := hZ
  intro σ x1 y0 y1 H locs ls h hl hC hS
  unfold fn_X8_field_B147 at h
  obtain ⟨r1, er1, h⟩ := Option.bind_eq_some_iff.mp h
  refine va_callv (va_runV (As := [.int y1, .int y0]) (rest := []) ⟨hx, hb, hml, hown, hts⟩ (c_X8_open l D κ b σ y1 y0 _ er1) (cwV 2 hts (gwV wt_766 wt_768 wp_37 wt_9 wt_769) rfl rfl rfl (by decide +kernel) ⟨Nat.le_of_ble_eq_true rfl, Nat.le_of_ble_eq_true rfl⟩) (MW_preV hK hC sg_gModel rfl) rfl rfl hl.1 rfl (lv_room (Nat.le_of_ble_eq_true rfl)) dX8_field_147 ⟨Nat.zero_le _, Nat.zero_le _⟩) hS (fun _ _ h => h) (fun _ h => h) (fun u t H locs ht _ hp hB _ _ hS => ?_)
  have hC : MW D κ b r1 H := MW_b hB ht hp
  refine lv_aload_n hx hb dX8_field_150 rfl (lv_at hl 0 rfl) ?_
  refine va_get (D := D) (ci := 8) (v := .ref (b + 3)) (C := RX8) (T := TX8) (N := 21) hx hb hts (wqs inW_X8) hown hK.1 hC.1 (b - b) sg_gModel rfl 4 (by decide) (hts _ (wq wt_652)) (fun _ h9 => h9) rfl dX8_field_151 ?_
  refine lv_iload_n hx hb dX8_field_154 rfl (lv_at hl 1 rfl) ?_
  refine lv_dup2_11 hx hb dX8_field_155 rfl rfl ?_
  obtain ⟨hg, h⟩ := sg_gd h
  refine va_iald hx hb hK.1 hC.1 ((b + 3) - b) 0 sg_ga_fieldsOf rfl (sg_in hg) dX8_field_156 ?_
  refine lv_iconst (v := 1) hx hb dX8_field_157 (by decide) ?_
  refine lv_iadd hx hb dX8_field_158 ?_
  obtain ⟨hg, h⟩ := sg_gd h
  refine va_iast hx hb hK.1 hC.1 sg_D hS ((b + 3) - b) 0 sg_ga_fieldsOf rfl (sg_in hg) dX8_field_159 (fun H locs hP _ hS => ?_)
  obtain ⟨σ2, eσ2, h⟩ := sg_lte h
  have hC : MW D κ b σ2 H := eσ2 ▸ MW_put (k := sg_x x1) (v := ((r1.1 (b + 3) (sg_x x1)) + 1)) hC sg_aa_fieldsOf (sg_ya_fieldsOf _ _) hP
  refine lv_aload_n hx hb dX8_field_160 rfl (lv_at hl 0 rfl) ?_
  refine va_get (D := D) (ci := 8) (v := .ref (b + 3)) (C := RX8) (T := TX8) (N := 21) hx hb hts (wqs inW_X8) hown hK.1 hC.1 (b - b) sg_gModel rfl 4 (by decide) (hts _ (wq wt_652)) (fun _ h9 => h9) rfl dX8_field_161 ?_
  refine lv_iload_n hx hb dX8_field_164 rfl (lv_at hl 1 rfl) ?_
  obtain ⟨hg, h⟩ := sg_gd h
  refine va_iald hx hb hK.1 hC.1 ((b + 3) - b) 0 sg_ga_fieldsOf rfl (sg_in hg) dX8_field_165 ?_
  refine lv_iconst (v := 1) hx hb dX8_field_166 (by decide) ?_
  refine lv_isub hx hb dX8_field_167 ?_
  exact hret _ _ _ _ _ _ h hC hS dX8_field_168
def fn_X8_field_B124 (b : Nat) (σ : Sg) (x1 : Int32) (x5 : Int32) (x6 : Int32) (y0 : Int32) (y1 : Int32) : Option (Int32 × Sg) :=
  (if sg_ib y1 48 then
  (sg_lt (sg_w σ (b + 6) (sg_x y1) y0) fun σ1 =>
  (if sg_ib x6 48 then
  (sg_lt (sg_w σ1 (b + 7) (sg_x x6) 0) fun σ2 =>
  (if x5 = 0 then
  fn_X8_field_B147 b σ2 x1 97 x6
  else fn_X8_field_B147 b σ2 x1 0 x6))
  else none))
  else none)
set_option maxHeartbeats 4000000 in
set_option maxRecDepth 100000 in
theorem w_X8_field_B124 {p : Program} {l : Launch} {e : Env} {s : State} {m : MethodId} {args : Array Value} {below : List Frame} {meth : Method} {c : Code} {Q : State → Prop} {D : va_G} {κ : Nat → ClassId} {b : Nat} {H0 : Heap} {rr : Int32 × Sg} (hZ : sg_Z p c s m args D κ cX8_field 7 RX8 wsX8_field) (hret : ∀ (v : Int32) (u : Sg) (H : Heap) (locs : List Loc) (pc : Nat) (ls : Array Slot), some (v, u) = some rr → MW D κ b u H → va_S (sg_A b 16) H0 H locs → decode cX8_field pc = .ok (.ireturn, 1) → W p l e rm_X8_field s m args below meth c H locs 0 0 Q (F0 m pc ls [.int v])) : ∀ {σ : Sg} {x1 : Int32} {x5 : Int32} {x6 : Int32} {y0 : Int32} {y1 : Int32} {H : Heap} {locs : List Loc} {ls : Array Slot}, fn_X8_field_B124 b σ x1 x5 x6 y0 y1 = some rr → lv_has ls 7 [(0, .ref b), (1, .int x1), (5, .int x5), (6, .int x6)] → MW D κ b σ H → va_S (sg_A b 16) H0 H locs → W p l e rm_X8_field s m args below meth c H locs 0 0 Q (F0 m 124 ls [.int y0, .int y1, .ref (b + 6)]) := by
  obtain ⟨hx, hb, hml, hown, hts, hK⟩ := hZ
  intro σ x1 x5 x6 y0 y1 H locs ls h hl hC hS
  unfold fn_X8_field_B124 at h
  obtain ⟨hg, h⟩ := sg_gd h
  refine va_iast hx hb hK.1 hC.1 sg_D hS ((b + 6) - b) 0 sg_ga_seconds rfl (sg_in hg) dX8_field_124 (fun H locs hP _ hS => ?_)
  obtain ⟨σ1, eσ1, h⟩ := sg_lte h
  have hC : MW D κ b σ1 H := eσ1 ▸ MW_put (k := sg_x y1) (v := y0) hC sg_aa_seconds (sg_ya_seconds _ _) hP
  refine lv_aload_n hx hb dX8_field_125 rfl (lv_at hl 0 rfl) ?_
  refine va_get (D := D) (ci := 8) (v := .ref (b + 7)) (C := RX8) (T := TX8) (N := 21) hx hb hts (wqs inW_X8) hown hK.1 hC.1 (b - b) sg_gModel rfl 8 (by decide) (hts _ (wq wt_656)) (fun _ h9 => h9) rfl dX8_field_126 ?_
  refine lv_iload hx hb dX8_field_129 (lv_at hl 3 rfl) ?_
  refine lv_iconst (v := 0) hx hb dX8_field_131 (by decide) ?_
  obtain ⟨hg, h⟩ := sg_gd h
  refine va_iast hx hb hK.1 hC.1 sg_D hS ((b + 7) - b) 0 sg_ga_subfields rfl (sg_in hg) dX8_field_132 (fun H locs hP _ hS => ?_)
  obtain ⟨σ2, eσ2, h⟩ := sg_lte h
  have hC : MW D κ b σ2 H := eσ2 ▸ MW_put (k := sg_x x6) (v := 0) hC sg_aa_subfields (sg_ya_subfields _ _) hP
  refine lv_aload_n hx hb dX8_field_133 rfl (lv_at hl 0 rfl) ?_
  refine lv_iload hx hb dX8_field_134 (lv_at hl 3 rfl) ?_
  refine lv_iload hx hb dX8_field_136 (lv_at hl 2 rfl) ?_
  refine lv_if_eq (tgt := 145) hx hb dX8_field_138 (by decide) (fun hc => ?_) (fun hc => ?_)
  · replace h := (if_pos hc).symm.trans h
    refine lv_bipush (v := 97) hx hb dX8_field_145 (by decide) ?_
    exact w_X8_field_B147 ⟨hx, hb, hml, hown, hts, hK⟩ hret  h (lv_sub hl [0, 1] rfl) hC hS
  · replace h := (if_neg hc).symm.trans h
    refine lv_iconst (v := 0) hx hb dX8_field_141 (by decide) ?_
    refine lv_goto (tgt := 147) hx hb dX8_field_142 (by decide) ?_
    exact w_X8_field_B147 ⟨hx, hb, hml, hown, hts, hK⟩ hret  h (lv_sub hl [0, 1] rfl) hC hS
def fn_X8_field_B106 (b : Nat) (σ : Sg) (x1 : Int32) (x4 : Int32) (x5 : Int32) (x6 : Int32) (y0 : Int32) (y1 : Int32) : Option (Int32 × Sg) :=
  (if sg_ib y1 48 then
  (sg_lt (sg_w σ (b + 5) (sg_x y1) y0) fun σ1 =>
  (if x5 = 0 then
  fn_X8_field_B124 b σ1 x1 x5 x6 x4 x6
  else fn_X8_field_B124 b σ1 x1 x5 x6 0 x6))
  else none)
set_option maxHeartbeats 4000000 in
set_option maxRecDepth 100000 in
theorem w_X8_field_B106 {p : Program} {l : Launch} {e : Env} {s : State} {m : MethodId} {args : Array Value} {below : List Frame} {meth : Method} {c : Code} {Q : State → Prop} {D : va_G} {κ : Nat → ClassId} {b : Nat} {H0 : Heap} {rr : Int32 × Sg} (hZ : sg_Z p c s m args D κ cX8_field 7 RX8 wsX8_field) (hret : ∀ (v : Int32) (u : Sg) (H : Heap) (locs : List Loc) (pc : Nat) (ls : Array Slot), some (v, u) = some rr → MW D κ b u H → va_S (sg_A b 16) H0 H locs → decode cX8_field pc = .ok (.ireturn, 1) → W p l e rm_X8_field s m args below meth c H locs 0 0 Q (F0 m pc ls [.int v])) : ∀ {σ : Sg} {x1 : Int32} {x4 : Int32} {x5 : Int32} {x6 : Int32} {y0 : Int32} {y1 : Int32} {H : Heap} {locs : List Loc} {ls : Array Slot}, fn_X8_field_B106 b σ x1 x4 x5 x6 y0 y1 = some rr → lv_has ls 7 [(0, .ref b), (1, .int x1), (4, .int x4), (5, .int x5), (6, .int x6)] → MW D κ b σ H → va_S (sg_A b 16) H0 H locs → W p l e rm_X8_field s m args below meth c H locs 0 0 Q (F0 m 106 ls [.int y0, .int y1, .ref (b + 5)]) := by
  obtain ⟨hx, hb, hml, hown, hts, hK⟩ := hZ
  intro σ x1 x4 x5 x6 y0 y1 H locs ls h hl hC hS
  unfold fn_X8_field_B106 at h
  obtain ⟨hg, h⟩ := sg_gd h
  refine va_iast hx hb hK.1 hC.1 sg_D hS ((b + 5) - b) 0 sg_ga_firsts rfl (sg_in hg) dX8_field_106 (fun H locs hP _ hS => ?_)
  obtain ⟨σ1, eσ1, h⟩ := sg_lte h
  have hC : MW D κ b σ1 H := eσ1 ▸ MW_put (k := sg_x y1) (v := y0) hC sg_aa_firsts (sg_ya_firsts _ _) hP
  refine lv_aload_n hx hb dX8_field_107 rfl (lv_at hl 0 rfl) ?_
  refine va_get (D := D) (ci := 8) (v := .ref (b + 6)) (C := RX8) (T := TX8) (N := 21) hx hb hts (wqs inW_X8) hown hK.1 hC.1 (b - b) sg_gModel rfl 7 (by decide) (hts _ (wq wt_655)) (fun _ h9 => h9) rfl dX8_field_108 ?_
  refine lv_iload hx hb dX8_field_111 (lv_at hl 4 rfl) ?_
  refine lv_iload hx hb dX8_field_113 (lv_at hl 3 rfl) ?_
  refine lv_if_eq (tgt := 122) hx hb dX8_field_115 (by decide) (fun hc => ?_) (fun hc => ?_)
  · replace h := (if_pos hc).symm.trans h
    refine lv_iload hx hb dX8_field_122 (lv_at hl 2 rfl) ?_
    exact w_X8_field_B124 ⟨hx, hb, hml, hown, hts, hK⟩ hret  h (lv_sub hl [0, 1, 3, 4] rfl) hC hS
  · replace h := (if_neg hc).symm.trans h
    refine lv_iconst (v := 0) hx hb dX8_field_118 (by decide) ?_
    refine lv_goto (tgt := 124) hx hb dX8_field_119 (by decide) ?_
    exact w_X8_field_B124 ⟨hx, hb, hml, hown, hts, hK⟩ hret  h (lv_sub hl [0, 1, 3, 4] rfl) hC hS
def fn_X8_field_B55 (b : Nat) (σ : Sg) (x1 : Int32) (x2 : Int32) (x3 : Int32) (x4 : Int32) (x5 : Int32) : Option (Int32 × Sg) :=
  (if sg_ib x1 6 then
  (if (σ.1 (b + 3) (sg_x x1)) = 8 then
  some ((-2), σ)
  else (if sg_ib x1 6 then
  (sg_lt (((8 * x1) + (σ.1 (b + 3) (sg_x x1))) : Int32) fun v1 =>
  (if sg_ib v1 48 then
  (sg_lt (sg_w σ (b + 4) (sg_x v1) x2) fun σ2 =>
  (if x5 = 0 then
  fn_X8_field_B106 b σ2 x1 x4 x5 v1 x3 v1
  else fn_X8_field_B106 b σ2 x1 x4 x5 v1 0 v1))
  else none))
  else none))
  else none)
set_option maxHeartbeats 4000000 in
set_option maxRecDepth 100000 in
theorem w_X8_field_B55 {p : Program} {l : Launch} {e : Env} {s : State} {m : MethodId} {args : Array Value} {below : List Frame} {meth : Method} {c : Code} {Q : State → Prop} {D : va_G} {κ : Nat → ClassId} {b : Nat} {H0 : Heap} {rr : Int32 × Sg} (hZ : sg_Z p c s m args D κ cX8_field 7 RX8 wsX8_field) (hret : ∀ (v : Int32) (u : Sg) (H : Heap) (locs : List Loc) (pc : Nat) (ls : Array Slot), some (v, u) = some rr → MW D κ b u H → va_S (sg_A b 16) H0 H locs → decode cX8_field pc = .ok (.ireturn, 1) → W p l e rm_X8_field s m args below meth c H locs 0 0 Q (F0 m pc ls [.int v])) : ∀ {σ : Sg} {x1 : Int32} {x2 : Int32} {x3 : Int32} {x4 : Int32} {x5 : Int32} {H : Heap} {locs : List Loc} {ls : Array Slot}, fn_X8_field_B55 b σ x1 x2 x3 x4 x5 = some rr → lv_has ls 7 [(0, .ref b), (1, .int x1), (2, .int x2), (3, .int x3), (4, .int x4), (5, .int x5)] → MW D κ b σ H → va_S (sg_A b 16) H0 H locs → W p l e rm_X8_field s m args below meth c H locs 0 0 Q (F0 m 55 ls []) := by
  obtain ⟨hx, hb, hml, hown, hts, hK⟩ := hZ
  intro σ x1 x2 x3 x4 x5 H locs ls h hl hC hS
  unfold fn_X8_field_B55 at h
  refine lv_aload_n hx hb dX8_field_55 rfl (lv_at hl 0 rfl) ?_
  refine va_get (D := D) (ci := 8) (v := .ref (b + 3)) (C := RX8) (T := TX8) (N := 21) hx hb hts (wqs inW_X8) hown hK.1 hC.1 (b - b) sg_gModel rfl 4 (by decide) (hts _ (wq wt_652)) (fun _ h9 => h9) rfl dX8_field_56 ?_
  refine lv_iload_n hx hb dX8_field_59 rfl (lv_at hl 1 rfl) ?_
  obtain ⟨hg, h⟩ := sg_gd h
  refine va_iald hx hb hK.1 hC.1 ((b + 3) - b) 0 sg_ga_fieldsOf rfl (sg_in hg) dX8_field_60 ?_
  refine lv_bipush (v := 8) hx hb dX8_field_61 (by decide) ?_
  refine lv_icmp_ne (tgt := 69) hx hb dX8_field_63 (by decide) (fun hc => ?_) (fun hc => ?_)
  · replace h := (if_neg hc).symm.trans h
    refine lv_bipush (v := 8) hx hb dX8_field_69 (by decide) ?_
    refine lv_iload_n hx hb dX8_field_71 rfl (lv_at hl 1 rfl) ?_
    refine lv_imul hx hb dX8_field_72 ?_
    refine lv_aload_n hx hb dX8_field_73 rfl (lv_at hl 0 rfl) ?_
    refine va_get (D := D) (ci := 8) (v := .ref (b + 3)) (C := RX8) (T := TX8) (N := 21) hx hb hts (wqs inW_X8) hown hK.1 hC.1 (b - b) sg_gModel rfl 4 (by decide) (hts _ (wq wt_652)) (fun _ h9 => h9) rfl dX8_field_74 ?_
    refine lv_iload_n hx hb dX8_field_77 rfl (lv_at hl 1 rfl) ?_
    obtain ⟨hg, h⟩ := sg_gd h
    refine va_iald hx hb hK.1 hC.1 ((b + 3) - b) 0 sg_ga_fieldsOf rfl (sg_in hg) dX8_field_78 ?_
    refine lv_iadd hx hb dX8_field_79 ?_
    obtain ⟨v1, ev1, h⟩ := sg_lte h
    refine sg_topi ev1 ?_
    refine lv_istore (lv' := [(6, .int v1), (0, .ref b), (1, .int x1), (2, .int x2), (3, .int x3), (4, .int x4), (5, .int x5)]) hx hb dX8_field_80 hl (by decide) rfl (fun ls hl => ?_)
    refine lv_aload_n hx hb dX8_field_82 rfl (lv_at hl 1 rfl) ?_
    refine va_get (D := D) (ci := 8) (v := .ref (b + 4)) (C := RX8) (T := TX8) (N := 21) hx hb hts (wqs inW_X8) hown hK.1 hC.1 (b - b) sg_gModel rfl 5 (by decide) (hts _ (wq wt_653)) (fun _ h9 => h9) rfl dX8_field_83 ?_
    refine lv_iload hx hb dX8_field_86 (lv_at hl 0 rfl) ?_
    refine lv_iload_n hx hb dX8_field_88 rfl (lv_at hl 3 rfl) ?_
    obtain ⟨hg, h⟩ := sg_gd h
    refine va_iast hx hb hK.1 hC.1 sg_D hS ((b + 4) - b) 0 sg_ga_tags rfl (sg_in hg) dX8_field_89 (fun H locs hP _ hS => ?_)
    obtain ⟨σ2, eσ2, h⟩ := sg_lte h
    have hC : MW D κ b σ2 H := eσ2 ▸ MW_put (k := sg_x v1) (v := x2) hC sg_aa_tags (sg_ya_tags _ _) hP
    refine lv_aload_n hx hb dX8_field_90 rfl (lv_at hl 1 rfl) ?_
    refine va_get (D := D) (ci := 8) (v := .ref (b + 5)) (C := RX8) (T := TX8) (N := 21) hx hb hts (wqs inW_X8) hown hK.1 hC.1 (b - b) sg_gModel rfl 6 (by decide) (hts _ (wq wt_654)) (fun _ h9 => h9) rfl dX8_field_91 ?_
    refine lv_iload hx hb dX8_field_94 (lv_at hl 0 rfl) ?_
    refine lv_iload hx hb dX8_field_96 (lv_at hl 6 rfl) ?_
    refine lv_if_eq (tgt := 105) hx hb dX8_field_98 (by decide) (fun hc => ?_) (fun hc => ?_)
    · replace h := (if_pos hc).symm.trans h
      refine lv_iload_n hx hb dX8_field_105 rfl (lv_at hl 4 rfl) ?_
      exact w_X8_field_B106 ⟨hx, hb, hml, hown, hts, hK⟩ hret  h (lv_sub hl [1, 2, 5, 6, 0] rfl) hC hS
    · replace h := (if_neg hc).symm.trans h
      refine lv_iconst (v := 0) hx hb dX8_field_101 (by decide) ?_
      refine lv_goto (tgt := 106) hx hb dX8_field_102 (by decide) ?_
      exact w_X8_field_B106 ⟨hx, hb, hml, hown, hts, hK⟩ hret  h (lv_sub hl [1, 2, 5, 6, 0] rfl) hC hS
  · replace h := (if_pos hc).symm.trans h
    refine lv_bipush (v := (-2)) hx hb dX8_field_66 (by decide) ?_
    exact hret _ _ _ _ _ _ h hC hS dX8_field_68
def fn_X8_field_B11 (b : Nat) (σ : Sg) (x1 : Int32) (x2 : Int32) (x3 : Int32) (x4 : Int32) (y0 : Int32) : Option (Int32 × Sg) :=
  ((fn_X8_isRecord b σ x1).bind fun r1 =>
  (if r1 = 0 then
  some ((-1), σ)
  else (if x2 < 1 then
  some ((-1), σ)
  else (if (999 : Int32) < x2 then
  some ((-1), σ)
  else (if y0 = 0 then
  ((fn_X8_isIndicator x3).bind fun r2 =>
  (if r2 = 0 then
  some ((-1), σ)
  else ((fn_X8_isIndicator x4).bind fun r3 =>
  (if r3 = 0 then
  some ((-1), σ)
  else fn_X8_field_B55 b σ x1 x2 x3 x4 y0))))
  else fn_X8_field_B55 b σ x1 x2 x3 x4 y0)))))
set_option maxHeartbeats 4000000 in
set_option maxRecDepth 100000 in
theorem w_X8_field_B11 {p : Program} {l : Launch} {e : Env} {s : State} {m : MethodId} {args : Array Value} {below : List Frame} {meth : Method} {c : Code} {Q : State → Prop} {D : va_G} {κ : Nat → ClassId} {b : Nat} {H0 : Heap} {rr : Int32 × Sg} (hZ : sg_Z p c s m args D κ cX8_field 7 RX8 wsX8_field) (hret : ∀ (v : Int32) (u : Sg) (H : Heap) (locs : List Loc) (pc : Nat) (ls : Array Slot), some (v, u) = some rr → MW D κ b u H → va_S (sg_A b 16) H0 H locs → decode cX8_field pc = .ok (.ireturn, 1) → W p l e rm_X8_field s m args below meth c H locs 0 0 Q (F0 m pc ls [.int v])) : ∀ {σ : Sg} {x1 : Int32} {x2 : Int32} {x3 : Int32} {x4 : Int32} {y0 : Int32} {H : Heap} {locs : List Loc} {ls : Array Slot}, fn_X8_field_B11 b σ x1 x2 x3 x4 y0 = some rr → lv_has ls 7 [(0, .ref b), (1, .int x1), (2, .int x2), (3, .int x3), (4, .int x4)] → MW D κ b σ H → va_S (sg_A b 16) H0 H locs → W p l e rm_X8_field s m args below meth c H locs 0 0 Q (F0 m 11 ls [.int y0]) := by
  obtain ⟨hx, hb, hml, hown, hts, hK⟩ := hZ
  intro σ x1 x2 x3 x4 y0 H locs ls h hl hC hS
  unfold fn_X8_field_B11 at h
  refine lv_istore (lv' := [(5, .int y0), (0, .ref b), (1, .int x1), (2, .int x2), (3, .int x3), (4, .int x4)]) hx hb dX8_field_11 hl (by decide) rfl (fun ls hl => ?_)
  refine lv_aload_n hx hb dX8_field_13 rfl (lv_at hl 1 rfl) ?_
  refine lv_iload_n hx hb dX8_field_14 rfl (lv_at hl 2 rfl) ?_
  obtain ⟨r1, er1, h⟩ := Option.bind_eq_some_iff.mp h
  refine va_calli (va_runV (As := [.int x1]) (rest := []) ⟨hx, hb, hml, hown, hts⟩ (c_X8_isRecord l D κ b σ x1 _ er1) (cwV 1 hts (gwV wt_800 wt_802 wp_41 wt_9 wt_803) rfl rfl rfl (by decide +kernel) ⟨Nat.le_of_ble_eq_true rfl, Nat.le_of_ble_eq_true rfl⟩) (MW_preV hK hC sg_gModel rfl) rfl rfl hl.1 rfl (lv_room (Nat.le_of_ble_eq_true rfl)) dX8_field_15 ⟨Nat.zero_le _, Nat.zero_le _⟩) hS (fun _ _ h => h) (fun _ h => h) (fun r u t H locs ht _ hp hB _ _ hS => ?_)
  refine sg_topi hp.1 ?_
  have hC : MW D κ b σ H := MW_b hB ht hp.2
  refine lv_if_eq (tgt := 53) hx hb dX8_field_18 (by decide) (fun hc => ?_) (fun hc => ?_)
  · replace h := (if_pos hc).symm.trans h
    refine lv_iconst (v := (-1)) hx hb dX8_field_53 (by decide) ?_
    exact hret _ _ _ _ _ _ h hC hS dX8_field_54
  · replace h := (if_neg hc).symm.trans h
    refine lv_iload_n hx hb dX8_field_21 rfl (lv_at hl 3 rfl) ?_
    refine lv_iconst (v := 1) hx hb dX8_field_22 (by decide) ?_
    refine lv_icmp_lt (tgt := 53) hx hb dX8_field_23 (by decide) (fun hc => ?_) (fun hc => ?_)
    · replace h := (if_pos hc).symm.trans h
      refine lv_iconst (v := (-1)) hx hb dX8_field_53 (by decide) ?_
      exact hret _ _ _ _ _ _ h hC hS dX8_field_54
    · replace h := (if_neg hc).symm.trans h
      refine lv_iload_n hx hb dX8_field_26 rfl (lv_at hl 3 rfl) ?_
      refine lv_sipush (v := 999) hx hb dX8_field_27 (by decide) ?_
      refine lv_icmp_gt (tgt := 53) hx hb dX8_field_30 (by decide) (fun hc => ?_) (fun hc => ?_)
      · replace h := (if_pos hc).symm.trans h
        refine lv_iconst (v := (-1)) hx hb dX8_field_53 (by decide) ?_
        exact hret _ _ _ _ _ _ h hC hS dX8_field_54
      · replace h := (if_neg hc).symm.trans h
        refine lv_iload hx hb dX8_field_33 (lv_at hl 0 rfl) ?_
        refine lv_if_ne (tgt := 55) hx hb dX8_field_35 (by decide) (fun hc => ?_) (fun hc => ?_)
        · replace h := (if_neg hc).symm.trans h
          exact w_X8_field_B55 ⟨hx, hb, hml, hown, hts, hK⟩ hret  h (lv_sub hl [1, 2, 3, 4, 5, 0] rfl) hC hS
        · replace h := (if_pos hc).symm.trans h
          refine lv_iload_n hx hb dX8_field_38 rfl (lv_at hl 4 rfl) ?_
          obtain ⟨r2, er2, h⟩ := Option.bind_eq_some_iff.mp h
          refine va_calli (va_runS (As := [.int x3]) (rest := []) ⟨hx, hb, hml, hown, hts⟩ (c_X8_isIndicator l D κ b σ x3 _ er2) (va_cwS 1 hts (gwS wt_782 wt_783 wt_9 wt_784) rfl rfl rfl (by decide +kernel) ⟨Nat.le_of_ble_eq_true rfl, Nat.le_of_ble_eq_true rfl⟩) (MW_preS hK hC) rfl rfl hl.1 rfl (lv_room (Nat.le_of_ble_eq_true rfl)) dX8_field_39 ⟨Nat.zero_le _, Nat.zero_le _⟩) hS (fun _ _ h => h) (fun _ h => h) (fun r u t H locs ht _ hp hB _ _ hS => ?_)
          refine sg_topi hp.1 ?_
          have hC : MW D κ b σ H := MW_b hB ht hp.2
          refine lv_if_eq (tgt := 53) hx hb dX8_field_42 (by decide) (fun hc => ?_) (fun hc => ?_)
          · replace h := (if_pos hc).symm.trans h
            refine lv_iconst (v := (-1)) hx hb dX8_field_53 (by decide) ?_
            exact hret _ _ _ _ _ _ h hC hS dX8_field_54
          · replace h := (if_neg hc).symm.trans h
            refine lv_iload hx hb dX8_field_45 (lv_at hl 5 rfl) ?_
            obtain ⟨r3, er3, h⟩ := Option.bind_eq_some_iff.mp h
            refine va_calli (va_runS (As := [.int x4]) (rest := []) ⟨hx, hb, hml, hown, hts⟩ (c_X8_isIndicator l D κ b σ x4 _ er3) (va_cwS 1 hts (gwS wt_782 wt_783 wt_9 wt_784) rfl rfl rfl (by decide +kernel) ⟨Nat.le_of_ble_eq_true rfl, Nat.le_of_ble_eq_true rfl⟩) (MW_preS hK hC) rfl rfl hl.1 rfl (lv_room (Nat.le_of_ble_eq_true rfl)) dX8_field_47 ⟨Nat.zero_le _, Nat.zero_le _⟩) hS (fun _ _ h => h) (fun _ h => h) (fun r u t H locs ht _ hp hB _ _ hS => ?_)
            refine sg_topi hp.1 ?_
            have hC : MW D κ b σ H := MW_b hB ht hp.2
            refine lv_if_ne (tgt := 55) hx hb dX8_field_50 (by decide) (fun hc => ?_) (fun hc => ?_)
            · replace h := (if_neg hc).symm.trans h
              exact w_X8_field_B55 ⟨hx, hb, hml, hown, hts, hK⟩ hret  h (lv_sub hl [1, 2, 3, 4, 5, 0] rfl) hC hS
            · replace h := (if_pos hc).symm.trans h
              refine lv_iconst (v := (-1)) hx hb dX8_field_53 (by decide) ?_
              exact hret _ _ _ _ _ _ h hC hS dX8_field_54
def fn_X8_field (b : Nat) (σ : Sg) (x1 : Int32) (x2 : Int32) (x3 : Int32) (x4 : Int32) : Option (Int32 × Sg) :=
  (if (10 : Int32) ≤ x2 then
  fn_X8_field_B11 b σ x1 x2 x3 x4 0
  else fn_X8_field_B11 b σ x1 x2 x3 x4 1)
set_option maxHeartbeats 4000000 in
set_option maxRecDepth 100000 in
theorem w_X8_field_B0 {p : Program} {l : Launch} {e : Env} {s : State} {m : MethodId} {args : Array Value} {below : List Frame} {meth : Method} {c : Code} {Q : State → Prop} {D : va_G} {κ : Nat → ClassId} {b : Nat} {H0 : Heap} {rr : Int32 × Sg} (hZ : sg_Z p c s m args D κ cX8_field 7 RX8 wsX8_field) (hret : ∀ (v : Int32) (u : Sg) (H : Heap) (locs : List Loc) (pc : Nat) (ls : Array Slot), some (v, u) = some rr → MW D κ b u H → va_S (sg_A b 16) H0 H locs → decode cX8_field pc = .ok (.ireturn, 1) → W p l e rm_X8_field s m args below meth c H locs 0 0 Q (F0 m pc ls [.int v])) : ∀ {σ : Sg} {x1 : Int32} {x2 : Int32} {x3 : Int32} {x4 : Int32} {H : Heap} {locs : List Loc} {ls : Array Slot}, fn_X8_field b σ x1 x2 x3 x4 = some rr → lv_has ls 7 [(0, .ref b), (1, .int x1), (2, .int x2), (3, .int x3), (4, .int x4)] → MW D κ b σ H → va_S (sg_A b 16) H0 H locs → W p l e rm_X8_field s m args below meth c H locs 0 0 Q (F0 m 0 ls []) := by
  obtain ⟨hx, hb, hml, hown, hts, hK⟩ := hZ
  intro σ x1 x2 x3 x4 H locs ls h hl hC hS
  unfold fn_X8_field at h
  refine lv_iload_n hx hb dX8_field_0 rfl (lv_at hl 2 rfl) ?_
  refine lv_bipush (v := 10) hx hb dX8_field_1 (by decide) ?_
  refine lv_icmp_ge (tgt := 10) hx hb dX8_field_3 (by decide) (fun hc => ?_) (fun hc => ?_)
  · replace h := (if_pos hc).symm.trans h
    refine lv_iconst (v := 0) hx hb dX8_field_10 (by decide) ?_
    exact w_X8_field_B11 ⟨hx, hb, hml, hown, hts, hK⟩ hret  h (lv_sub hl [0, 1, 2, 3, 4] rfl) hC hS
  · replace h := (if_neg hc).symm.trans h
    refine lv_iconst (v := 1) hx hb dX8_field_6 (by decide) ?_
    refine lv_goto (tgt := 11) hx hb dX8_field_7 (by decide) ?_
    exact w_X8_field_B11 ⟨hx, hb, hml, hown, hts, hK⟩ hret  h (lv_sub hl [0, 1, 2, 3, 4] rfl) hC hS
set_option maxHeartbeats 4000000 in
set_option maxRecDepth 100000 in
theorem c_X8_field (l : Launch) (D : va_G) (κ : Nat → ClassId) (b : Nat) (σ : Sg) (x1 : Int32) (x2 : Int32) (x3 : Int32) (x4 : Int32) (rr : Int32 × Sg)  (h : fn_X8_field b σ x1 x2 x3 x4 = some rr) : Met l yX8_field wsX8_field rm_X8_field (va_Pc [.ref b, .int x1, .int x2, .int x3, .int x4] (fun U => KK D κ U ∧ MW D κ b σ U.heap)) (va_Qi (fun (r : Int32) (u : Sg) => r = rr.1 ∧ u = rr.2) (fun u t => MW D κ b u t.heap) (sg_A b 16)) 0 0 (sg_A b 16) := by
  refine Met.ofW (cc := cX8_field) (maxL := 7) (ret := (some .int)) (by decide) rfl ?_
  intro p e s m args below meth c s₁ B hml hv
  obtain ⟨rfl, hK, hC⟩ := hv
  have hr := B.returns
  have hlocks := B.notSynchronized
  have hl := lv_entry ([.ref b, .int x1, .int x2, .int x3, .int x4]) (n := 7) (Nat.le_of_ble_eq_true rfl)
  rw [lg_entry_eq]
  generalize (lg_sl ([.ref b, .int x1, .int x2, .int x3, .int x4]) ++ List.replicate (7 - (lg_sl ([.ref b, .int x1, .int x2, .int x3, .int x4])).length) Slot.unset).toArray = ls at hl ⊢
  have hl : lv_has ls 7 [(0, .ref b), (1, .int x1), (2, .int x2), (3, .int x3), (4, .int x4)] := hl
  exact w_X8_field_B0 ⟨B.exec, B.bytes, hml, findClass_of_methodNamed B.named, atoms_spec (ws := wsX8_field) B.pre, hK⟩ (fun v u H locs pc ls hq hC hS hd => W.iret B.exec B.bytes hr (fun t ht hW => ⟨⟨v, _, rfl, ⟨congrArg Prod.fst (Option.some.inj hq), congrArg Prod.snd (Option.some.inj hq)⟩, MW_e ht hC⟩, hS.F ht⟩) hS.2.2 hd) h  hl hC va_S.rf

-- RecordShelfModel.subfield(IIC)I
theorem dX8_subfield_0 : decode cX8_subfield 0 = .ok (.aload_n 0, 1) := by decide +kernel
theorem dX8_subfield_1 : decode cX8_subfield 1 = .ok (.iload_n 1, 1) := by decide +kernel
theorem dX8_subfield_2 : decode cX8_subfield 2 = .ok (.iload_n 2, 1) := by decide +kernel
theorem dX8_subfield_3 : decode cX8_subfield 3 = .ok (.invokevirtual 128, 3) := by decide +kernel
theorem dX8_subfield_6 : decode cX8_subfield 6 = .ok (.ifCond .eq 26, 3) := by decide +kernel
theorem dX8_subfield_9 : decode cX8_subfield 9 = .ok (.aload_n 0, 1) := by decide +kernel
theorem dX8_subfield_10 : decode cX8_subfield 10 = .ok (.getfield 19, 3) := by decide +kernel
theorem dX8_subfield_13 : decode cX8_subfield 13 = .ok (.bipush 8, 2) := by decide +kernel
theorem dX8_subfield_15 : decode cX8_subfield 15 = .ok (.iload_n 1, 1) := by decide +kernel
theorem dX8_subfield_16 : decode cX8_subfield 16 = .ok (.imul, 1) := by decide +kernel
theorem dX8_subfield_17 : decode cX8_subfield 17 = .ok (.iload_n 2, 1) := by decide +kernel
theorem dX8_subfield_18 : decode cX8_subfield 18 = .ok (.iadd, 1) := by decide +kernel
theorem dX8_subfield_19 : decode cX8_subfield 19 = .ok (.iaload, 1) := by decide +kernel
theorem dX8_subfield_20 : decode cX8_subfield 20 = .ok (.bipush 10, 2) := by decide +kernel
theorem dX8_subfield_22 : decode cX8_subfield 22 = .ok (.if_icmp .lt 10, 3) := by decide +kernel
theorem dX8_subfield_25 : decode cX8_subfield 25 = .ok (.iload_n 3, 1) := by decide +kernel
theorem dX8_subfield_26 : decode cX8_subfield 26 = .ok (.invokestatic 102, 3) := by decide +kernel
theorem dX8_subfield_29 : decode cX8_subfield 29 = .ok (.ifCond .ne 5, 3) := by decide +kernel
theorem dX8_subfield_32 : decode cX8_subfield 32 = .ok (.iconst (-1), 1) := by decide +kernel
theorem dX8_subfield_33 : decode cX8_subfield 33 = .ok (.ireturn, 1) := by decide +kernel
theorem dX8_subfield_34 : decode cX8_subfield 34 = .ok (.aload_n 0, 1) := by decide +kernel
theorem dX8_subfield_35 : decode cX8_subfield 35 = .ok (.getfield 28, 3) := by decide +kernel
theorem dX8_subfield_38 : decode cX8_subfield 38 = .ok (.bipush 8, 2) := by decide +kernel
theorem dX8_subfield_40 : decode cX8_subfield 40 = .ok (.iload_n 1, 1) := by decide +kernel
theorem dX8_subfield_41 : decode cX8_subfield 41 = .ok (.imul, 1) := by decide +kernel
theorem dX8_subfield_42 : decode cX8_subfield 42 = .ok (.iload_n 2, 1) := by decide +kernel
theorem dX8_subfield_43 : decode cX8_subfield 43 = .ok (.iadd, 1) := by decide +kernel
theorem dX8_subfield_44 : decode cX8_subfield 44 = .ok (.iaload, 1) := by decide +kernel
theorem dX8_subfield_45 : decode cX8_subfield 45 = .ok (.iconst 4, 1) := by decide +kernel
theorem dX8_subfield_46 : decode cX8_subfield 46 = .ok (.if_icmp .ne 6, 3) := by decide +kernel
theorem dX8_subfield_49 : decode cX8_subfield 49 = .ok (.bipush (-2), 2) := by decide +kernel
theorem dX8_subfield_51 : decode cX8_subfield 51 = .ok (.ireturn, 1) := by decide +kernel
theorem dX8_subfield_52 : decode cX8_subfield 52 = .ok (.aload_n 0, 1) := by decide +kernel
theorem dX8_subfield_53 : decode cX8_subfield 53 = .ok (.bipush 8, 2) := by decide +kernel
theorem dX8_subfield_55 : decode cX8_subfield 55 = .ok (.iload_n 1, 1) := by decide +kernel
theorem dX8_subfield_56 : decode cX8_subfield 56 = .ok (.imul, 1) := by decide +kernel
theorem dX8_subfield_57 : decode cX8_subfield 57 = .ok (.iload_n 2, 1) := by decide +kernel
theorem dX8_subfield_58 : decode cX8_subfield 58 = .ok (.iadd, 1) := by decide +kernel
theorem dX8_subfield_59 : decode cX8_subfield 59 = .ok (.iload_n 3, 1) := by decide +kernel
theorem dX8_subfield_60 : decode cX8_subfield 60 = .ok (.invokevirtual 93, 3) := by decide +kernel
theorem dX8_subfield_63 : decode cX8_subfield 63 = .ok (.aload_n 0, 1) := by decide +kernel
theorem dX8_subfield_64 : decode cX8_subfield 64 = .ok (.getfield 28, 3) := by decide +kernel
theorem dX8_subfield_67 : decode cX8_subfield 67 = .ok (.bipush 8, 2) := by decide +kernel
theorem dX8_subfield_69 : decode cX8_subfield 69 = .ok (.iload_n 1, 1) := by decide +kernel
theorem dX8_subfield_70 : decode cX8_subfield 70 = .ok (.imul, 1) := by decide +kernel
theorem dX8_subfield_71 : decode cX8_subfield 71 = .ok (.iload_n 2, 1) := by decide +kernel
theorem dX8_subfield_72 : decode cX8_subfield 72 = .ok (.iadd, 1) := by decide +kernel
theorem dX8_subfield_73 : decode cX8_subfield 73 = .ok (.iaload, 1) := by decide +kernel
theorem dX8_subfield_74 : decode cX8_subfield 74 = .ok (.iconst 1, 1) := by decide +kernel
theorem dX8_subfield_75 : decode cX8_subfield 75 = .ok (.isub, 1) := by decide +kernel
theorem dX8_subfield_76 : decode cX8_subfield 76 = .ok (.ireturn, 1) := by decide +kernel
def rm_X8_subfield : Room := { frames := 2, cells := 0, slots := 0, locals := 43 }
def fn_X8_subfield (b : Nat) (σ : Sg) (x1 : Int32) (x2 : Int32) (x3 : Int32) : Option (Int32 × Sg) :=
  ((fn_X8_isField b σ x1 x2).bind fun r1 =>
  (if r1 = 0 then
  some ((-1), σ)
  else (if sg_ib ((8 * x1) + x2) 48 then
  (if (σ.1 (b + 4) (sg_x ((8 * x1) + x2))) < 10 then
  some ((-1), σ)
  else ((fn_X8_isCode x3).bind fun r2 =>
  (if r2 = 0 then
  some ((-1), σ)
  else (if sg_ib ((8 * x1) + x2) 48 then
  (if (σ.1 (b + 7) (sg_x ((8 * x1) + x2))) = 4 then
  some ((-2), σ)
  else ((fn_X8_open b σ ((8 * x1) + x2) x3).bind fun r3 =>
  (if sg_ib ((8 * x1) + x2) 48 then
  some (((r3.1 (b + 7) (sg_x ((8 * x1) + x2))) - 1), r3)
  else none)))
  else none))))
  else none)))
set_option maxHeartbeats 4000000 in
set_option maxRecDepth 100000 in
theorem w_X8_subfield_B0 {p : Program} {l : Launch} {e : Env} {s : State} {m : MethodId} {args : Array Value} {below : List Frame} {meth : Method} {c : Code} {Q : State → Prop} {D : va_G} {κ : Nat → ClassId} {b : Nat} {H0 : Heap} {rr : Int32 × Sg} (hZ : sg_Z p c s m args D κ cX8_subfield 4 RX8 wsX8_subfield) (hret : ∀ (v : Int32) (u : Sg) (H : Heap) (locs : List Loc) (pc : Nat) (ls : Array Slot), some (v, u) = some rr → MW D κ b u H → va_S (sg_A b 16) H0 H locs → decode cX8_subfield pc = .ok (.ireturn, 1) → W p l e rm_X8_subfield s m args below meth c H locs 0 0 Q (F0 m pc ls [.int v])) : ∀ {σ : Sg} {x1 : Int32} {x2 : Int32} {x3 : Int32} {H : Heap} {locs : List Loc} {ls : Array Slot}, fn_X8_subfield b σ x1 x2 x3 = some rr → lv_has ls 4 [(0, .ref b), (1, .int x1), (2, .int x2), (3, .int x3)] → MW D κ b σ H → va_S (sg_A b 16) H0 H locs → W p l e rm_X8_subfield s m args below meth c H locs 0 0 Q (F0 m 0 ls []) := by
  obtain ⟨hx, hb, hml, hown, hts, hK⟩ := hZ
  intro σ x1 x2 x3 H locs ls h hl hC hS
  unfold fn_X8_subfield at h
  refine lv_aload_n hx hb dX8_subfield_0 rfl (lv_at hl 0 rfl) ?_
  refine lv_iload_n hx hb dX8_subfield_1 rfl (lv_at hl 1 rfl) ?_
  refine lv_iload_n hx hb dX8_subfield_2 rfl (lv_at hl 2 rfl) ?_
  obtain ⟨r1, er1, h⟩ := Option.bind_eq_some_iff.mp h
  refine va_calli (va_runV (As := [.int x1, .int x2]) (rest := []) ⟨hx, hb, hml, hown, hts⟩ (c_X8_isField l D κ b σ x1 x2 _ er1) (cwV 2 hts (gwV wt_808 wt_810 wp_42 wt_9 wt_811) rfl rfl rfl (by decide +kernel) ⟨Nat.le_of_ble_eq_true rfl, Nat.le_of_ble_eq_true rfl⟩) (MW_preV hK hC sg_gModel rfl) rfl rfl hl.1 rfl (lv_room (Nat.le_of_ble_eq_true rfl)) dX8_subfield_3 ⟨Nat.zero_le _, Nat.zero_le _⟩) hS (fun _ _ h => h) (fun _ h => h) (fun r u t H locs ht _ hp hB _ _ hS => ?_)
  refine sg_topi hp.1 ?_
  have hC : MW D κ b σ H := MW_b hB ht hp.2
  refine lv_if_eq (tgt := 32) hx hb dX8_subfield_6 (by decide) (fun hc => ?_) (fun hc => ?_)
  · replace h := (if_pos hc).symm.trans h
    refine lv_iconst (v := (-1)) hx hb dX8_subfield_32 (by decide) ?_
    exact hret _ _ _ _ _ _ h hC hS dX8_subfield_33
  · replace h := (if_neg hc).symm.trans h
    refine lv_aload_n hx hb dX8_subfield_9 rfl (lv_at hl 0 rfl) ?_
    refine va_get (D := D) (ci := 8) (v := .ref (b + 4)) (C := RX8) (T := TX8) (N := 21) hx hb hts (wqs inW_X8) hown hK.1 hC.1 (b - b) sg_gModel rfl 5 (by decide) (hts _ (wq wt_653)) (fun _ h9 => h9) rfl dX8_subfield_10 ?_
    refine lv_bipush (v := 8) hx hb dX8_subfield_13 (by decide) ?_
    refine lv_iload_n hx hb dX8_subfield_15 rfl (lv_at hl 1 rfl) ?_
    refine lv_imul hx hb dX8_subfield_16 ?_
    refine lv_iload_n hx hb dX8_subfield_17 rfl (lv_at hl 2 rfl) ?_
    refine lv_iadd hx hb dX8_subfield_18 ?_
    obtain ⟨hg, h⟩ := sg_gd h
    refine va_iald hx hb hK.1 hC.1 ((b + 4) - b) 0 sg_ga_tags rfl (sg_in hg) dX8_subfield_19 ?_
    refine lv_bipush (v := 10) hx hb dX8_subfield_20 (by decide) ?_
    refine lv_icmp_lt (tgt := 32) hx hb dX8_subfield_22 (by decide) (fun hc => ?_) (fun hc => ?_)
    · replace h := (if_pos hc).symm.trans h
      refine lv_iconst (v := (-1)) hx hb dX8_subfield_32 (by decide) ?_
      exact hret _ _ _ _ _ _ h hC hS dX8_subfield_33
    · replace h := (if_neg hc).symm.trans h
      refine lv_iload_n hx hb dX8_subfield_25 rfl (lv_at hl 3 rfl) ?_
      obtain ⟨r2, er2, h⟩ := Option.bind_eq_some_iff.mp h
      refine va_calli (va_runS (As := [.int x3]) (rest := []) ⟨hx, hb, hml, hown, hts⟩ (c_X8_isCode l D κ b σ x3 _ er2) (va_cwS 1 hts (gwS wt_785 wt_786 wt_9 wt_787) rfl rfl rfl (by decide +kernel) ⟨Nat.le_of_ble_eq_true rfl, Nat.le_of_ble_eq_true rfl⟩) (MW_preS hK hC) rfl rfl hl.1 rfl (lv_room (Nat.le_of_ble_eq_true rfl)) dX8_subfield_26 ⟨Nat.zero_le _, Nat.zero_le _⟩) hS (fun _ _ h => h) (fun _ h => h) (fun r u t H locs ht _ hp hB _ _ hS => ?_)
      refine sg_topi hp.1 ?_
      have hC : MW D κ b σ H := MW_b hB ht hp.2
      refine lv_if_ne (tgt := 34) hx hb dX8_subfield_29 (by decide) (fun hc => ?_) (fun hc => ?_)
      · replace h := (if_neg hc).symm.trans h
        refine lv_aload_n hx hb dX8_subfield_34 rfl (lv_at hl 0 rfl) ?_
        refine va_get (D := D) (ci := 8) (v := .ref (b + 7)) (C := RX8) (T := TX8) (N := 21) hx hb hts (wqs inW_X8) hown hK.1 hC.1 (b - b) sg_gModel rfl 8 (by decide) (hts _ (wq wt_656)) (fun _ h9 => h9) rfl dX8_subfield_35 ?_
        refine lv_bipush (v := 8) hx hb dX8_subfield_38 (by decide) ?_
        refine lv_iload_n hx hb dX8_subfield_40 rfl (lv_at hl 1 rfl) ?_
        refine lv_imul hx hb dX8_subfield_41 ?_
        refine lv_iload_n hx hb dX8_subfield_42 rfl (lv_at hl 2 rfl) ?_
        refine lv_iadd hx hb dX8_subfield_43 ?_
        obtain ⟨hg, h⟩ := sg_gd h
        refine va_iald hx hb hK.1 hC.1 ((b + 7) - b) 0 sg_ga_subfields rfl (sg_in hg) dX8_subfield_44 ?_
        refine lv_iconst (v := 4) hx hb dX8_subfield_45 (by decide) ?_
        refine lv_icmp_ne (tgt := 52) hx hb dX8_subfield_46 (by decide) (fun hc => ?_) (fun hc => ?_)
        · replace h := (if_neg hc).symm.trans h
          refine lv_aload_n hx hb dX8_subfield_52 rfl (lv_at hl 0 rfl) ?_
          refine lv_bipush (v := 8) hx hb dX8_subfield_53 (by decide) ?_
          refine lv_iload_n hx hb dX8_subfield_55 rfl (lv_at hl 1 rfl) ?_
          refine lv_imul hx hb dX8_subfield_56 ?_
          refine lv_iload_n hx hb dX8_subfield_57 rfl (lv_at hl 2 rfl) ?_
          refine lv_iadd hx hb dX8_subfield_58 ?_
          refine lv_iload_n hx hb dX8_subfield_59 rfl (lv_at hl 3 rfl) ?_
          obtain ⟨r3, er3, h⟩ := Option.bind_eq_some_iff.mp h
          refine va_callv (va_runV (As := [.int ((8 * x1) + x2), .int x3]) (rest := []) ⟨hx, hb, hml, hown, hts⟩ (c_X8_open l D κ b σ ((8 * x1) + x2) x3 _ er3) (cwV 2 hts (gwV wt_766 wt_768 wp_37 wt_9 wt_769) rfl rfl rfl (by decide +kernel) ⟨Nat.le_of_ble_eq_true rfl, Nat.le_of_ble_eq_true rfl⟩) (MW_preV hK hC sg_gModel rfl) rfl rfl hl.1 rfl (lv_room (Nat.le_of_ble_eq_true rfl)) dX8_subfield_60 ⟨Nat.zero_le _, Nat.zero_le _⟩) hS (fun _ _ h => h) (fun _ h => h) (fun u t H locs ht _ hp hB _ _ hS => ?_)
          have hC : MW D κ b r3 H := MW_b hB ht hp
          refine lv_aload_n hx hb dX8_subfield_63 rfl (lv_at hl 0 rfl) ?_
          refine va_get (D := D) (ci := 8) (v := .ref (b + 7)) (C := RX8) (T := TX8) (N := 21) hx hb hts (wqs inW_X8) hown hK.1 hC.1 (b - b) sg_gModel rfl 8 (by decide) (hts _ (wq wt_656)) (fun _ h9 => h9) rfl dX8_subfield_64 ?_
          refine lv_bipush (v := 8) hx hb dX8_subfield_67 (by decide) ?_
          refine lv_iload_n hx hb dX8_subfield_69 rfl (lv_at hl 1 rfl) ?_
          refine lv_imul hx hb dX8_subfield_70 ?_
          refine lv_iload_n hx hb dX8_subfield_71 rfl (lv_at hl 2 rfl) ?_
          refine lv_iadd hx hb dX8_subfield_72 ?_
          obtain ⟨hg, h⟩ := sg_gd h
          refine va_iald hx hb hK.1 hC.1 ((b + 7) - b) 0 sg_ga_subfields rfl (sg_in hg) dX8_subfield_73 ?_
          refine lv_iconst (v := 1) hx hb dX8_subfield_74 (by decide) ?_
          refine lv_isub hx hb dX8_subfield_75 ?_
          exact hret _ _ _ _ _ _ h hC hS dX8_subfield_76
        · replace h := (if_pos hc).symm.trans h
          refine lv_bipush (v := (-2)) hx hb dX8_subfield_49 (by decide) ?_
          exact hret _ _ _ _ _ _ h hC hS dX8_subfield_51
      · replace h := (if_pos hc).symm.trans h
        refine lv_iconst (v := (-1)) hx hb dX8_subfield_32 (by decide) ?_
        exact hret _ _ _ _ _ _ h hC hS dX8_subfield_33
set_option maxHeartbeats 4000000 in
set_option maxRecDepth 100000 in
theorem c_X8_subfield (l : Launch) (D : va_G) (κ : Nat → ClassId) (b : Nat) (σ : Sg) (x1 : Int32) (x2 : Int32) (x3 : Int32) (rr : Int32 × Sg)  (h : fn_X8_subfield b σ x1 x2 x3 = some rr) : Met l yX8_subfield wsX8_subfield rm_X8_subfield (va_Pc [.ref b, .int x1, .int x2, .int x3] (fun U => KK D κ U ∧ MW D κ b σ U.heap)) (va_Qi (fun (r : Int32) (u : Sg) => r = rr.1 ∧ u = rr.2) (fun u t => MW D κ b u t.heap) (sg_A b 16)) 0 0 (sg_A b 16) := by
  refine Met.ofW (cc := cX8_subfield) (maxL := 4) (ret := (some .int)) (by decide) rfl ?_
  intro p e s m args below meth c s₁ B hml hv
  obtain ⟨rfl, hK, hC⟩ := hv
  have hr := B.returns
  have hlocks := B.notSynchronized
  have hl := lv_entry ([.ref b, .int x1, .int x2, .int x3]) (n := 4) (Nat.le_of_ble_eq_true rfl)
  rw [lg_entry_eq]
  generalize (lg_sl ([.ref b, .int x1, .int x2, .int x3]) ++ List.replicate (4 - (lg_sl ([.ref b, .int x1, .int x2, .int x3])).length) Slot.unset).toArray = ls at hl ⊢
  have hl : lv_has ls 4 [(0, .ref b), (1, .int x1), (2, .int x2), (3, .int x3)] := hl
  exact w_X8_subfield_B0 ⟨B.exec, B.bytes, hml, findClass_of_methodNamed B.named, atoms_spec (ws := wsX8_subfield) B.pre, hK⟩ (fun v u H locs pc ls hq hC hS hd => W.iret B.exec B.bytes hr (fun t ht hW => ⟨⟨v, _, rfl, ⟨congrArg Prod.fst (Option.some.inj hq), congrArg Prod.snd (Option.some.inj hq)⟩, MW_e ht hC⟩, hS.F ht⟩) hS.2.2 hd) h  hl hC va_S.rf

-- RecordShelfModel.append(IIIC)I
theorem dX8_append_0 : decode cX8_append 0 = .ok (.aload_n 0, 1) := by decide +kernel
theorem dX8_append_1 : decode cX8_append 1 = .ok (.iload_n 1, 1) := by decide +kernel
theorem dX8_append_2 : decode cX8_append 2 = .ok (.iload_n 2, 1) := by decide +kernel
theorem dX8_append_3 : decode cX8_append 3 = .ok (.iload_n 3, 1) := by decide +kernel
theorem dX8_append_4 : decode cX8_append 4 = .ok (.invokevirtual 132, 3) := by decide +kernel
theorem dX8_append_7 : decode cX8_append 7 = .ok (.ifCond .eq 11, 3) := by decide +kernel
theorem dX8_append_10 : decode cX8_append 10 = .ok (.iload 4, 2) := by decide +kernel
theorem dX8_append_12 : decode cX8_append 12 = .ok (.invokestatic 79, 3) := by decide +kernel
theorem dX8_append_15 : decode cX8_append 15 = .ok (.ifCond .ne 5, 3) := by decide +kernel
theorem dX8_append_18 : decode cX8_append 18 = .ok (.iconst (-1), 1) := by decide +kernel
theorem dX8_append_19 : decode cX8_append 19 = .ok (.ireturn, 1) := by decide +kernel
theorem dX8_append_20 : decode cX8_append 20 = .ok (.iconst 4, 1) := by decide +kernel
theorem dX8_append_21 : decode cX8_append 21 = .ok (.bipush 8, 2) := by decide +kernel
theorem dX8_append_23 : decode cX8_append 23 = .ok (.iload_n 1, 1) := by decide +kernel
theorem dX8_append_24 : decode cX8_append 24 = .ok (.imul, 1) := by decide +kernel
theorem dX8_append_25 : decode cX8_append 25 = .ok (.iload_n 2, 1) := by decide +kernel
theorem dX8_append_26 : decode cX8_append 26 = .ok (.iadd, 1) := by decide +kernel
theorem dX8_append_27 : decode cX8_append 27 = .ok (.imul, 1) := by decide +kernel
theorem dX8_append_28 : decode cX8_append 28 = .ok (.iload_n 3, 1) := by decide +kernel
theorem dX8_append_29 : decode cX8_append 29 = .ok (.iadd, 1) := by decide +kernel
theorem dX8_append_30 : decode cX8_append 30 = .ok (.istore 5, 2) := by decide +kernel
theorem dX8_append_32 : decode cX8_append 32 = .ok (.aload_n 0, 1) := by decide +kernel
theorem dX8_append_33 : decode cX8_append 33 = .ok (.getfield 34, 3) := by decide +kernel
theorem dX8_append_36 : decode cX8_append 36 = .ok (.iload 5, 2) := by decide +kernel
theorem dX8_append_38 : decode cX8_append 38 = .ok (.iaload, 1) := by decide +kernel
theorem dX8_append_39 : decode cX8_append 39 = .ok (.bipush 20, 2) := by decide +kernel
theorem dX8_append_41 : decode cX8_append 41 = .ok (.if_icmp .ne 6, 3) := by decide +kernel
theorem dX8_append_44 : decode cX8_append 44 = .ok (.bipush (-2), 2) := by decide +kernel
theorem dX8_append_46 : decode cX8_append 46 = .ok (.ireturn, 1) := by decide +kernel
theorem dX8_append_47 : decode cX8_append 47 = .ok (.aload_n 0, 1) := by decide +kernel
theorem dX8_append_48 : decode cX8_append 48 = .ok (.iload 5, 2) := by decide +kernel
theorem dX8_append_50 : decode cX8_append 50 = .ok (.iload 4, 2) := by decide +kernel
theorem dX8_append_52 : decode cX8_append 52 = .ok (.invokevirtual 96, 3) := by decide +kernel
theorem dX8_append_55 : decode cX8_append 55 = .ok (.aload_n 0, 1) := by decide +kernel
theorem dX8_append_56 : decode cX8_append 56 = .ok (.getfield 34, 3) := by decide +kernel
theorem dX8_append_59 : decode cX8_append 59 = .ok (.iload 5, 2) := by decide +kernel
theorem dX8_append_61 : decode cX8_append 61 = .ok (.iaload, 1) := by decide +kernel
theorem dX8_append_62 : decode cX8_append 62 = .ok (.ireturn, 1) := by decide +kernel
def rm_X8_append : Room := { frames := 3, cells := 0, slots := 0, locals := 66 }
def fn_X8_append (b : Nat) (σ : Sg) (x1 : Int32) (x2 : Int32) (x3 : Int32) (x4 : Int32) : Option (Int32 × Sg) :=
  ((fn_X8_isSubfield b σ x1 x2 x3).bind fun r1 =>
  (if r1 = 0 then
  some ((-1), σ)
  else ((fn_X8_isPlain x4).bind fun r2 =>
  (if r2 = 0 then
  some ((-1), σ)
  else (sg_lt (((4 * ((8 * x1) + x2)) + x3) : Int32) fun v3 =>
  (if sg_ib v3 192 then
  (if (σ.1 (b + 9) (sg_x v3)) = 20 then
  some ((-2), σ)
  else ((fn_X8_say b σ v3 x4).bind fun r4 =>
  (if sg_ib v3 192 then
  some ((r4.1 (b + 9) (sg_x v3)), r4)
  else none)))
  else none))))))
set_option maxHeartbeats 4000000 in
set_option maxRecDepth 100000 in
theorem w_X8_append_B0 {p : Program} {l : Launch} {e : Env} {s : State} {m : MethodId} {args : Array Value} {below : List Frame} {meth : Method} {c : Code} {Q : State → Prop} {D : va_G} {κ : Nat → ClassId} {b : Nat} {H0 : Heap} {rr : Int32 × Sg} (hZ : sg_Z p c s m args D κ cX8_append 6 RX8 wsX8_append) (hret : ∀ (v : Int32) (u : Sg) (H : Heap) (locs : List Loc) (pc : Nat) (ls : Array Slot), some (v, u) = some rr → MW D κ b u H → va_S (sg_A b 16) H0 H locs → decode cX8_append pc = .ok (.ireturn, 1) → W p l e rm_X8_append s m args below meth c H locs 0 0 Q (F0 m pc ls [.int v])) : ∀ {σ : Sg} {x1 : Int32} {x2 : Int32} {x3 : Int32} {x4 : Int32} {H : Heap} {locs : List Loc} {ls : Array Slot}, fn_X8_append b σ x1 x2 x3 x4 = some rr → lv_has ls 6 [(0, .ref b), (1, .int x1), (2, .int x2), (3, .int x3), (4, .int x4)] → MW D κ b σ H → va_S (sg_A b 16) H0 H locs → W p l e rm_X8_append s m args below meth c H locs 0 0 Q (F0 m 0 ls []) := by
  obtain ⟨hx, hb, hml, hown, hts, hK⟩ := hZ
  intro σ x1 x2 x3 x4 H locs ls h hl hC hS
  unfold fn_X8_append at h
  refine lv_aload_n hx hb dX8_append_0 rfl (lv_at hl 0 rfl) ?_
  refine lv_iload_n hx hb dX8_append_1 rfl (lv_at hl 1 rfl) ?_
  refine lv_iload_n hx hb dX8_append_2 rfl (lv_at hl 2 rfl) ?_
  refine lv_iload_n hx hb dX8_append_3 rfl (lv_at hl 3 rfl) ?_
  obtain ⟨r1, er1, h⟩ := Option.bind_eq_some_iff.mp h
  refine va_calli (va_runV (As := [.int x1, .int x2, .int x3]) (rest := []) ⟨hx, hb, hml, hown, hts⟩ (c_X8_isSubfield l D κ b σ x1 x2 x3 _ er1) (cwV 3 hts (gwV wt_816 wt_818 wp_43 wt_9 wt_819) rfl rfl rfl (by decide +kernel) ⟨Nat.le_of_ble_eq_true rfl, Nat.le_of_ble_eq_true rfl⟩) (MW_preV hK hC sg_gModel rfl) rfl rfl hl.1 rfl (lv_room (Nat.le_of_ble_eq_true rfl)) dX8_append_4 ⟨Nat.zero_le _, Nat.zero_le _⟩) hS (fun _ _ h => h) (fun _ h => h) (fun r u t H locs ht _ hp hB _ _ hS => ?_)
  refine sg_topi hp.1 ?_
  have hC : MW D κ b σ H := MW_b hB ht hp.2
  refine lv_if_eq (tgt := 18) hx hb dX8_append_7 (by decide) (fun hc => ?_) (fun hc => ?_)
  · replace h := (if_pos hc).symm.trans h
    refine lv_iconst (v := (-1)) hx hb dX8_append_18 (by decide) ?_
    exact hret _ _ _ _ _ _ h hC hS dX8_append_19
  · replace h := (if_neg hc).symm.trans h
    refine lv_iload hx hb dX8_append_10 (lv_at hl 4 rfl) ?_
    obtain ⟨r2, er2, h⟩ := Option.bind_eq_some_iff.mp h
    refine va_calli (va_runS (As := [.int x4]) (rest := []) ⟨hx, hb, hml, hown, hts⟩ (c_X8_isPlain l D κ b σ x4 _ er2) (va_cwS 1 hts (gwS wt_748 wt_749 wt_9 wt_750) rfl rfl rfl (by decide +kernel) ⟨Nat.le_of_ble_eq_true rfl, Nat.le_of_ble_eq_true rfl⟩) (MW_preS hK hC) rfl rfl hl.1 rfl (lv_room (Nat.le_of_ble_eq_true rfl)) dX8_append_12 ⟨Nat.zero_le _, Nat.zero_le _⟩) hS (fun _ _ h => h) (fun _ h => h) (fun r u t H locs ht _ hp hB _ _ hS => ?_)
    refine sg_topi hp.1 ?_
    have hC : MW D κ b σ H := MW_b hB ht hp.2
    refine lv_if_ne (tgt := 20) hx hb dX8_append_15 (by decide) (fun hc => ?_) (fun hc => ?_)
    · replace h := (if_neg hc).symm.trans h
      refine lv_iconst (v := 4) hx hb dX8_append_20 (by decide) ?_
      refine lv_bipush (v := 8) hx hb dX8_append_21 (by decide) ?_
      refine lv_iload_n hx hb dX8_append_23 rfl (lv_at hl 1 rfl) ?_
      refine lv_imul hx hb dX8_append_24 ?_
      refine lv_iload_n hx hb dX8_append_25 rfl (lv_at hl 2 rfl) ?_
      refine lv_iadd hx hb dX8_append_26 ?_
      refine lv_imul hx hb dX8_append_27 ?_
      refine lv_iload_n hx hb dX8_append_28 rfl (lv_at hl 3 rfl) ?_
      refine lv_iadd hx hb dX8_append_29 ?_
      obtain ⟨v3, ev3, h⟩ := sg_lte h
      refine sg_topi ev3 ?_
      refine lv_istore (lv' := [(5, .int v3), (0, .ref b), (1, .int x1), (2, .int x2), (3, .int x3), (4, .int x4)]) hx hb dX8_append_30 hl (by decide) rfl (fun ls hl => ?_)
      refine lv_aload_n hx hb dX8_append_32 rfl (lv_at hl 1 rfl) ?_
      refine va_get (D := D) (ci := 8) (v := .ref (b + 9)) (C := RX8) (T := TX8) (N := 21) hx hb hts (wqs inW_X8) hown hK.1 hC.1 (b - b) sg_gModel rfl 10 (by decide) (hts _ (wq wt_658)) (fun _ h9 => h9) rfl dX8_append_33 ?_
      refine lv_iload hx hb dX8_append_36 (lv_at hl 0 rfl) ?_
      obtain ⟨hg, h⟩ := sg_gd h
      refine va_iald hx hb hK.1 hC.1 ((b + 9) - b) 0 sg_ga_sizes rfl (sg_in hg) dX8_append_38 ?_
      refine lv_bipush (v := 20) hx hb dX8_append_39 (by decide) ?_
      refine lv_icmp_ne (tgt := 47) hx hb dX8_append_41 (by decide) (fun hc => ?_) (fun hc => ?_)
      · replace h := (if_neg hc).symm.trans h
        refine lv_aload_n hx hb dX8_append_47 rfl (lv_at hl 1 rfl) ?_
        refine lv_iload hx hb dX8_append_48 (lv_at hl 0 rfl) ?_
        refine lv_iload hx hb dX8_append_50 (lv_at hl 5 rfl) ?_
        obtain ⟨r4, er4, h⟩ := Option.bind_eq_some_iff.mp h
        refine va_callv (va_runV (As := [.int v3, .int x4]) (rest := []) ⟨hx, hb, hml, hown, hts⟩ (c_X8_say l D κ b σ v3 x4 _ er4) (cwV 2 hts (gwV wt_770 wt_772 wp_38 wt_9 wt_773) rfl rfl rfl (by decide +kernel) ⟨Nat.le_of_ble_eq_true rfl, Nat.le_of_ble_eq_true rfl⟩) (MW_preV hK hC sg_gModel rfl) rfl rfl hl.1 rfl (lv_room (Nat.le_of_ble_eq_true rfl)) dX8_append_52 ⟨Nat.zero_le _, Nat.zero_le _⟩) hS (fun _ _ h => h) (fun _ h => h) (fun u t H locs ht _ hp hB _ _ hS => ?_)
        have hC : MW D κ b r4 H := MW_b hB ht hp
        refine lv_aload_n hx hb dX8_append_55 rfl (lv_at hl 1 rfl) ?_
        refine va_get (D := D) (ci := 8) (v := .ref (b + 9)) (C := RX8) (T := TX8) (N := 21) hx hb hts (wqs inW_X8) hown hK.1 hC.1 (b - b) sg_gModel rfl 10 (by decide) (hts _ (wq wt_658)) (fun _ h9 => h9) rfl dX8_append_56 ?_
        refine lv_iload hx hb dX8_append_59 (lv_at hl 0 rfl) ?_
        obtain ⟨hg, h⟩ := sg_gd h
        refine va_iald hx hb hK.1 hC.1 ((b + 9) - b) 0 sg_ga_sizes rfl (sg_in hg) dX8_append_61 ?_
        exact hret _ _ _ _ _ _ h hC hS dX8_append_62
      · replace h := (if_pos hc).symm.trans h
        refine lv_bipush (v := (-2)) hx hb dX8_append_44 (by decide) ?_
        exact hret _ _ _ _ _ _ h hC hS dX8_append_46
    · replace h := (if_pos hc).symm.trans h
      refine lv_iconst (v := (-1)) hx hb dX8_append_18 (by decide) ?_
      exact hret _ _ _ _ _ _ h hC hS dX8_append_19
set_option maxHeartbeats 4000000 in
set_option maxRecDepth 100000 in
theorem c_X8_append (l : Launch) (D : va_G) (κ : Nat → ClassId) (b : Nat) (σ : Sg) (x1 : Int32) (x2 : Int32) (x3 : Int32) (x4 : Int32) (rr : Int32 × Sg)  (h : fn_X8_append b σ x1 x2 x3 x4 = some rr) : Met l yX8_append wsX8_append rm_X8_append (va_Pc [.ref b, .int x1, .int x2, .int x3, .int x4] (fun U => KK D κ U ∧ MW D κ b σ U.heap)) (va_Qi (fun (r : Int32) (u : Sg) => r = rr.1 ∧ u = rr.2) (fun u t => MW D κ b u t.heap) (sg_A b 16)) 0 0 (sg_A b 16) := by
  refine Met.ofW (cc := cX8_append) (maxL := 6) (ret := (some .int)) (by decide) rfl ?_
  intro p e s m args below meth c s₁ B hml hv
  obtain ⟨rfl, hK, hC⟩ := hv
  have hr := B.returns
  have hlocks := B.notSynchronized
  have hl := lv_entry ([.ref b, .int x1, .int x2, .int x3, .int x4]) (n := 6) (Nat.le_of_ble_eq_true rfl)
  rw [lg_entry_eq]
  generalize (lg_sl ([.ref b, .int x1, .int x2, .int x3, .int x4]) ++ List.replicate (6 - (lg_sl ([.ref b, .int x1, .int x2, .int x3, .int x4])).length) Slot.unset).toArray = ls at hl ⊢
  have hl : lv_has ls 6 [(0, .ref b), (1, .int x1), (2, .int x2), (3, .int x3), (4, .int x4)] := hl
  exact w_X8_append_B0 ⟨B.exec, B.bytes, hml, findClass_of_methodNamed B.named, atoms_spec (ws := wsX8_append) B.pre, hK⟩ (fun v u H locs pc ls hq hC hS hd => W.iret B.exec B.bytes hr (fun t ht hW => ⟨⟨v, _, rfl, ⟨congrArg Prod.fst (Option.some.inj hq), congrArg Prod.snd (Option.some.inj hq)⟩, MW_e ht hC⟩, hS.F ht⟩) hS.2.2 hd) h  hl hC va_S.rf

-- RecordShelfModel.drop(II)Z
theorem dX8_drop_0 : decode cX8_drop 0 = .ok (.aload_n 0, 1) := by decide +kernel
theorem dX8_drop_1 : decode cX8_drop 1 = .ok (.iload_n 1, 1) := by decide +kernel
theorem dX8_drop_2 : decode cX8_drop 2 = .ok (.iload_n 2, 1) := by decide +kernel
theorem dX8_drop_3 : decode cX8_drop 3 = .ok (.invokevirtual 128, 3) := by decide +kernel
theorem dX8_drop_6 : decode cX8_drop 6 = .ok (.ifCond .ne 5, 3) := by decide +kernel
theorem dX8_drop_9 : decode cX8_drop 9 = .ok (.iconst 0, 1) := by decide +kernel
theorem dX8_drop_10 : decode cX8_drop 10 = .ok (.ireturn, 1) := by decide +kernel
theorem dX8_drop_11 : decode cX8_drop 11 = .ok (.bipush 8, 2) := by decide +kernel
theorem dX8_drop_13 : decode cX8_drop 13 = .ok (.iload_n 1, 1) := by decide +kernel
theorem dX8_drop_14 : decode cX8_drop 14 = .ok (.imul, 1) := by decide +kernel
theorem dX8_drop_15 : decode cX8_drop 15 = .ok (.iload_n 2, 1) := by decide +kernel
theorem dX8_drop_16 : decode cX8_drop 16 = .ok (.iadd, 1) := by decide +kernel
theorem dX8_drop_17 : decode cX8_drop 17 = .ok (.istore_n 3, 1) := by decide +kernel
theorem dX8_drop_18 : decode cX8_drop 18 = .ok (.iload_n 3, 1) := by decide +kernel
theorem dX8_drop_19 : decode cX8_drop 19 = .ok (.iconst 1, 1) := by decide +kernel
theorem dX8_drop_20 : decode cX8_drop 20 = .ok (.iadd, 1) := by decide +kernel
theorem dX8_drop_21 : decode cX8_drop 21 = .ok (.bipush 8, 2) := by decide +kernel
theorem dX8_drop_23 : decode cX8_drop 23 = .ok (.iload_n 1, 1) := by decide +kernel
theorem dX8_drop_24 : decode cX8_drop 24 = .ok (.imul, 1) := by decide +kernel
theorem dX8_drop_25 : decode cX8_drop 25 = .ok (.aload_n 0, 1) := by decide +kernel
theorem dX8_drop_26 : decode cX8_drop 26 = .ok (.getfield 16, 3) := by decide +kernel
theorem dX8_drop_29 : decode cX8_drop 29 = .ok (.iload_n 1, 1) := by decide +kernel
theorem dX8_drop_30 : decode cX8_drop 30 = .ok (.iaload, 1) := by decide +kernel
theorem dX8_drop_31 : decode cX8_drop 31 = .ok (.iadd, 1) := by decide +kernel
theorem dX8_drop_32 : decode cX8_drop 32 = .ok (.if_icmp .ge 159, 3) := by decide +kernel
theorem dX8_drop_35 : decode cX8_drop 35 = .ok (.aload_n 0, 1) := by decide +kernel
theorem dX8_drop_36 : decode cX8_drop 36 = .ok (.getfield 19, 3) := by decide +kernel
theorem dX8_drop_39 : decode cX8_drop 39 = .ok (.iload_n 3, 1) := by decide +kernel
theorem dX8_drop_40 : decode cX8_drop 40 = .ok (.aload_n 0, 1) := by decide +kernel
theorem dX8_drop_41 : decode cX8_drop 41 = .ok (.getfield 19, 3) := by decide +kernel
theorem dX8_drop_44 : decode cX8_drop 44 = .ok (.iload_n 3, 1) := by decide +kernel
theorem dX8_drop_45 : decode cX8_drop 45 = .ok (.iconst 1, 1) := by decide +kernel
theorem dX8_drop_46 : decode cX8_drop 46 = .ok (.iadd, 1) := by decide +kernel
theorem dX8_drop_47 : decode cX8_drop 47 = .ok (.iaload, 1) := by decide +kernel
theorem dX8_drop_48 : decode cX8_drop 48 = .ok (.iastore, 1) := by decide +kernel
theorem dX8_drop_49 : decode cX8_drop 49 = .ok (.aload_n 0, 1) := by decide +kernel
theorem dX8_drop_50 : decode cX8_drop 50 = .ok (.getfield 22, 3) := by decide +kernel
theorem dX8_drop_53 : decode cX8_drop 53 = .ok (.iload_n 3, 1) := by decide +kernel
theorem dX8_drop_54 : decode cX8_drop 54 = .ok (.aload_n 0, 1) := by decide +kernel
theorem dX8_drop_55 : decode cX8_drop 55 = .ok (.getfield 22, 3) := by decide +kernel
theorem dX8_drop_58 : decode cX8_drop 58 = .ok (.iload_n 3, 1) := by decide +kernel
theorem dX8_drop_59 : decode cX8_drop 59 = .ok (.iconst 1, 1) := by decide +kernel
theorem dX8_drop_60 : decode cX8_drop 60 = .ok (.iadd, 1) := by decide +kernel
theorem dX8_drop_61 : decode cX8_drop 61 = .ok (.iaload, 1) := by decide +kernel
theorem dX8_drop_62 : decode cX8_drop 62 = .ok (.iastore, 1) := by decide +kernel
theorem dX8_drop_63 : decode cX8_drop 63 = .ok (.aload_n 0, 1) := by decide +kernel
theorem dX8_drop_64 : decode cX8_drop 64 = .ok (.getfield 25, 3) := by decide +kernel
theorem dX8_drop_67 : decode cX8_drop 67 = .ok (.iload_n 3, 1) := by decide +kernel
theorem dX8_drop_68 : decode cX8_drop 68 = .ok (.aload_n 0, 1) := by decide +kernel
theorem dX8_drop_69 : decode cX8_drop 69 = .ok (.getfield 25, 3) := by decide +kernel
theorem dX8_drop_72 : decode cX8_drop 72 = .ok (.iload_n 3, 1) := by decide +kernel
theorem dX8_drop_73 : decode cX8_drop 73 = .ok (.iconst 1, 1) := by decide +kernel
theorem dX8_drop_74 : decode cX8_drop 74 = .ok (.iadd, 1) := by decide +kernel
theorem dX8_drop_75 : decode cX8_drop 75 = .ok (.iaload, 1) := by decide +kernel
theorem dX8_drop_76 : decode cX8_drop 76 = .ok (.iastore, 1) := by decide +kernel
theorem dX8_drop_77 : decode cX8_drop 77 = .ok (.aload_n 0, 1) := by decide +kernel
theorem dX8_drop_78 : decode cX8_drop 78 = .ok (.getfield 28, 3) := by decide +kernel
theorem dX8_drop_81 : decode cX8_drop 81 = .ok (.iload_n 3, 1) := by decide +kernel
theorem dX8_drop_82 : decode cX8_drop 82 = .ok (.aload_n 0, 1) := by decide +kernel
theorem dX8_drop_83 : decode cX8_drop 83 = .ok (.getfield 28, 3) := by decide +kernel
theorem dX8_drop_86 : decode cX8_drop 86 = .ok (.iload_n 3, 1) := by decide +kernel
theorem dX8_drop_87 : decode cX8_drop 87 = .ok (.iconst 1, 1) := by decide +kernel
theorem dX8_drop_88 : decode cX8_drop 88 = .ok (.iadd, 1) := by decide +kernel
theorem dX8_drop_89 : decode cX8_drop 89 = .ok (.iaload, 1) := by decide +kernel
theorem dX8_drop_90 : decode cX8_drop 90 = .ok (.iastore, 1) := by decide +kernel
theorem dX8_drop_91 : decode cX8_drop 91 = .ok (.iconst 4, 1) := by decide +kernel
theorem dX8_drop_92 : decode cX8_drop 92 = .ok (.iload_n 3, 1) := by decide +kernel
theorem dX8_drop_93 : decode cX8_drop 93 = .ok (.imul, 1) := by decide +kernel
theorem dX8_drop_94 : decode cX8_drop 94 = .ok (.istore 4, 2) := by decide +kernel
theorem dX8_drop_96 : decode cX8_drop 96 = .ok (.iload 4, 2) := by decide +kernel
theorem dX8_drop_98 : decode cX8_drop 98 = .ok (.iconst 4, 1) := by decide +kernel
theorem dX8_drop_99 : decode cX8_drop 99 = .ok (.iload_n 3, 1) := by decide +kernel
theorem dX8_drop_100 : decode cX8_drop 100 = .ok (.imul, 1) := by decide +kernel
theorem dX8_drop_101 : decode cX8_drop 101 = .ok (.iconst 4, 1) := by decide +kernel
theorem dX8_drop_102 : decode cX8_drop 102 = .ok (.iadd, 1) := by decide +kernel
theorem dX8_drop_103 : decode cX8_drop 103 = .ok (.if_icmp .ge 41, 3) := by decide +kernel
theorem dX8_drop_106 : decode cX8_drop 106 = .ok (.aload_n 0, 1) := by decide +kernel
theorem dX8_drop_107 : decode cX8_drop 107 = .ok (.getfield 31, 3) := by decide +kernel
theorem dX8_drop_110 : decode cX8_drop 110 = .ok (.iload 4, 2) := by decide +kernel
theorem dX8_drop_112 : decode cX8_drop 112 = .ok (.aload_n 0, 1) := by decide +kernel
theorem dX8_drop_113 : decode cX8_drop 113 = .ok (.getfield 31, 3) := by decide +kernel
theorem dX8_drop_116 : decode cX8_drop 116 = .ok (.iload 4, 2) := by decide +kernel
theorem dX8_drop_118 : decode cX8_drop 118 = .ok (.iconst 4, 1) := by decide +kernel
theorem dX8_drop_119 : decode cX8_drop 119 = .ok (.iadd, 1) := by decide +kernel
theorem dX8_drop_120 : decode cX8_drop 120 = .ok (.iaload, 1) := by decide +kernel
theorem dX8_drop_121 : decode cX8_drop 121 = .ok (.iastore, 1) := by decide +kernel
theorem dX8_drop_122 : decode cX8_drop 122 = .ok (.aload_n 0, 1) := by decide +kernel
theorem dX8_drop_123 : decode cX8_drop 123 = .ok (.getfield 34, 3) := by decide +kernel
theorem dX8_drop_126 : decode cX8_drop 126 = .ok (.iload 4, 2) := by decide +kernel
theorem dX8_drop_128 : decode cX8_drop 128 = .ok (.aload_n 0, 1) := by decide +kernel
theorem dX8_drop_129 : decode cX8_drop 129 = .ok (.getfield 34, 3) := by decide +kernel
theorem dX8_drop_132 : decode cX8_drop 132 = .ok (.iload 4, 2) := by decide +kernel
theorem dX8_drop_134 : decode cX8_drop 134 = .ok (.iconst 4, 1) := by decide +kernel
theorem dX8_drop_135 : decode cX8_drop 135 = .ok (.iadd, 1) := by decide +kernel
theorem dX8_drop_136 : decode cX8_drop 136 = .ok (.iaload, 1) := by decide +kernel
theorem dX8_drop_137 : decode cX8_drop 137 = .ok (.iastore, 1) := by decide +kernel
theorem dX8_drop_138 : decode cX8_drop 138 = .ok (.iinc 4 1, 3) := by decide +kernel
theorem dX8_drop_141 : decode cX8_drop 141 = .ok (.goto (-45), 3) := by decide +kernel
theorem dX8_drop_144 : decode cX8_drop 144 = .ok (.bipush 80, 2) := by decide +kernel
theorem dX8_drop_146 : decode cX8_drop 146 = .ok (.iload_n 3, 1) := by decide +kernel
theorem dX8_drop_147 : decode cX8_drop 147 = .ok (.imul, 1) := by decide +kernel
theorem dX8_drop_148 : decode cX8_drop 148 = .ok (.istore 4, 2) := by decide +kernel
theorem dX8_drop_150 : decode cX8_drop 150 = .ok (.iload 4, 2) := by decide +kernel
theorem dX8_drop_152 : decode cX8_drop 152 = .ok (.bipush 80, 2) := by decide +kernel
theorem dX8_drop_154 : decode cX8_drop 154 = .ok (.iload_n 3, 1) := by decide +kernel
theorem dX8_drop_155 : decode cX8_drop 155 = .ok (.imul, 1) := by decide +kernel
theorem dX8_drop_156 : decode cX8_drop 156 = .ok (.bipush 80, 2) := by decide +kernel
theorem dX8_drop_158 : decode cX8_drop 158 = .ok (.iadd, 1) := by decide +kernel
theorem dX8_drop_159 : decode cX8_drop 159 = .ok (.if_icmp .ge 26, 3) := by decide +kernel
theorem dX8_drop_162 : decode cX8_drop 162 = .ok (.aload_n 0, 1) := by decide +kernel
theorem dX8_drop_163 : decode cX8_drop 163 = .ok (.getfield 37, 3) := by decide +kernel
theorem dX8_drop_166 : decode cX8_drop 166 = .ok (.iload 4, 2) := by decide +kernel
theorem dX8_drop_168 : decode cX8_drop 168 = .ok (.aload_n 0, 1) := by decide +kernel
theorem dX8_drop_169 : decode cX8_drop 169 = .ok (.getfield 37, 3) := by decide +kernel
theorem dX8_drop_172 : decode cX8_drop 172 = .ok (.iload 4, 2) := by decide +kernel
theorem dX8_drop_174 : decode cX8_drop 174 = .ok (.bipush 80, 2) := by decide +kernel
theorem dX8_drop_176 : decode cX8_drop 176 = .ok (.iadd, 1) := by decide +kernel
theorem dX8_drop_177 : decode cX8_drop 177 = .ok (.iaload, 1) := by decide +kernel
theorem dX8_drop_178 : decode cX8_drop 178 = .ok (.iastore, 1) := by decide +kernel
theorem dX8_drop_179 : decode cX8_drop 179 = .ok (.iinc 4 1, 3) := by decide +kernel
theorem dX8_drop_182 : decode cX8_drop 182 = .ok (.goto (-32), 3) := by decide +kernel
theorem dX8_drop_185 : decode cX8_drop 185 = .ok (.iinc 3 1, 3) := by decide +kernel
theorem dX8_drop_188 : decode cX8_drop 188 = .ok (.goto (-170), 3) := by decide +kernel
theorem dX8_drop_191 : decode cX8_drop 191 = .ok (.aload_n 0, 1) := by decide +kernel
theorem dX8_drop_192 : decode cX8_drop 192 = .ok (.getfield 16, 3) := by decide +kernel
theorem dX8_drop_195 : decode cX8_drop 195 = .ok (.iload_n 1, 1) := by decide +kernel
theorem dX8_drop_196 : decode cX8_drop 196 = .ok (.dup2, 1) := by decide +kernel
theorem dX8_drop_197 : decode cX8_drop 197 = .ok (.iaload, 1) := by decide +kernel
theorem dX8_drop_198 : decode cX8_drop 198 = .ok (.iconst 1, 1) := by decide +kernel
theorem dX8_drop_199 : decode cX8_drop 199 = .ok (.isub, 1) := by decide +kernel
theorem dX8_drop_200 : decode cX8_drop 200 = .ok (.iastore, 1) := by decide +kernel
theorem dX8_drop_201 : decode cX8_drop 201 = .ok (.iconst 1, 1) := by decide +kernel
theorem dX8_drop_202 : decode cX8_drop 202 = .ok (.ireturn, 1) := by decide +kernel
def rm_X8_drop : Room := { frames := 2, cells := 0, slots := 0, locals := 43 }
def fn_X8_drop_B150b (b : Nat) (z18 : Sg → Int32 → Int32 → Option (Int32 × Sg)) (z150 : Sg → Int32 → Int32 → Int32 → Option (Int32 × Sg)) (σ : Sg) (x1 : Int32) (x3 : Int32) (x4 : Int32) : Option (Int32 × Sg) :=
  (if (((80 * x3) + 80) : Int32) ≤ x4 then
  (sg_lt (x3 + 1 : Int32) fun v1 =>
  z18 σ x1 v1)
  else (if sg_ib (x4 + 80) 3840 then
  (if sg_ib x4 3840 then
  (sg_lt (sg_w σ (b + 10) (sg_x x4) (σ.1 (b + 10) (sg_x (x4 + 80)))) fun σ2 =>
  (sg_lt (x4 + 1 : Int32) fun v3 =>
  z150 σ2 x1 x3 v3))
  else none)
  else none))
def fn_X8_drop_B150 (b : Nat) (z18 : Sg → Int32 → Int32 → Option (Int32 × Sg)) : Nat → Sg → Int32 → Int32 → Int32 → Option (Int32 × Sg)
  | 0 => fun _ _ _ _ => none
  | n + 1 => fun σ x1 x3 x4 => fn_X8_drop_B150b b z18 (fn_X8_drop_B150 b z18 n) σ x1 x3 x4
set_option maxHeartbeats 4000000 in
set_option maxRecDepth 100000 in
theorem w_X8_drop_B150b {p : Program} {l : Launch} {e : Env} {s : State} {m : MethodId} {args : Array Value} {below : List Frame} {meth : Method} {c : Code} {Q : State → Prop} {D : va_G} {κ : Nat → ClassId} {b : Nat} {H0 : Heap} {rr : Int32 × Sg} (hZ : sg_Z p c s m args D κ cX8_drop 5 RX8 wsX8_drop) (hret : ∀ (v : Int32) (u : Sg) (H : Heap) (locs : List Loc) (pc : Nat) (ls : Array Slot), some (v, u) = some rr → narrow .boolean (.int v) = .int v → MW D κ b u H → va_S (sg_A b 16) H0 H locs → decode cX8_drop pc = .ok (.ireturn, 1) → W p l e rm_X8_drop s m args below meth c H locs 0 0 Q (F0 m pc ls [.int v])) {z18 : Sg → Int32 → Int32 → Option (Int32 × Sg)} (hr18 : ∀ {σ : Sg} {x1 : Int32} {x3 : Int32} {H : Heap} {locs : List Loc} {ls : Array Slot}, z18 σ x1 x3 = some rr → lv_has ls 5 [(0, .ref b), (1, .int x1), (3, .int x3)] → MW D κ b σ H → va_S (sg_A b 16) H0 H locs → W p l e rm_X8_drop s m args below meth c H locs 0 0 Q (F0 m 18 ls [])) {z150 : Sg → Int32 → Int32 → Int32 → Option (Int32 × Sg)} (hr150 : ∀ {σ : Sg} {x1 : Int32} {x3 : Int32} {x4 : Int32} {H : Heap} {locs : List Loc} {ls : Array Slot}, z150 σ x1 x3 x4 = some rr → lv_has ls 5 [(0, .ref b), (1, .int x1), (3, .int x3), (4, .int x4)] → MW D κ b σ H → va_S (sg_A b 16) H0 H locs → W p l e rm_X8_drop s m args below meth c H locs 0 0 Q (F0 m 150 ls [])) : ∀ {σ : Sg} {x1 : Int32} {x3 : Int32} {x4 : Int32} {H : Heap} {locs : List Loc} {ls : Array Slot}, fn_X8_drop_B150b b z18 z150 σ x1 x3 x4 = some rr → lv_has ls 5 [(0, .ref b), (1, .int x1), (3, .int x3), (4, .int x4)] → MW D κ b σ H → va_S (sg_A b 16) H0 H locs → W p l e rm_X8_drop s m args below meth c H locs 0 0 Q (F0 m 150 ls []) := by
  obtain ⟨hx, hb, hml, hown, hts, hK⟩ := hZ
  intro σ x1 x3 x4 H locs ls h hl hC hS
  unfold fn_X8_drop_B150b at h
  refine lv_iload hx hb dX8_drop_150 (lv_at hl 3 rfl) ?_
  refine lv_bipush (v := 80) hx hb dX8_drop_152 (by decide) ?_
  refine lv_iload_n hx hb dX8_drop_154 rfl (lv_at hl 2 rfl) ?_
  refine lv_imul hx hb dX8_drop_155 ?_
  refine lv_bipush (v := 80) hx hb dX8_drop_156 (by decide) ?_
  refine lv_iadd hx hb dX8_drop_158 ?_
  refine lv_icmp_ge (tgt := 185) hx hb dX8_drop_159 (by decide) (fun hc => ?_) (fun hc => ?_)
  · replace h := (if_pos hc).symm.trans h
    obtain ⟨v1, ev1, h⟩ := sg_lte h
    refine lv_iinc (v := v1) (lv' := [(3, .int v1), (0, .ref b), (1, .int x1), (4, .int x4)]) (k := 2) hx hb dX8_drop_185 hl rfl (sg_inc (by decide) ev1) (by decide) rfl (fun ls hl => ?_)
    refine lv_goto (tgt := 18) hx hb dX8_drop_188 (by decide) ?_
    exact hr18 h (lv_sub hl [1, 2, 0] rfl) hC hS
  · replace h := (if_neg hc).symm.trans h
    refine lv_aload_n hx hb dX8_drop_162 rfl (lv_at hl 0 rfl) ?_
    refine va_get (D := D) (ci := 8) (v := .ref (b + 10)) (C := RX8) (T := TX8) (N := 21) hx hb hts (wqs inW_X8) hown hK.1 hC.1 (b - b) sg_gModel rfl 11 (by decide) (hts _ (wq wt_659)) (fun _ h9 => h9) rfl dX8_drop_163 ?_
    refine lv_iload hx hb dX8_drop_166 (lv_at hl 3 rfl) ?_
    refine lv_aload_n hx hb dX8_drop_168 rfl (lv_at hl 0 rfl) ?_
    refine va_get (D := D) (ci := 8) (v := .ref (b + 10)) (C := RX8) (T := TX8) (N := 21) hx hb hts (wqs inW_X8) hown hK.1 hC.1 (b - b) sg_gModel rfl 11 (by decide) (hts _ (wq wt_659)) (fun _ h9 => h9) rfl dX8_drop_169 ?_
    refine lv_iload hx hb dX8_drop_172 (lv_at hl 3 rfl) ?_
    refine lv_bipush (v := 80) hx hb dX8_drop_174 (by decide) ?_
    refine lv_iadd hx hb dX8_drop_176 ?_
    obtain ⟨hg, h⟩ := sg_gd h
    refine va_iald hx hb hK.1 hC.1 ((b + 10) - b) 0 sg_ga_characters rfl (sg_in hg) dX8_drop_177 ?_
    obtain ⟨hg, h⟩ := sg_gd h
    refine va_iast hx hb hK.1 hC.1 sg_D hS ((b + 10) - b) 0 sg_ga_characters rfl (sg_in hg) dX8_drop_178 (fun H locs hP _ hS => ?_)
    obtain ⟨σ2, eσ2, h⟩ := sg_lte h
    have hC : MW D κ b σ2 H := eσ2 ▸ MW_put (k := sg_x x4) (v := (σ.1 (b + 10) (sg_x (x4 + 80)))) hC sg_aa_characters (sg_ya_characters _ _) hP
    obtain ⟨v3, ev3, h⟩ := sg_lte h
    refine lv_iinc (v := v3) (lv' := [(4, .int v3), (0, .ref b), (1, .int x1), (3, .int x3)]) (k := 3) hx hb dX8_drop_179 hl rfl (sg_inc (by decide) ev3) (by decide) rfl (fun ls hl => ?_)
    refine lv_goto (tgt := 150) hx hb dX8_drop_182 (by decide) ?_
    exact hr150 h (lv_sub hl [1, 2, 3, 0] rfl) hC hS
set_option maxHeartbeats 4000000 in
theorem w_X8_drop_B150 {p : Program} {l : Launch} {e : Env} {s : State} {m : MethodId} {args : Array Value} {below : List Frame} {meth : Method} {c : Code} {Q : State → Prop} {D : va_G} {κ : Nat → ClassId} {b : Nat} {H0 : Heap} {rr : Int32 × Sg} (hZ : sg_Z p c s m args D κ cX8_drop 5 RX8 wsX8_drop) (hret : ∀ (v : Int32) (u : Sg) (H : Heap) (locs : List Loc) (pc : Nat) (ls : Array Slot), some (v, u) = some rr → narrow .boolean (.int v) = .int v → MW D κ b u H → va_S (sg_A b 16) H0 H locs → decode cX8_drop pc = .ok (.ireturn, 1) → W p l e rm_X8_drop s m args below meth c H locs 0 0 Q (F0 m pc ls [.int v])) {z18 : Sg → Int32 → Int32 → Option (Int32 × Sg)} (hr18 : ∀ {σ : Sg} {x1 : Int32} {x3 : Int32} {H : Heap} {locs : List Loc} {ls : Array Slot}, z18 σ x1 x3 = some rr → lv_has ls 5 [(0, .ref b), (1, .int x1), (3, .int x3)] → MW D κ b σ H → va_S (sg_A b 16) H0 H locs → W p l e rm_X8_drop s m args below meth c H locs 0 0 Q (F0 m 18 ls [])) : ∀ n : Nat, ∀ {σ : Sg} {x1 : Int32} {x3 : Int32} {x4 : Int32} {H : Heap} {locs : List Loc} {ls : Array Slot}, fn_X8_drop_B150 b z18 n σ x1 x3 x4 = some rr → lv_has ls 5 [(0, .ref b), (1, .int x1), (3, .int x3), (4, .int x4)] → MW D κ b σ H → va_S (sg_A b 16) H0 H locs → W p l e rm_X8_drop s m args below meth c H locs 0 0 Q (F0 m 150 ls []) := by
  intro n
  induction n with
  | zero => intro σ x1 x3 x4 H locs ls h hl hC hS; cases (show (none : Option (Int32 × Sg)) = some rr from h)
  | succ n ih =>
    intro σ x1 x3 x4 H locs ls h hl hC hS
    exact w_X8_drop_B150b hZ hret hr18 ih (show fn_X8_drop_B150b b z18 (fn_X8_drop_B150 b z18 n) σ x1 x3 x4 = some rr from h)  hl hC hS
def fn_X8_drop_B96b (b : Nat) (z18 : Sg → Int32 → Int32 → Option (Int32 × Sg)) (z96 : Sg → Int32 → Int32 → Int32 → Option (Int32 × Sg)) (σ : Sg) (x1 : Int32) (x3 : Int32) (x4 : Int32) : Option (Int32 × Sg) :=
  (if (((4 * x3) + 4) : Int32) ≤ x4 then
  (sg_lt ((80 * x3) : Int32) fun v1 =>
  fn_X8_drop_B150 b z18 sg_N σ x1 x3 v1)
  else (if sg_ib (x4 + 4) 192 then
  (if sg_ib x4 192 then
  (sg_lt (sg_w σ (b + 8) (sg_x x4) (σ.1 (b + 8) (sg_x (x4 + 4)))) fun σ2 =>
  (if sg_ib (x4 + 4) 192 then
  (if sg_ib x4 192 then
  (sg_lt (sg_w σ2 (b + 9) (sg_x x4) (σ2.1 (b + 9) (sg_x (x4 + 4)))) fun σ3 =>
  (sg_lt (x4 + 1 : Int32) fun v4 =>
  z96 σ3 x1 x3 v4))
  else none)
  else none))
  else none)
  else none))
def fn_X8_drop_B96 (b : Nat) (z18 : Sg → Int32 → Int32 → Option (Int32 × Sg)) : Nat → Sg → Int32 → Int32 → Int32 → Option (Int32 × Sg)
  | 0 => fun _ _ _ _ => none
  | n + 1 => fun σ x1 x3 x4 => fn_X8_drop_B96b b z18 (fn_X8_drop_B96 b z18 n) σ x1 x3 x4
set_option maxHeartbeats 4000000 in
set_option maxRecDepth 100000 in
theorem w_X8_drop_B96b {p : Program} {l : Launch} {e : Env} {s : State} {m : MethodId} {args : Array Value} {below : List Frame} {meth : Method} {c : Code} {Q : State → Prop} {D : va_G} {κ : Nat → ClassId} {b : Nat} {H0 : Heap} {rr : Int32 × Sg} (hZ : sg_Z p c s m args D κ cX8_drop 5 RX8 wsX8_drop) (hret : ∀ (v : Int32) (u : Sg) (H : Heap) (locs : List Loc) (pc : Nat) (ls : Array Slot), some (v, u) = some rr → narrow .boolean (.int v) = .int v → MW D κ b u H → va_S (sg_A b 16) H0 H locs → decode cX8_drop pc = .ok (.ireturn, 1) → W p l e rm_X8_drop s m args below meth c H locs 0 0 Q (F0 m pc ls [.int v])) {z18 : Sg → Int32 → Int32 → Option (Int32 × Sg)} (hr18 : ∀ {σ : Sg} {x1 : Int32} {x3 : Int32} {H : Heap} {locs : List Loc} {ls : Array Slot}, z18 σ x1 x3 = some rr → lv_has ls 5 [(0, .ref b), (1, .int x1), (3, .int x3)] → MW D κ b σ H → va_S (sg_A b 16) H0 H locs → W p l e rm_X8_drop s m args below meth c H locs 0 0 Q (F0 m 18 ls [])) {z96 : Sg → Int32 → Int32 → Int32 → Option (Int32 × Sg)} (hr96 : ∀ {σ : Sg} {x1 : Int32} {x3 : Int32} {x4 : Int32} {H : Heap} {locs : List Loc} {ls : Array Slot}, z96 σ x1 x3 x4 = some rr → lv_has ls 5 [(0, .ref b), (1, .int x1), (3, .int x3), (4, .int x4)] → MW D κ b σ H → va_S (sg_A b 16) H0 H locs → W p l e rm_X8_drop s m args below meth c H locs 0 0 Q (F0 m 96 ls [])) : ∀ {σ : Sg} {x1 : Int32} {x3 : Int32} {x4 : Int32} {H : Heap} {locs : List Loc} {ls : Array Slot}, fn_X8_drop_B96b b z18 z96 σ x1 x3 x4 = some rr → lv_has ls 5 [(0, .ref b), (1, .int x1), (3, .int x3), (4, .int x4)] → MW D κ b σ H → va_S (sg_A b 16) H0 H locs → W p l e rm_X8_drop s m args below meth c H locs 0 0 Q (F0 m 96 ls []) := by
  obtain ⟨hx, hb, hml, hown, hts, hK⟩ := hZ
  intro σ x1 x3 x4 H locs ls h hl hC hS
  unfold fn_X8_drop_B96b at h
  refine lv_iload hx hb dX8_drop_96 (lv_at hl 3 rfl) ?_
  refine lv_iconst (v := 4) hx hb dX8_drop_98 (by decide) ?_
  refine lv_iload_n hx hb dX8_drop_99 rfl (lv_at hl 2 rfl) ?_
  refine lv_imul hx hb dX8_drop_100 ?_
  refine lv_iconst (v := 4) hx hb dX8_drop_101 (by decide) ?_
  refine lv_iadd hx hb dX8_drop_102 ?_
  refine lv_icmp_ge (tgt := 144) hx hb dX8_drop_103 (by decide) (fun hc => ?_) (fun hc => ?_)
  · replace h := (if_pos hc).symm.trans h
    refine lv_bipush (v := 80) hx hb dX8_drop_144 (by decide) ?_
    refine lv_iload_n hx hb dX8_drop_146 rfl (lv_at hl 2 rfl) ?_
    refine lv_imul hx hb dX8_drop_147 ?_
    obtain ⟨v1, ev1, h⟩ := sg_lte h
    refine sg_topi ev1 ?_
    refine lv_istore (lv' := [(4, .int v1), (0, .ref b), (1, .int x1), (3, .int x3)]) hx hb dX8_drop_148 hl (by decide) rfl (fun ls hl => ?_)
    exact w_X8_drop_B150 ⟨hx, hb, hml, hown, hts, hK⟩ hret hr18 sg_N h (lv_sub hl [1, 2, 3, 0] rfl) hC hS
  · replace h := (if_neg hc).symm.trans h
    refine lv_aload_n hx hb dX8_drop_106 rfl (lv_at hl 0 rfl) ?_
    refine va_get (D := D) (ci := 8) (v := .ref (b + 8)) (C := RX8) (T := TX8) (N := 21) hx hb hts (wqs inW_X8) hown hK.1 hC.1 (b - b) sg_gModel rfl 9 (by decide) (hts _ (wq wt_657)) (fun _ h9 => h9) rfl dX8_drop_107 ?_
    refine lv_iload hx hb dX8_drop_110 (lv_at hl 3 rfl) ?_
    refine lv_aload_n hx hb dX8_drop_112 rfl (lv_at hl 0 rfl) ?_
    refine va_get (D := D) (ci := 8) (v := .ref (b + 8)) (C := RX8) (T := TX8) (N := 21) hx hb hts (wqs inW_X8) hown hK.1 hC.1 (b - b) sg_gModel rfl 9 (by decide) (hts _ (wq wt_657)) (fun _ h9 => h9) rfl dX8_drop_113 ?_
    refine lv_iload hx hb dX8_drop_116 (lv_at hl 3 rfl) ?_
    refine lv_iconst (v := 4) hx hb dX8_drop_118 (by decide) ?_
    refine lv_iadd hx hb dX8_drop_119 ?_
    obtain ⟨hg, h⟩ := sg_gd h
    refine va_iald hx hb hK.1 hC.1 ((b + 8) - b) 0 sg_ga_codes rfl (sg_in hg) dX8_drop_120 ?_
    obtain ⟨hg, h⟩ := sg_gd h
    refine va_iast hx hb hK.1 hC.1 sg_D hS ((b + 8) - b) 0 sg_ga_codes rfl (sg_in hg) dX8_drop_121 (fun H locs hP _ hS => ?_)
    obtain ⟨σ2, eσ2, h⟩ := sg_lte h
    have hC : MW D κ b σ2 H := eσ2 ▸ MW_put (k := sg_x x4) (v := (σ.1 (b + 8) (sg_x (x4 + 4)))) hC sg_aa_codes (sg_ya_codes _ _) hP
    refine lv_aload_n hx hb dX8_drop_122 rfl (lv_at hl 0 rfl) ?_
    refine va_get (D := D) (ci := 8) (v := .ref (b + 9)) (C := RX8) (T := TX8) (N := 21) hx hb hts (wqs inW_X8) hown hK.1 hC.1 (b - b) sg_gModel rfl 10 (by decide) (hts _ (wq wt_658)) (fun _ h9 => h9) rfl dX8_drop_123 ?_
    refine lv_iload hx hb dX8_drop_126 (lv_at hl 3 rfl) ?_
    refine lv_aload_n hx hb dX8_drop_128 rfl (lv_at hl 0 rfl) ?_
    refine va_get (D := D) (ci := 8) (v := .ref (b + 9)) (C := RX8) (T := TX8) (N := 21) hx hb hts (wqs inW_X8) hown hK.1 hC.1 (b - b) sg_gModel rfl 10 (by decide) (hts _ (wq wt_658)) (fun _ h9 => h9) rfl dX8_drop_129 ?_
    refine lv_iload hx hb dX8_drop_132 (lv_at hl 3 rfl) ?_
    refine lv_iconst (v := 4) hx hb dX8_drop_134 (by decide) ?_
    refine lv_iadd hx hb dX8_drop_135 ?_
    obtain ⟨hg, h⟩ := sg_gd h
    refine va_iald hx hb hK.1 hC.1 ((b + 9) - b) 0 sg_ga_sizes rfl (sg_in hg) dX8_drop_136 ?_
    obtain ⟨hg, h⟩ := sg_gd h
    refine va_iast hx hb hK.1 hC.1 sg_D hS ((b + 9) - b) 0 sg_ga_sizes rfl (sg_in hg) dX8_drop_137 (fun H locs hP _ hS => ?_)
    obtain ⟨σ3, eσ3, h⟩ := sg_lte h
    have hC : MW D κ b σ3 H := eσ3 ▸ MW_put (k := sg_x x4) (v := (σ2.1 (b + 9) (sg_x (x4 + 4)))) hC sg_aa_sizes (sg_ya_sizes _ _) hP
    obtain ⟨v4, ev4, h⟩ := sg_lte h
    refine lv_iinc (v := v4) (lv' := [(4, .int v4), (0, .ref b), (1, .int x1), (3, .int x3)]) (k := 3) hx hb dX8_drop_138 hl rfl (sg_inc (by decide) ev4) (by decide) rfl (fun ls hl => ?_)
    refine lv_goto (tgt := 96) hx hb dX8_drop_141 (by decide) ?_
    exact hr96 h (lv_sub hl [1, 2, 3, 0] rfl) hC hS
set_option maxHeartbeats 4000000 in
theorem w_X8_drop_B96 {p : Program} {l : Launch} {e : Env} {s : State} {m : MethodId} {args : Array Value} {below : List Frame} {meth : Method} {c : Code} {Q : State → Prop} {D : va_G} {κ : Nat → ClassId} {b : Nat} {H0 : Heap} {rr : Int32 × Sg} (hZ : sg_Z p c s m args D κ cX8_drop 5 RX8 wsX8_drop) (hret : ∀ (v : Int32) (u : Sg) (H : Heap) (locs : List Loc) (pc : Nat) (ls : Array Slot), some (v, u) = some rr → narrow .boolean (.int v) = .int v → MW D κ b u H → va_S (sg_A b 16) H0 H locs → decode cX8_drop pc = .ok (.ireturn, 1) → W p l e rm_X8_drop s m args below meth c H locs 0 0 Q (F0 m pc ls [.int v])) {z18 : Sg → Int32 → Int32 → Option (Int32 × Sg)} (hr18 : ∀ {σ : Sg} {x1 : Int32} {x3 : Int32} {H : Heap} {locs : List Loc} {ls : Array Slot}, z18 σ x1 x3 = some rr → lv_has ls 5 [(0, .ref b), (1, .int x1), (3, .int x3)] → MW D κ b σ H → va_S (sg_A b 16) H0 H locs → W p l e rm_X8_drop s m args below meth c H locs 0 0 Q (F0 m 18 ls [])) : ∀ n : Nat, ∀ {σ : Sg} {x1 : Int32} {x3 : Int32} {x4 : Int32} {H : Heap} {locs : List Loc} {ls : Array Slot}, fn_X8_drop_B96 b z18 n σ x1 x3 x4 = some rr → lv_has ls 5 [(0, .ref b), (1, .int x1), (3, .int x3), (4, .int x4)] → MW D κ b σ H → va_S (sg_A b 16) H0 H locs → W p l e rm_X8_drop s m args below meth c H locs 0 0 Q (F0 m 96 ls []) := by
  intro n
  induction n with
  | zero => intro σ x1 x3 x4 H locs ls h hl hC hS; cases (show (none : Option (Int32 × Sg)) = some rr from h)
  | succ n ih =>
    intro σ x1 x3 x4 H locs ls h hl hC hS
    exact w_X8_drop_B96b hZ hret hr18 ih (show fn_X8_drop_B96b b z18 (fn_X8_drop_B96 b z18 n) σ x1 x3 x4 = some rr from h)  hl hC hS
def fn_X8_drop_B18b (b : Nat) (z18 : Sg → Int32 → Int32 → Option (Int32 × Sg)) (σ : Sg) (x1 : Int32) (x3 : Int32) : Option (Int32 × Sg) :=
  (if sg_ib x1 6 then
  (if (((8 * x1) + (σ.1 (b + 3) (sg_x x1))) : Int32) ≤ (x3 + 1) then
  (if sg_ib x1 6 then
  (if sg_ib x1 6 then
  (sg_lt (sg_w σ (b + 3) (sg_x x1) ((σ.1 (b + 3) (sg_x x1)) - 1)) fun σ1 =>
  some (1, σ1))
  else none)
  else none)
  else (if sg_ib (x3 + 1) 48 then
  (if sg_ib x3 48 then
  (sg_lt (sg_w σ (b + 4) (sg_x x3) (σ.1 (b + 4) (sg_x (x3 + 1)))) fun σ2 =>
  (if sg_ib (x3 + 1) 48 then
  (if sg_ib x3 48 then
  (sg_lt (sg_w σ2 (b + 5) (sg_x x3) (σ2.1 (b + 5) (sg_x (x3 + 1)))) fun σ3 =>
  (if sg_ib (x3 + 1) 48 then
  (if sg_ib x3 48 then
  (sg_lt (sg_w σ3 (b + 6) (sg_x x3) (σ3.1 (b + 6) (sg_x (x3 + 1)))) fun σ4 =>
  (if sg_ib (x3 + 1) 48 then
  (if sg_ib x3 48 then
  (sg_lt (sg_w σ4 (b + 7) (sg_x x3) (σ4.1 (b + 7) (sg_x (x3 + 1)))) fun σ5 =>
  (sg_lt ((4 * x3) : Int32) fun v6 =>
  fn_X8_drop_B96 b z18 sg_N σ5 x1 x3 v6))
  else none)
  else none))
  else none)
  else none))
  else none)
  else none))
  else none)
  else none))
  else none)
def fn_X8_drop_B18 (b : Nat) : Nat → Sg → Int32 → Int32 → Option (Int32 × Sg)
  | 0 => fun _ _ _ => none
  | n + 1 => fun σ x1 x3 => fn_X8_drop_B18b b (fn_X8_drop_B18 b n) σ x1 x3
set_option maxHeartbeats 4000000 in
set_option maxRecDepth 100000 in
theorem w_X8_drop_B18b {p : Program} {l : Launch} {e : Env} {s : State} {m : MethodId} {args : Array Value} {below : List Frame} {meth : Method} {c : Code} {Q : State → Prop} {D : va_G} {κ : Nat → ClassId} {b : Nat} {H0 : Heap} {rr : Int32 × Sg} (hZ : sg_Z p c s m args D κ cX8_drop 5 RX8 wsX8_drop) (hret : ∀ (v : Int32) (u : Sg) (H : Heap) (locs : List Loc) (pc : Nat) (ls : Array Slot), some (v, u) = some rr → narrow .boolean (.int v) = .int v → MW D κ b u H → va_S (sg_A b 16) H0 H locs → decode cX8_drop pc = .ok (.ireturn, 1) → W p l e rm_X8_drop s m args below meth c H locs 0 0 Q (F0 m pc ls [.int v])) {z18 : Sg → Int32 → Int32 → Option (Int32 × Sg)} (hr18 : ∀ {σ : Sg} {x1 : Int32} {x3 : Int32} {H : Heap} {locs : List Loc} {ls : Array Slot}, z18 σ x1 x3 = some rr → lv_has ls 5 [(0, .ref b), (1, .int x1), (3, .int x3)] → MW D κ b σ H → va_S (sg_A b 16) H0 H locs → W p l e rm_X8_drop s m args below meth c H locs 0 0 Q (F0 m 18 ls [])) : ∀ {σ : Sg} {x1 : Int32} {x3 : Int32} {H : Heap} {locs : List Loc} {ls : Array Slot}, fn_X8_drop_B18b b z18 σ x1 x3 = some rr → lv_has ls 5 [(0, .ref b), (1, .int x1), (3, .int x3)] → MW D κ b σ H → va_S (sg_A b 16) H0 H locs → W p l e rm_X8_drop s m args below meth c H locs 0 0 Q (F0 m 18 ls []) := by
  obtain ⟨hx, hb, hml, hown, hts, hK⟩ := hZ
  intro σ x1 x3 H locs ls h hl hC hS
  unfold fn_X8_drop_B18b at h
  refine lv_iload_n hx hb dX8_drop_18 rfl (lv_at hl 2 rfl) ?_
  refine lv_iconst (v := 1) hx hb dX8_drop_19 (by decide) ?_
  refine lv_iadd hx hb dX8_drop_20 ?_
  refine lv_bipush (v := 8) hx hb dX8_drop_21 (by decide) ?_
  refine lv_iload_n hx hb dX8_drop_23 rfl (lv_at hl 1 rfl) ?_
  refine lv_imul hx hb dX8_drop_24 ?_
  refine lv_aload_n hx hb dX8_drop_25 rfl (lv_at hl 0 rfl) ?_
  refine va_get (D := D) (ci := 8) (v := .ref (b + 3)) (C := RX8) (T := TX8) (N := 21) hx hb hts (wqs inW_X8) hown hK.1 hC.1 (b - b) sg_gModel rfl 4 (by decide) (hts _ (wq wt_652)) (fun _ h9 => h9) rfl dX8_drop_26 ?_
  refine lv_iload_n hx hb dX8_drop_29 rfl (lv_at hl 1 rfl) ?_
  obtain ⟨hg, h⟩ := sg_gd h
  refine va_iald hx hb hK.1 hC.1 ((b + 3) - b) 0 sg_ga_fieldsOf rfl (sg_in hg) dX8_drop_30 ?_
  refine lv_iadd hx hb dX8_drop_31 ?_
  refine lv_icmp_ge (tgt := 191) hx hb dX8_drop_32 (by decide) (fun hc => ?_) (fun hc => ?_)
  · replace h := (if_pos hc).symm.trans h
    refine lv_aload_n hx hb dX8_drop_191 rfl (lv_at hl 0 rfl) ?_
    refine va_get (D := D) (ci := 8) (v := .ref (b + 3)) (C := RX8) (T := TX8) (N := 21) hx hb hts (wqs inW_X8) hown hK.1 hC.1 (b - b) sg_gModel rfl 4 (by decide) (hts _ (wq wt_652)) (fun _ h9 => h9) rfl dX8_drop_192 ?_
    refine lv_iload_n hx hb dX8_drop_195 rfl (lv_at hl 1 rfl) ?_
    refine lv_dup2_11 hx hb dX8_drop_196 rfl rfl ?_
    obtain ⟨hg, h⟩ := sg_gd h
    refine va_iald hx hb hK.1 hC.1 ((b + 3) - b) 0 sg_ga_fieldsOf rfl (sg_in hg) dX8_drop_197 ?_
    refine lv_iconst (v := 1) hx hb dX8_drop_198 (by decide) ?_
    refine lv_isub hx hb dX8_drop_199 ?_
    obtain ⟨hg, h⟩ := sg_gd h
    refine va_iast hx hb hK.1 hC.1 sg_D hS ((b + 3) - b) 0 sg_ga_fieldsOf rfl (sg_in hg) dX8_drop_200 (fun H locs hP _ hS => ?_)
    obtain ⟨σ1, eσ1, h⟩ := sg_lte h
    have hC : MW D κ b σ1 H := eσ1 ▸ MW_put (k := sg_x x1) (v := ((σ.1 (b + 3) (sg_x x1)) - 1)) hC sg_aa_fieldsOf (sg_ya_fieldsOf _ _) hP
    refine lv_iconst (v := 1) hx hb dX8_drop_201 (by decide) ?_
    exact hret _ _ _ _ _ _ h (by decide) hC hS dX8_drop_202
  · replace h := (if_neg hc).symm.trans h
    refine lv_aload_n hx hb dX8_drop_35 rfl (lv_at hl 0 rfl) ?_
    refine va_get (D := D) (ci := 8) (v := .ref (b + 4)) (C := RX8) (T := TX8) (N := 21) hx hb hts (wqs inW_X8) hown hK.1 hC.1 (b - b) sg_gModel rfl 5 (by decide) (hts _ (wq wt_653)) (fun _ h9 => h9) rfl dX8_drop_36 ?_
    refine lv_iload_n hx hb dX8_drop_39 rfl (lv_at hl 2 rfl) ?_
    refine lv_aload_n hx hb dX8_drop_40 rfl (lv_at hl 0 rfl) ?_
    refine va_get (D := D) (ci := 8) (v := .ref (b + 4)) (C := RX8) (T := TX8) (N := 21) hx hb hts (wqs inW_X8) hown hK.1 hC.1 (b - b) sg_gModel rfl 5 (by decide) (hts _ (wq wt_653)) (fun _ h9 => h9) rfl dX8_drop_41 ?_
    refine lv_iload_n hx hb dX8_drop_44 rfl (lv_at hl 2 rfl) ?_
    refine lv_iconst (v := 1) hx hb dX8_drop_45 (by decide) ?_
    refine lv_iadd hx hb dX8_drop_46 ?_
    obtain ⟨hg, h⟩ := sg_gd h
    refine va_iald hx hb hK.1 hC.1 ((b + 4) - b) 0 sg_ga_tags rfl (sg_in hg) dX8_drop_47 ?_
    obtain ⟨hg, h⟩ := sg_gd h
    refine va_iast hx hb hK.1 hC.1 sg_D hS ((b + 4) - b) 0 sg_ga_tags rfl (sg_in hg) dX8_drop_48 (fun H locs hP _ hS => ?_)
    obtain ⟨σ2, eσ2, h⟩ := sg_lte h
    have hC : MW D κ b σ2 H := eσ2 ▸ MW_put (k := sg_x x3) (v := (σ.1 (b + 4) (sg_x (x3 + 1)))) hC sg_aa_tags (sg_ya_tags _ _) hP
    refine lv_aload_n hx hb dX8_drop_49 rfl (lv_at hl 0 rfl) ?_
    refine va_get (D := D) (ci := 8) (v := .ref (b + 5)) (C := RX8) (T := TX8) (N := 21) hx hb hts (wqs inW_X8) hown hK.1 hC.1 (b - b) sg_gModel rfl 6 (by decide) (hts _ (wq wt_654)) (fun _ h9 => h9) rfl dX8_drop_50 ?_
    refine lv_iload_n hx hb dX8_drop_53 rfl (lv_at hl 2 rfl) ?_
    refine lv_aload_n hx hb dX8_drop_54 rfl (lv_at hl 0 rfl) ?_
    refine va_get (D := D) (ci := 8) (v := .ref (b + 5)) (C := RX8) (T := TX8) (N := 21) hx hb hts (wqs inW_X8) hown hK.1 hC.1 (b - b) sg_gModel rfl 6 (by decide) (hts _ (wq wt_654)) (fun _ h9 => h9) rfl dX8_drop_55 ?_
    refine lv_iload_n hx hb dX8_drop_58 rfl (lv_at hl 2 rfl) ?_
    refine lv_iconst (v := 1) hx hb dX8_drop_59 (by decide) ?_
    refine lv_iadd hx hb dX8_drop_60 ?_
    obtain ⟨hg, h⟩ := sg_gd h
    refine va_iald hx hb hK.1 hC.1 ((b + 5) - b) 0 sg_ga_firsts rfl (sg_in hg) dX8_drop_61 ?_
    obtain ⟨hg, h⟩ := sg_gd h
    refine va_iast hx hb hK.1 hC.1 sg_D hS ((b + 5) - b) 0 sg_ga_firsts rfl (sg_in hg) dX8_drop_62 (fun H locs hP _ hS => ?_)
    obtain ⟨σ3, eσ3, h⟩ := sg_lte h
    have hC : MW D κ b σ3 H := eσ3 ▸ MW_put (k := sg_x x3) (v := (σ2.1 (b + 5) (sg_x (x3 + 1)))) hC sg_aa_firsts (sg_ya_firsts _ _) hP
    refine lv_aload_n hx hb dX8_drop_63 rfl (lv_at hl 0 rfl) ?_
    refine va_get (D := D) (ci := 8) (v := .ref (b + 6)) (C := RX8) (T := TX8) (N := 21) hx hb hts (wqs inW_X8) hown hK.1 hC.1 (b - b) sg_gModel rfl 7 (by decide) (hts _ (wq wt_655)) (fun _ h9 => h9) rfl dX8_drop_64 ?_
    refine lv_iload_n hx hb dX8_drop_67 rfl (lv_at hl 2 rfl) ?_
    refine lv_aload_n hx hb dX8_drop_68 rfl (lv_at hl 0 rfl) ?_
    refine va_get (D := D) (ci := 8) (v := .ref (b + 6)) (C := RX8) (T := TX8) (N := 21) hx hb hts (wqs inW_X8) hown hK.1 hC.1 (b - b) sg_gModel rfl 7 (by decide) (hts _ (wq wt_655)) (fun _ h9 => h9) rfl dX8_drop_69 ?_
    refine lv_iload_n hx hb dX8_drop_72 rfl (lv_at hl 2 rfl) ?_
    refine lv_iconst (v := 1) hx hb dX8_drop_73 (by decide) ?_
    refine lv_iadd hx hb dX8_drop_74 ?_
    obtain ⟨hg, h⟩ := sg_gd h
    refine va_iald hx hb hK.1 hC.1 ((b + 6) - b) 0 sg_ga_seconds rfl (sg_in hg) dX8_drop_75 ?_
    obtain ⟨hg, h⟩ := sg_gd h
    refine va_iast hx hb hK.1 hC.1 sg_D hS ((b + 6) - b) 0 sg_ga_seconds rfl (sg_in hg) dX8_drop_76 (fun H locs hP _ hS => ?_)
    obtain ⟨σ4, eσ4, h⟩ := sg_lte h
    have hC : MW D κ b σ4 H := eσ4 ▸ MW_put (k := sg_x x3) (v := (σ3.1 (b + 6) (sg_x (x3 + 1)))) hC sg_aa_seconds (sg_ya_seconds _ _) hP
    refine lv_aload_n hx hb dX8_drop_77 rfl (lv_at hl 0 rfl) ?_
    refine va_get (D := D) (ci := 8) (v := .ref (b + 7)) (C := RX8) (T := TX8) (N := 21) hx hb hts (wqs inW_X8) hown hK.1 hC.1 (b - b) sg_gModel rfl 8 (by decide) (hts _ (wq wt_656)) (fun _ h9 => h9) rfl dX8_drop_78 ?_
    refine lv_iload_n hx hb dX8_drop_81 rfl (lv_at hl 2 rfl) ?_
    refine lv_aload_n hx hb dX8_drop_82 rfl (lv_at hl 0 rfl) ?_
    refine va_get (D := D) (ci := 8) (v := .ref (b + 7)) (C := RX8) (T := TX8) (N := 21) hx hb hts (wqs inW_X8) hown hK.1 hC.1 (b - b) sg_gModel rfl 8 (by decide) (hts _ (wq wt_656)) (fun _ h9 => h9) rfl dX8_drop_83 ?_
    refine lv_iload_n hx hb dX8_drop_86 rfl (lv_at hl 2 rfl) ?_
    refine lv_iconst (v := 1) hx hb dX8_drop_87 (by decide) ?_
    refine lv_iadd hx hb dX8_drop_88 ?_
    obtain ⟨hg, h⟩ := sg_gd h
    refine va_iald hx hb hK.1 hC.1 ((b + 7) - b) 0 sg_ga_subfields rfl (sg_in hg) dX8_drop_89 ?_
    obtain ⟨hg, h⟩ := sg_gd h
    refine va_iast hx hb hK.1 hC.1 sg_D hS ((b + 7) - b) 0 sg_ga_subfields rfl (sg_in hg) dX8_drop_90 (fun H locs hP _ hS => ?_)
    obtain ⟨σ5, eσ5, h⟩ := sg_lte h
    have hC : MW D κ b σ5 H := eσ5 ▸ MW_put (k := sg_x x3) (v := (σ4.1 (b + 7) (sg_x (x3 + 1)))) hC sg_aa_subfields (sg_ya_subfields _ _) hP
    refine lv_iconst (v := 4) hx hb dX8_drop_91 (by decide) ?_
    refine lv_iload_n hx hb dX8_drop_92 rfl (lv_at hl 2 rfl) ?_
    refine lv_imul hx hb dX8_drop_93 ?_
    obtain ⟨v6, ev6, h⟩ := sg_lte h
    refine sg_topi ev6 ?_
    refine lv_istore (lv' := [(4, .int v6), (0, .ref b), (1, .int x1), (3, .int x3)]) hx hb dX8_drop_94 hl (by decide) rfl (fun ls hl => ?_)
    exact w_X8_drop_B96 ⟨hx, hb, hml, hown, hts, hK⟩ hret hr18 sg_N h (lv_sub hl [1, 2, 3, 0] rfl) hC hS
set_option maxHeartbeats 4000000 in
theorem w_X8_drop_B18 {p : Program} {l : Launch} {e : Env} {s : State} {m : MethodId} {args : Array Value} {below : List Frame} {meth : Method} {c : Code} {Q : State → Prop} {D : va_G} {κ : Nat → ClassId} {b : Nat} {H0 : Heap} {rr : Int32 × Sg} (hZ : sg_Z p c s m args D κ cX8_drop 5 RX8 wsX8_drop) (hret : ∀ (v : Int32) (u : Sg) (H : Heap) (locs : List Loc) (pc : Nat) (ls : Array Slot), some (v, u) = some rr → narrow .boolean (.int v) = .int v → MW D κ b u H → va_S (sg_A b 16) H0 H locs → decode cX8_drop pc = .ok (.ireturn, 1) → W p l e rm_X8_drop s m args below meth c H locs 0 0 Q (F0 m pc ls [.int v])) : ∀ n : Nat, ∀ {σ : Sg} {x1 : Int32} {x3 : Int32} {H : Heap} {locs : List Loc} {ls : Array Slot}, fn_X8_drop_B18 b n σ x1 x3 = some rr → lv_has ls 5 [(0, .ref b), (1, .int x1), (3, .int x3)] → MW D κ b σ H → va_S (sg_A b 16) H0 H locs → W p l e rm_X8_drop s m args below meth c H locs 0 0 Q (F0 m 18 ls []) := by
  intro n
  induction n with
  | zero => intro σ x1 x3 H locs ls h hl hC hS; cases (show (none : Option (Int32 × Sg)) = some rr from h)
  | succ n ih =>
    intro σ x1 x3 H locs ls h hl hC hS
    exact w_X8_drop_B18b hZ hret ih (show fn_X8_drop_B18b b (fn_X8_drop_B18 b n) σ x1 x3 = some rr from h)  hl hC hS
def fn_X8_drop (b : Nat) (σ : Sg) (x1 : Int32) (x2 : Int32) : Option (Int32 × Sg) :=
  ((fn_X8_isField b σ x1 x2).bind fun r1 =>
  (if r1 = 0 then
  some (0, σ)
  else (sg_lt (((8 * x1) + x2) : Int32) fun v2 =>
  fn_X8_drop_B18 b sg_N σ x1 v2)))
set_option maxHeartbeats 4000000 in
set_option maxRecDepth 100000 in
theorem w_X8_drop_B0 {p : Program} {l : Launch} {e : Env} {s : State} {m : MethodId} {args : Array Value} {below : List Frame} {meth : Method} {c : Code} {Q : State → Prop} {D : va_G} {κ : Nat → ClassId} {b : Nat} {H0 : Heap} {rr : Int32 × Sg} (hZ : sg_Z p c s m args D κ cX8_drop 5 RX8 wsX8_drop) (hret : ∀ (v : Int32) (u : Sg) (H : Heap) (locs : List Loc) (pc : Nat) (ls : Array Slot), some (v, u) = some rr → narrow .boolean (.int v) = .int v → MW D κ b u H → va_S (sg_A b 16) H0 H locs → decode cX8_drop pc = .ok (.ireturn, 1) → W p l e rm_X8_drop s m args below meth c H locs 0 0 Q (F0 m pc ls [.int v])) : ∀ {σ : Sg} {x1 : Int32} {x2 : Int32} {H : Heap} {locs : List Loc} {ls : Array Slot}, fn_X8_drop b σ x1 x2 = some rr → lv_has ls 5 [(0, .ref b), (1, .int x1), (2, .int x2)] → MW D κ b σ H → va_S (sg_A b 16) H0 H locs → W p l e rm_X8_drop s m args below meth c H locs 0 0 Q (F0 m 0 ls []) := by
  obtain ⟨hx, hb, hml, hown, hts, hK⟩ := hZ
  intro σ x1 x2 H locs ls h hl hC hS
  unfold fn_X8_drop at h
  refine lv_aload_n hx hb dX8_drop_0 rfl (lv_at hl 0 rfl) ?_
  refine lv_iload_n hx hb dX8_drop_1 rfl (lv_at hl 1 rfl) ?_
  refine lv_iload_n hx hb dX8_drop_2 rfl (lv_at hl 2 rfl) ?_
  obtain ⟨r1, er1, h⟩ := Option.bind_eq_some_iff.mp h
  refine va_calli (va_runV (As := [.int x1, .int x2]) (rest := []) ⟨hx, hb, hml, hown, hts⟩ (c_X8_isField l D κ b σ x1 x2 _ er1) (cwV 2 hts (gwV wt_808 wt_810 wp_42 wt_9 wt_811) rfl rfl rfl (by decide +kernel) ⟨Nat.le_of_ble_eq_true rfl, Nat.le_of_ble_eq_true rfl⟩) (MW_preV hK hC sg_gModel rfl) rfl rfl hl.1 rfl (lv_room (Nat.le_of_ble_eq_true rfl)) dX8_drop_3 ⟨Nat.zero_le _, Nat.zero_le _⟩) hS (fun _ _ h => h) (fun _ h => h) (fun r u t H locs ht _ hp hB _ _ hS => ?_)
  refine sg_topi hp.1 ?_
  have hC : MW D κ b σ H := MW_b hB ht hp.2
  refine lv_if_ne (tgt := 11) hx hb dX8_drop_6 (by decide) (fun hc => ?_) (fun hc => ?_)
  · replace h := (if_neg hc).symm.trans h
    refine lv_bipush (v := 8) hx hb dX8_drop_11 (by decide) ?_
    refine lv_iload_n hx hb dX8_drop_13 rfl (lv_at hl 1 rfl) ?_
    refine lv_imul hx hb dX8_drop_14 ?_
    refine lv_iload_n hx hb dX8_drop_15 rfl (lv_at hl 2 rfl) ?_
    refine lv_iadd hx hb dX8_drop_16 ?_
    obtain ⟨v2, ev2, h⟩ := sg_lte h
    refine sg_topi ev2 ?_
    refine lv_istore_n (lv' := [(3, .int v2), (0, .ref b), (1, .int x1), (2, .int x2)]) hx hb dX8_drop_17 rfl hl (by decide) rfl (fun ls hl => ?_)
    exact w_X8_drop_B18 ⟨hx, hb, hml, hown, hts, hK⟩ hret  sg_N h (lv_sub hl [1, 2, 0] rfl) hC hS
  · replace h := (if_pos hc).symm.trans h
    refine lv_iconst (v := 0) hx hb dX8_drop_9 (by decide) ?_
    exact hret _ _ _ _ _ _ h (by decide) hC hS dX8_drop_10
set_option maxHeartbeats 4000000 in
set_option maxRecDepth 100000 in
theorem c_X8_drop (l : Launch) (D : va_G) (κ : Nat → ClassId) (b : Nat) (σ : Sg) (x1 : Int32) (x2 : Int32) (rr : Int32 × Sg)  (h : fn_X8_drop b σ x1 x2 = some rr) : Met l yX8_drop wsX8_drop rm_X8_drop (va_Pc [.ref b, .int x1, .int x2] (fun U => KK D κ U ∧ MW D κ b σ U.heap)) (va_Qi (fun (r : Int32) (u : Sg) => r = rr.1 ∧ u = rr.2) (fun u t => MW D κ b u t.heap) (sg_A b 16)) 0 0 (sg_A b 16) := by
  refine Met.ofW (cc := cX8_drop) (maxL := 5) (ret := (some .boolean)) (by decide) rfl ?_
  intro p e s m args below meth c s₁ B hml hv
  obtain ⟨rfl, hK, hC⟩ := hv
  have hr := B.returns
  have hlocks := B.notSynchronized
  have hl := lv_entry ([.ref b, .int x1, .int x2]) (n := 5) (Nat.le_of_ble_eq_true rfl)
  rw [lg_entry_eq]
  generalize (lg_sl ([.ref b, .int x1, .int x2]) ++ List.replicate (5 - (lg_sl ([.ref b, .int x1, .int x2])).length) Slot.unset).toArray = ls at hl ⊢
  have hl : lv_has ls 5 [(0, .ref b), (1, .int x1), (2, .int x2)] := hl
  exact w_X8_drop_B0 ⟨B.exec, B.bytes, hml, findClass_of_methodNamed B.named, atoms_spec (ws := wsX8_drop) B.pre, hK⟩ (fun v u H locs pc ls hq hbo hC hS hd => W.zret B.exec B.bytes hr hbo (fun t ht hW => ⟨⟨v, _, rfl, ⟨congrArg Prod.fst (Option.some.inj hq), congrArg Prod.snd (Option.some.inj hq)⟩, MW_e ht hC⟩, hS.F ht⟩) hS.2.2 hd) h  hl hC va_S.rf

-- RecordShelfModel.lengthOf(I)I
theorem dX8_lengthOf_0 : decode cX8_lengthOf 0 = .ok (.aload_n 0, 1) := by decide +kernel
theorem dX8_lengthOf_1 : decode cX8_lengthOf 1 = .ok (.getfield 19, 3) := by decide +kernel
theorem dX8_lengthOf_4 : decode cX8_lengthOf 4 = .ok (.iload_n 1, 1) := by decide +kernel
theorem dX8_lengthOf_5 : decode cX8_lengthOf 5 = .ok (.iaload, 1) := by decide +kernel
theorem dX8_lengthOf_6 : decode cX8_lengthOf 6 = .ok (.bipush 10, 2) := by decide +kernel
theorem dX8_lengthOf_8 : decode cX8_lengthOf 8 = .ok (.if_icmp .ge 7, 3) := by decide +kernel
theorem dX8_lengthOf_11 : decode cX8_lengthOf 11 = .ok (.iconst 1, 1) := by decide +kernel
theorem dX8_lengthOf_12 : decode cX8_lengthOf 12 = .ok (.goto 4, 3) := by decide +kernel
theorem dX8_lengthOf_15 : decode cX8_lengthOf 15 = .ok (.iconst 3, 1) := by decide +kernel
theorem dX8_lengthOf_16 : decode cX8_lengthOf 16 = .ok (.istore_n 2, 1) := by decide +kernel
theorem dX8_lengthOf_17 : decode cX8_lengthOf 17 = .ok (.iconst 4, 1) := by decide +kernel
theorem dX8_lengthOf_18 : decode cX8_lengthOf 18 = .ok (.iload_n 1, 1) := by decide +kernel
theorem dX8_lengthOf_19 : decode cX8_lengthOf 19 = .ok (.imul, 1) := by decide +kernel
theorem dX8_lengthOf_20 : decode cX8_lengthOf 20 = .ok (.istore_n 3, 1) := by decide +kernel
theorem dX8_lengthOf_21 : decode cX8_lengthOf 21 = .ok (.iload_n 3, 1) := by decide +kernel
theorem dX8_lengthOf_22 : decode cX8_lengthOf 22 = .ok (.iconst 4, 1) := by decide +kernel
theorem dX8_lengthOf_23 : decode cX8_lengthOf 23 = .ok (.iload_n 1, 1) := by decide +kernel
theorem dX8_lengthOf_24 : decode cX8_lengthOf 24 = .ok (.imul, 1) := by decide +kernel
theorem dX8_lengthOf_25 : decode cX8_lengthOf 25 = .ok (.aload_n 0, 1) := by decide +kernel
theorem dX8_lengthOf_26 : decode cX8_lengthOf 26 = .ok (.getfield 28, 3) := by decide +kernel
theorem dX8_lengthOf_29 : decode cX8_lengthOf 29 = .ok (.iload_n 1, 1) := by decide +kernel
theorem dX8_lengthOf_30 : decode cX8_lengthOf 30 = .ok (.iaload, 1) := by decide +kernel
theorem dX8_lengthOf_31 : decode cX8_lengthOf 31 = .ok (.iadd, 1) := by decide +kernel
theorem dX8_lengthOf_32 : decode cX8_lengthOf 32 = .ok (.if_icmp .ge 35, 3) := by decide +kernel
theorem dX8_lengthOf_35 : decode cX8_lengthOf 35 = .ok (.iload_n 2, 1) := by decide +kernel
theorem dX8_lengthOf_36 : decode cX8_lengthOf 36 = .ok (.aload_n 0, 1) := by decide +kernel
theorem dX8_lengthOf_37 : decode cX8_lengthOf 37 = .ok (.getfield 34, 3) := by decide +kernel
theorem dX8_lengthOf_40 : decode cX8_lengthOf 40 = .ok (.iload_n 3, 1) := by decide +kernel
theorem dX8_lengthOf_41 : decode cX8_lengthOf 41 = .ok (.iaload, 1) := by decide +kernel
theorem dX8_lengthOf_42 : decode cX8_lengthOf 42 = .ok (.iadd, 1) := by decide +kernel
theorem dX8_lengthOf_43 : decode cX8_lengthOf 43 = .ok (.aload_n 0, 1) := by decide +kernel
theorem dX8_lengthOf_44 : decode cX8_lengthOf 44 = .ok (.getfield 19, 3) := by decide +kernel
theorem dX8_lengthOf_47 : decode cX8_lengthOf 47 = .ok (.iload_n 1, 1) := by decide +kernel
theorem dX8_lengthOf_48 : decode cX8_lengthOf 48 = .ok (.iaload, 1) := by decide +kernel
theorem dX8_lengthOf_49 : decode cX8_lengthOf 49 = .ok (.bipush 10, 2) := by decide +kernel
theorem dX8_lengthOf_51 : decode cX8_lengthOf 51 = .ok (.if_icmp .ge 7, 3) := by decide +kernel
theorem dX8_lengthOf_54 : decode cX8_lengthOf 54 = .ok (.iconst 0, 1) := by decide +kernel
theorem dX8_lengthOf_55 : decode cX8_lengthOf 55 = .ok (.goto 4, 3) := by decide +kernel
theorem dX8_lengthOf_58 : decode cX8_lengthOf 58 = .ok (.iconst 2, 1) := by decide +kernel
theorem dX8_lengthOf_59 : decode cX8_lengthOf 59 = .ok (.iadd, 1) := by decide +kernel
theorem dX8_lengthOf_60 : decode cX8_lengthOf 60 = .ok (.istore_n 2, 1) := by decide +kernel
theorem dX8_lengthOf_61 : decode cX8_lengthOf 61 = .ok (.iinc 3 1, 3) := by decide +kernel
theorem dX8_lengthOf_64 : decode cX8_lengthOf 64 = .ok (.goto (-43), 3) := by decide +kernel
theorem dX8_lengthOf_67 : decode cX8_lengthOf 67 = .ok (.iload_n 2, 1) := by decide +kernel
theorem dX8_lengthOf_68 : decode cX8_lengthOf 68 = .ok (.ireturn, 1) := by decide +kernel
def rm_X8_lengthOf : Room := { frames := 0, cells := 0, slots := 0, locals := 0 }
def fn_X8_lengthOf_B59 (b : Nat) (σ : Sg) (z21 : Int32 → Int32 → Int32 → Option (Int32)) (x1 : Int32) (x3 : Int32) (y0 : Int32) (y1 : Int32) : Option (Int32) :=
  (sg_lt ((y1 + y0) : Int32) fun v1 =>
  (sg_lt (x3 + 1 : Int32) fun v2 =>
  z21 x1 v1 v2))
set_option maxHeartbeats 4000000 in
set_option maxRecDepth 100000 in
theorem w_X8_lengthOf_B59 {p : Program} {l : Launch} {e : Env} {s : State} {m : MethodId} {args : Array Value} {below : List Frame} {meth : Method} {c : Code} {Q : State → Prop} {D : va_G} {κ : Nat → ClassId} {b : Nat} {H0 : Heap} {rr : Int32} {σ : Sg} (hZ : sg_Z p c s m args D κ cX8_lengthOf 4 RX8 wsX8_lengthOf) (hret : ∀ (v : Int32) (H : Heap) (locs : List Loc) (pc : Nat) (ls : Array Slot), some v = some rr → MW D κ b σ H → va_S (sg_A b 16) H0 H locs → decode cX8_lengthOf pc = .ok (.ireturn, 1) → W p l e rm_X8_lengthOf s m args below meth c H locs 0 0 Q (F0 m pc ls [.int v])) {z21 : Int32 → Int32 → Int32 → Option (Int32)} (hr21 : ∀ {x1 : Int32} {x2 : Int32} {x3 : Int32} {H : Heap} {locs : List Loc} {ls : Array Slot}, z21 x1 x2 x3 = some rr → lv_has ls 4 [(0, .ref b), (1, .int x1), (2, .int x2), (3, .int x3)] → MW D κ b σ H → va_S (sg_A b 16) H0 H locs → W p l e rm_X8_lengthOf s m args below meth c H locs 0 0 Q (F0 m 21 ls [])) : ∀ {x1 : Int32} {x3 : Int32} {y0 : Int32} {y1 : Int32} {H : Heap} {locs : List Loc} {ls : Array Slot}, fn_X8_lengthOf_B59 b σ z21 x1 x3 y0 y1 = some rr → lv_has ls 4 [(0, .ref b), (1, .int x1), (3, .int x3)] → MW D κ b σ H → va_S (sg_A b 16) H0 H locs → W p l e rm_X8_lengthOf s m args below meth c H locs 0 0 Q (F0 m 59 ls [.int y0, .int y1]) := by
  obtain ⟨hx, hb, hml, hown, hts, hK⟩ := hZ
  intro x1 x3 y0 y1 H locs ls h hl hC hS
  unfold fn_X8_lengthOf_B59 at h
  refine lv_iadd hx hb dX8_lengthOf_59 ?_
  obtain ⟨v1, ev1, h⟩ := sg_lte h
  refine sg_topi ev1 ?_
  refine lv_istore_n (lv' := [(2, .int v1), (0, .ref b), (1, .int x1), (3, .int x3)]) hx hb dX8_lengthOf_60 rfl hl (by decide) rfl (fun ls hl => ?_)
  obtain ⟨v2, ev2, h⟩ := sg_lte h
  refine lv_iinc (v := v2) (lv' := [(3, .int v2), (2, .int v1), (0, .ref b), (1, .int x1)]) (k := 3) hx hb dX8_lengthOf_61 hl rfl (sg_inc (by decide) ev2) (by decide) rfl (fun ls hl => ?_)
  refine lv_goto (tgt := 21) hx hb dX8_lengthOf_64 (by decide) ?_
  exact hr21 h (lv_sub hl [2, 3, 1, 0] rfl) hC hS
def fn_X8_lengthOf_B21b (b : Nat) (σ : Sg) (z21 : Int32 → Int32 → Int32 → Option (Int32)) (x1 : Int32) (x2 : Int32) (x3 : Int32) : Option (Int32) :=
  (if sg_ib x1 48 then
  (if (((4 * x1) + (σ.1 (b + 7) (sg_x x1))) : Int32) ≤ x3 then
  some x2
  else (if sg_ib x3 192 then
  (if sg_ib x1 48 then
  (if (10 : Int32) ≤ (σ.1 (b + 4) (sg_x x1)) then
  fn_X8_lengthOf_B59 b σ z21 x1 x3 2 (x2 + (σ.1 (b + 9) (sg_x x3)))
  else fn_X8_lengthOf_B59 b σ z21 x1 x3 0 (x2 + (σ.1 (b + 9) (sg_x x3))))
  else none)
  else none))
  else none)
def fn_X8_lengthOf_B21 (b : Nat) (σ : Sg) : Nat → Int32 → Int32 → Int32 → Option (Int32)
  | 0 => fun _ _ _ => none
  | n + 1 => fun x1 x2 x3 => fn_X8_lengthOf_B21b b σ (fn_X8_lengthOf_B21 b σ n) x1 x2 x3
set_option maxHeartbeats 4000000 in
set_option maxRecDepth 100000 in
theorem w_X8_lengthOf_B21b {p : Program} {l : Launch} {e : Env} {s : State} {m : MethodId} {args : Array Value} {below : List Frame} {meth : Method} {c : Code} {Q : State → Prop} {D : va_G} {κ : Nat → ClassId} {b : Nat} {H0 : Heap} {rr : Int32} {σ : Sg} (hZ : sg_Z p c s m args D κ cX8_lengthOf 4 RX8 wsX8_lengthOf) (hret : ∀ (v : Int32) (H : Heap) (locs : List Loc) (pc : Nat) (ls : Array Slot), some v = some rr → MW D κ b σ H → va_S (sg_A b 16) H0 H locs → decode cX8_lengthOf pc = .ok (.ireturn, 1) → W p l e rm_X8_lengthOf s m args below meth c H locs 0 0 Q (F0 m pc ls [.int v])) {z21 : Int32 → Int32 → Int32 → Option (Int32)} (hr21 : ∀ {x1 : Int32} {x2 : Int32} {x3 : Int32} {H : Heap} {locs : List Loc} {ls : Array Slot}, z21 x1 x2 x3 = some rr → lv_has ls 4 [(0, .ref b), (1, .int x1), (2, .int x2), (3, .int x3)] → MW D κ b σ H → va_S (sg_A b 16) H0 H locs → W p l e rm_X8_lengthOf s m args below meth c H locs 0 0 Q (F0 m 21 ls [])) : ∀ {x1 : Int32} {x2 : Int32} {x3 : Int32} {H : Heap} {locs : List Loc} {ls : Array Slot}, fn_X8_lengthOf_B21b b σ z21 x1 x2 x3 = some rr → lv_has ls 4 [(0, .ref b), (1, .int x1), (2, .int x2), (3, .int x3)] → MW D κ b σ H → va_S (sg_A b 16) H0 H locs → W p l e rm_X8_lengthOf s m args below meth c H locs 0 0 Q (F0 m 21 ls []) := by
  obtain ⟨hx, hb, hml, hown, hts, hK⟩ := hZ
  intro x1 x2 x3 H locs ls h hl hC hS
  unfold fn_X8_lengthOf_B21b at h
  refine lv_iload_n hx hb dX8_lengthOf_21 rfl (lv_at hl 3 rfl) ?_
  refine lv_iconst (v := 4) hx hb dX8_lengthOf_22 (by decide) ?_
  refine lv_iload_n hx hb dX8_lengthOf_23 rfl (lv_at hl 1 rfl) ?_
  refine lv_imul hx hb dX8_lengthOf_24 ?_
  refine lv_aload_n hx hb dX8_lengthOf_25 rfl (lv_at hl 0 rfl) ?_
  refine va_get (D := D) (ci := 8) (v := .ref (b + 7)) (C := RX8) (T := TX8) (N := 21) hx hb hts (wqs inW_X8) hown hK.1 hC.1 (b - b) sg_gModel rfl 8 (by decide) (hts _ (wq wt_656)) (fun _ h9 => h9) rfl dX8_lengthOf_26 ?_
  refine lv_iload_n hx hb dX8_lengthOf_29 rfl (lv_at hl 1 rfl) ?_
  obtain ⟨hg, h⟩ := sg_gd h
  refine va_iald hx hb hK.1 hC.1 ((b + 7) - b) 0 sg_ga_subfields rfl (sg_in hg) dX8_lengthOf_30 ?_
  refine lv_iadd hx hb dX8_lengthOf_31 ?_
  refine lv_icmp_ge (tgt := 67) hx hb dX8_lengthOf_32 (by decide) (fun hc => ?_) (fun hc => ?_)
  · replace h := (if_pos hc).symm.trans h
    refine lv_iload_n hx hb dX8_lengthOf_67 rfl (lv_at hl 2 rfl) ?_
    exact hret _ _ _ _ _ h hC hS dX8_lengthOf_68
  · replace h := (if_neg hc).symm.trans h
    refine lv_iload_n hx hb dX8_lengthOf_35 rfl (lv_at hl 2 rfl) ?_
    refine lv_aload_n hx hb dX8_lengthOf_36 rfl (lv_at hl 0 rfl) ?_
    refine va_get (D := D) (ci := 8) (v := .ref (b + 9)) (C := RX8) (T := TX8) (N := 21) hx hb hts (wqs inW_X8) hown hK.1 hC.1 (b - b) sg_gModel rfl 10 (by decide) (hts _ (wq wt_658)) (fun _ h9 => h9) rfl dX8_lengthOf_37 ?_
    refine lv_iload_n hx hb dX8_lengthOf_40 rfl (lv_at hl 3 rfl) ?_
    obtain ⟨hg, h⟩ := sg_gd h
    refine va_iald hx hb hK.1 hC.1 ((b + 9) - b) 0 sg_ga_sizes rfl (sg_in hg) dX8_lengthOf_41 ?_
    refine lv_iadd hx hb dX8_lengthOf_42 ?_
    refine lv_aload_n hx hb dX8_lengthOf_43 rfl (lv_at hl 0 rfl) ?_
    refine va_get (D := D) (ci := 8) (v := .ref (b + 4)) (C := RX8) (T := TX8) (N := 21) hx hb hts (wqs inW_X8) hown hK.1 hC.1 (b - b) sg_gModel rfl 5 (by decide) (hts _ (wq wt_653)) (fun _ h9 => h9) rfl dX8_lengthOf_44 ?_
    refine lv_iload_n hx hb dX8_lengthOf_47 rfl (lv_at hl 1 rfl) ?_
    obtain ⟨hg, h⟩ := sg_gd h
    refine va_iald hx hb hK.1 hC.1 ((b + 4) - b) 0 sg_ga_tags rfl (sg_in hg) dX8_lengthOf_48 ?_
    refine lv_bipush (v := 10) hx hb dX8_lengthOf_49 (by decide) ?_
    refine lv_icmp_ge (tgt := 58) hx hb dX8_lengthOf_51 (by decide) (fun hc => ?_) (fun hc => ?_)
    · replace h := (if_pos hc).symm.trans h
      refine lv_iconst (v := 2) hx hb dX8_lengthOf_58 (by decide) ?_
      exact w_X8_lengthOf_B59 ⟨hx, hb, hml, hown, hts, hK⟩ hret hr21 h (lv_sub hl [0, 1, 3] rfl) hC hS
    · replace h := (if_neg hc).symm.trans h
      refine lv_iconst (v := 0) hx hb dX8_lengthOf_54 (by decide) ?_
      refine lv_goto (tgt := 59) hx hb dX8_lengthOf_55 (by decide) ?_
      exact w_X8_lengthOf_B59 ⟨hx, hb, hml, hown, hts, hK⟩ hret hr21 h (lv_sub hl [0, 1, 3] rfl) hC hS
set_option maxHeartbeats 4000000 in
theorem w_X8_lengthOf_B21 {p : Program} {l : Launch} {e : Env} {s : State} {m : MethodId} {args : Array Value} {below : List Frame} {meth : Method} {c : Code} {Q : State → Prop} {D : va_G} {κ : Nat → ClassId} {b : Nat} {H0 : Heap} {rr : Int32} {σ : Sg} (hZ : sg_Z p c s m args D κ cX8_lengthOf 4 RX8 wsX8_lengthOf) (hret : ∀ (v : Int32) (H : Heap) (locs : List Loc) (pc : Nat) (ls : Array Slot), some v = some rr → MW D κ b σ H → va_S (sg_A b 16) H0 H locs → decode cX8_lengthOf pc = .ok (.ireturn, 1) → W p l e rm_X8_lengthOf s m args below meth c H locs 0 0 Q (F0 m pc ls [.int v])) : ∀ n : Nat, ∀ {x1 : Int32} {x2 : Int32} {x3 : Int32} {H : Heap} {locs : List Loc} {ls : Array Slot}, fn_X8_lengthOf_B21 b σ n x1 x2 x3 = some rr → lv_has ls 4 [(0, .ref b), (1, .int x1), (2, .int x2), (3, .int x3)] → MW D κ b σ H → va_S (sg_A b 16) H0 H locs → W p l e rm_X8_lengthOf s m args below meth c H locs 0 0 Q (F0 m 21 ls []) := by
  intro n
  induction n with
  | zero => intro x1 x2 x3 H locs ls h hl hC hS; cases (show (none : Option (Int32)) = some rr from h)
  | succ n ih =>
    intro x1 x2 x3 H locs ls h hl hC hS
    exact w_X8_lengthOf_B21b hZ hret ih (show fn_X8_lengthOf_B21b b σ (fn_X8_lengthOf_B21 b σ n) x1 x2 x3 = some rr from h)  hl hC hS
def fn_X8_lengthOf_B16 (b : Nat) (σ : Sg) (x1 : Int32) (y0 : Int32) : Option (Int32) :=
  (sg_lt ((4 * x1) : Int32) fun v1 =>
  fn_X8_lengthOf_B21 b σ sg_N x1 y0 v1)
set_option maxHeartbeats 4000000 in
set_option maxRecDepth 100000 in
theorem w_X8_lengthOf_B16 {p : Program} {l : Launch} {e : Env} {s : State} {m : MethodId} {args : Array Value} {below : List Frame} {meth : Method} {c : Code} {Q : State → Prop} {D : va_G} {κ : Nat → ClassId} {b : Nat} {H0 : Heap} {rr : Int32} {σ : Sg} (hZ : sg_Z p c s m args D κ cX8_lengthOf 4 RX8 wsX8_lengthOf) (hret : ∀ (v : Int32) (H : Heap) (locs : List Loc) (pc : Nat) (ls : Array Slot), some v = some rr → MW D κ b σ H → va_S (sg_A b 16) H0 H locs → decode cX8_lengthOf pc = .ok (.ireturn, 1) → W p l e rm_X8_lengthOf s m args below meth c H locs 0 0 Q (F0 m pc ls [.int v])) : ∀ {x1 : Int32} {y0 : Int32} {H : Heap} {locs : List Loc} {ls : Array Slot}, fn_X8_lengthOf_B16 b σ x1 y0 = some rr → lv_has ls 4 [(0, .ref b), (1, .int x1)] → MW D κ b σ H → va_S (sg_A b 16) H0 H locs → W p l e rm_X8_lengthOf s m args below meth c H locs 0 0 Q (F0 m 16 ls [.int y0]) := by
  obtain ⟨hx, hb, hml, hown, hts, hK⟩ := hZ
  intro x1 y0 H locs ls h hl hC hS
  unfold fn_X8_lengthOf_B16 at h
  refine lv_istore_n (lv' := [(2, .int y0), (0, .ref b), (1, .int x1)]) hx hb dX8_lengthOf_16 rfl hl (by decide) rfl (fun ls hl => ?_)
  refine lv_iconst (v := 4) hx hb dX8_lengthOf_17 (by decide) ?_
  refine lv_iload_n hx hb dX8_lengthOf_18 rfl (lv_at hl 2 rfl) ?_
  refine lv_imul hx hb dX8_lengthOf_19 ?_
  obtain ⟨v1, ev1, h⟩ := sg_lte h
  refine sg_topi ev1 ?_
  refine lv_istore_n (lv' := [(3, .int v1), (2, .int y0), (0, .ref b), (1, .int x1)]) hx hb dX8_lengthOf_20 rfl hl (by decide) rfl (fun ls hl => ?_)
  exact w_X8_lengthOf_B21 ⟨hx, hb, hml, hown, hts, hK⟩ hret  sg_N h (lv_sub hl [2, 3, 1, 0] rfl) hC hS
def fn_X8_lengthOf (b : Nat) (σ : Sg) (x1 : Int32) : Option (Int32) :=
  (if sg_ib x1 48 then
  (if (10 : Int32) ≤ (σ.1 (b + 4) (sg_x x1)) then
  fn_X8_lengthOf_B16 b σ x1 3
  else fn_X8_lengthOf_B16 b σ x1 1)
  else none)
set_option maxHeartbeats 4000000 in
set_option maxRecDepth 100000 in
theorem w_X8_lengthOf_B0 {p : Program} {l : Launch} {e : Env} {s : State} {m : MethodId} {args : Array Value} {below : List Frame} {meth : Method} {c : Code} {Q : State → Prop} {D : va_G} {κ : Nat → ClassId} {b : Nat} {H0 : Heap} {rr : Int32} {σ : Sg} (hZ : sg_Z p c s m args D κ cX8_lengthOf 4 RX8 wsX8_lengthOf) (hret : ∀ (v : Int32) (H : Heap) (locs : List Loc) (pc : Nat) (ls : Array Slot), some v = some rr → MW D κ b σ H → va_S (sg_A b 16) H0 H locs → decode cX8_lengthOf pc = .ok (.ireturn, 1) → W p l e rm_X8_lengthOf s m args below meth c H locs 0 0 Q (F0 m pc ls [.int v])) : ∀ {x1 : Int32} {H : Heap} {locs : List Loc} {ls : Array Slot}, fn_X8_lengthOf b σ x1 = some rr → lv_has ls 4 [(0, .ref b), (1, .int x1)] → MW D κ b σ H → va_S (sg_A b 16) H0 H locs → W p l e rm_X8_lengthOf s m args below meth c H locs 0 0 Q (F0 m 0 ls []) := by
  obtain ⟨hx, hb, hml, hown, hts, hK⟩ := hZ
  intro x1 H locs ls h hl hC hS
  unfold fn_X8_lengthOf at h
  refine lv_aload_n hx hb dX8_lengthOf_0 rfl (lv_at hl 0 rfl) ?_
  refine va_get (D := D) (ci := 8) (v := .ref (b + 4)) (C := RX8) (T := TX8) (N := 21) hx hb hts (wqs inW_X8) hown hK.1 hC.1 (b - b) sg_gModel rfl 5 (by decide) (hts _ (wq wt_653)) (fun _ h9 => h9) rfl dX8_lengthOf_1 ?_
  refine lv_iload_n hx hb dX8_lengthOf_4 rfl (lv_at hl 1 rfl) ?_
  obtain ⟨hg, h⟩ := sg_gd h
  refine va_iald hx hb hK.1 hC.1 ((b + 4) - b) 0 sg_ga_tags rfl (sg_in hg) dX8_lengthOf_5 ?_
  refine lv_bipush (v := 10) hx hb dX8_lengthOf_6 (by decide) ?_
  refine lv_icmp_ge (tgt := 15) hx hb dX8_lengthOf_8 (by decide) (fun hc => ?_) (fun hc => ?_)
  · replace h := (if_pos hc).symm.trans h
    refine lv_iconst (v := 3) hx hb dX8_lengthOf_15 (by decide) ?_
    exact w_X8_lengthOf_B16 ⟨hx, hb, hml, hown, hts, hK⟩ hret  h (lv_sub hl [0, 1] rfl) hC hS
  · replace h := (if_neg hc).symm.trans h
    refine lv_iconst (v := 1) hx hb dX8_lengthOf_11 (by decide) ?_
    refine lv_goto (tgt := 16) hx hb dX8_lengthOf_12 (by decide) ?_
    exact w_X8_lengthOf_B16 ⟨hx, hb, hml, hown, hts, hK⟩ hret  h (lv_sub hl [0, 1] rfl) hC hS
set_option maxHeartbeats 4000000 in
set_option maxRecDepth 100000 in
theorem c_X8_lengthOf (l : Launch) (D : va_G) (κ : Nat → ClassId) (b : Nat) (σ : Sg) (x1 : Int32) (rr : Int32)  (h : fn_X8_lengthOf b σ x1 = some rr) : Met l yX8_lengthOf wsX8_lengthOf rm_X8_lengthOf (va_Pc [.ref b, .int x1] (fun U => KK D κ U ∧ MW D κ b σ U.heap)) (va_Qi (fun (r : Int32) (u : Sg) => r = rr ∧ u = σ) (fun u t => MW D κ b u t.heap) (sg_A b 16)) 0 0 (sg_A b 16) := by
  refine Met.ofW (cc := cX8_lengthOf) (maxL := 4) (ret := (some .int)) (by decide) rfl ?_
  intro p e s m args below meth c s₁ B hml hv
  obtain ⟨rfl, hK, hC⟩ := hv
  have hr := B.returns
  have hlocks := B.notSynchronized
  have hl := lv_entry ([.ref b, .int x1]) (n := 4) (Nat.le_of_ble_eq_true rfl)
  rw [lg_entry_eq]
  generalize (lg_sl ([.ref b, .int x1]) ++ List.replicate (4 - (lg_sl ([.ref b, .int x1])).length) Slot.unset).toArray = ls at hl ⊢
  have hl : lv_has ls 4 [(0, .ref b), (1, .int x1)] := hl
  exact w_X8_lengthOf_B0 ⟨B.exec, B.bytes, hml, findClass_of_methodNamed B.named, atoms_spec (ws := wsX8_lengthOf) B.pre, hK⟩ (fun v H locs pc ls hq hC hS hd => W.iret B.exec B.bytes hr (fun t ht hW => ⟨⟨v, _, rfl, ⟨Option.some.inj hq, rfl⟩, MW_e ht hC⟩, hS.F ht⟩) hS.2.2 hd) h  hl hC va_S.rf

-- RecordShelfModel.putNumber(II)V
theorem dX8_putNumber_0 : decode cX8_putNumber 0 = .ok (.iconst 0, 1) := by decide +kernel
theorem dX8_putNumber_1 : decode cX8_putNumber 1 = .ok (.istore_n 3, 1) := by decide +kernel
theorem dX8_putNumber_2 : decode cX8_putNumber 2 = .ok (.iload_n 3, 1) := by decide +kernel
theorem dX8_putNumber_3 : decode cX8_putNumber 3 = .ok (.iload_n 2, 1) := by decide +kernel
theorem dX8_putNumber_4 : decode cX8_putNumber 4 = .ok (.if_icmp .ge 26, 3) := by decide +kernel
theorem dX8_putNumber_7 : decode cX8_putNumber 7 = .ok (.iload_n 1, 1) := by decide +kernel
theorem dX8_putNumber_8 : decode cX8_putNumber 8 = .ok (.iload_n 2, 1) := by decide +kernel
theorem dX8_putNumber_9 : decode cX8_putNumber 9 = .ok (.iload_n 3, 1) := by decide +kernel
theorem dX8_putNumber_10 : decode cX8_putNumber 10 = .ok (.invokestatic 75, 3) := by decide +kernel
theorem dX8_putNumber_13 : decode cX8_putNumber 13 = .ok (.istore 4, 2) := by decide +kernel
theorem dX8_putNumber_15 : decode cX8_putNumber 15 = .ok (.aload_n 0, 1) := by decide +kernel
theorem dX8_putNumber_16 : decode cX8_putNumber 16 = .ok (.bipush 48, 2) := by decide +kernel
theorem dX8_putNumber_18 : decode cX8_putNumber 18 = .ok (.iload 4, 2) := by decide +kernel
theorem dX8_putNumber_20 : decode cX8_putNumber 20 = .ok (.iadd, 1) := by decide +kernel
theorem dX8_putNumber_21 : decode cX8_putNumber 21 = .ok (.invokevirtual 68, 3) := by decide +kernel
theorem dX8_putNumber_24 : decode cX8_putNumber 24 = .ok (.iinc 3 1, 3) := by decide +kernel
theorem dX8_putNumber_27 : decode cX8_putNumber 27 = .ok (.goto (-25), 3) := by decide +kernel
theorem dX8_putNumber_30 : decode cX8_putNumber 30 = .ok (.return_, 1) := by decide +kernel
def rm_X8_putNumber : Room := { frames := 1, cells := 0, slots := 0, locals := 24 }
def fn_X8_putNumber_B2b (b : Nat) (z2 : Sg → Int32 → Int32 → Int32 → Option (Sg)) (σ : Sg) (x1 : Int32) (x2 : Int32) (x3 : Int32) : Option (Sg) :=
  (if (x2 : Int32) ≤ x3 then
  some σ
  else ((fn_X8_digitOf x1 x2 x3).bind fun r1 =>
  ((fn_X8_put b σ (48 + r1)).bind fun r2 =>
  (sg_lt (x3 + 1 : Int32) fun v3 =>
  z2 r2 x1 x2 v3))))
def fn_X8_putNumber_B2 (b : Nat) : Nat → Sg → Int32 → Int32 → Int32 → Option (Sg)
  | 0 => fun _ _ _ _ => none
  | n + 1 => fun σ x1 x2 x3 => fn_X8_putNumber_B2b b (fn_X8_putNumber_B2 b n) σ x1 x2 x3
set_option maxHeartbeats 4000000 in
set_option maxRecDepth 100000 in
theorem w_X8_putNumber_B2b {p : Program} {l : Launch} {e : Env} {s : State} {m : MethodId} {args : Array Value} {below : List Frame} {meth : Method} {c : Code} {Q : State → Prop} {D : va_G} {κ : Nat → ClassId} {b : Nat} {H0 : Heap} {rr : Sg} (hZ : sg_Z p c s m args D κ cX8_putNumber 5 RX8 wsX8_putNumber) (hret : ∀ (u : Sg) (H : Heap) (locs : List Loc) (pc : Nat) (ls : Array Slot), some u = some rr → MW D κ b u H → va_S (sg_A b 16) H0 H locs → decode cX8_putNumber pc = .ok (.return_, 1) → W p l e rm_X8_putNumber s m args below meth c H locs 0 0 Q (F0 m pc ls [])) {z2 : Sg → Int32 → Int32 → Int32 → Option (Sg)} (hr2 : ∀ {σ : Sg} {x1 : Int32} {x2 : Int32} {x3 : Int32} {H : Heap} {locs : List Loc} {ls : Array Slot}, z2 σ x1 x2 x3 = some rr → lv_has ls 5 [(0, .ref b), (1, .int x1), (2, .int x2), (3, .int x3)] → MW D κ b σ H → va_S (sg_A b 16) H0 H locs → W p l e rm_X8_putNumber s m args below meth c H locs 0 0 Q (F0 m 2 ls [])) : ∀ {σ : Sg} {x1 : Int32} {x2 : Int32} {x3 : Int32} {H : Heap} {locs : List Loc} {ls : Array Slot}, fn_X8_putNumber_B2b b z2 σ x1 x2 x3 = some rr → lv_has ls 5 [(0, .ref b), (1, .int x1), (2, .int x2), (3, .int x3)] → MW D κ b σ H → va_S (sg_A b 16) H0 H locs → W p l e rm_X8_putNumber s m args below meth c H locs 0 0 Q (F0 m 2 ls []) := by
  obtain ⟨hx, hb, hml, hown, hts, hK⟩ := hZ
  intro σ x1 x2 x3 H locs ls h hl hC hS
  unfold fn_X8_putNumber_B2b at h
  refine lv_iload_n hx hb dX8_putNumber_2 rfl (lv_at hl 3 rfl) ?_
  refine lv_iload_n hx hb dX8_putNumber_3 rfl (lv_at hl 2 rfl) ?_
  refine lv_icmp_ge (tgt := 30) hx hb dX8_putNumber_4 (by decide) (fun hc => ?_) (fun hc => ?_)
  · replace h := (if_pos hc).symm.trans h
    exact hret _ _ _ _ _ h hC hS dX8_putNumber_30
  · replace h := (if_neg hc).symm.trans h
    refine lv_iload_n hx hb dX8_putNumber_7 rfl (lv_at hl 1 rfl) ?_
    refine lv_iload_n hx hb dX8_putNumber_8 rfl (lv_at hl 2 rfl) ?_
    refine lv_iload_n hx hb dX8_putNumber_9 rfl (lv_at hl 3 rfl) ?_
    obtain ⟨r1, er1, h⟩ := Option.bind_eq_some_iff.mp h
    refine va_calli (va_runS (As := [.int x1, .int x2, .int x3]) (rest := []) ⟨hx, hb, hml, hown, hts⟩ (c_X8_digitOf l D κ b σ x1 x2 x3 _ er1) (va_cwS 3 hts (gwS wt_745 wt_746 wt_9 wt_747) rfl rfl rfl (by decide +kernel) ⟨Nat.le_of_ble_eq_true rfl, Nat.le_of_ble_eq_true rfl⟩) (MW_preS hK hC) rfl rfl hl.1 rfl (lv_room (Nat.le_of_ble_eq_true rfl)) dX8_putNumber_10 ⟨Nat.zero_le _, Nat.zero_le _⟩) hS (fun _ _ h => h) (fun _ h => h) (fun r u t H locs ht _ hp hB _ _ hS => ?_)
    refine sg_topi hp.1 ?_
    have hC : MW D κ b σ H := MW_b hB ht hp.2
    refine lv_istore (lv' := [(4, .int r1), (0, .ref b), (1, .int x1), (2, .int x2), (3, .int x3)]) hx hb dX8_putNumber_13 hl (by decide) rfl (fun ls hl => ?_)
    refine lv_aload_n hx hb dX8_putNumber_15 rfl (lv_at hl 1 rfl) ?_
    refine lv_bipush (v := 48) hx hb dX8_putNumber_16 (by decide) ?_
    refine lv_iload hx hb dX8_putNumber_18 (lv_at hl 0 rfl) ?_
    refine lv_iadd hx hb dX8_putNumber_20 ?_
    obtain ⟨r2, er2, h⟩ := Option.bind_eq_some_iff.mp h
    refine va_callv (va_runV (As := [.int (48 + r1)]) (rest := []) ⟨hx, hb, hml, hown, hts⟩ (c_X8_put l D κ b σ (48 + r1) _ er2) (cwV 1 hts (gwV wt_717 wt_719 wp_30 wt_9 wt_720) rfl rfl rfl (by decide +kernel) ⟨Nat.le_of_ble_eq_true rfl, Nat.le_of_ble_eq_true rfl⟩) (MW_preV hK hC sg_gModel rfl) rfl rfl hl.1 rfl (lv_room (Nat.le_of_ble_eq_true rfl)) dX8_putNumber_21 ⟨Nat.zero_le _, Nat.zero_le _⟩) hS (fun _ _ h => h) (fun _ h => h) (fun u t H locs ht _ hp hB _ _ hS => ?_)
    have hC : MW D κ b r2 H := MW_b hB ht hp
    obtain ⟨v3, ev3, h⟩ := sg_lte h
    refine lv_iinc (v := v3) (lv' := [(3, .int v3), (4, .int r1), (0, .ref b), (1, .int x1), (2, .int x2)]) (k := 4) hx hb dX8_putNumber_24 hl rfl (sg_inc (by decide) ev3) (by decide) rfl (fun ls hl => ?_)
    refine lv_goto (tgt := 2) hx hb dX8_putNumber_27 (by decide) ?_
    exact hr2 h (lv_sub hl [2, 3, 4, 0] rfl) hC hS
set_option maxHeartbeats 4000000 in
theorem w_X8_putNumber_B2 {p : Program} {l : Launch} {e : Env} {s : State} {m : MethodId} {args : Array Value} {below : List Frame} {meth : Method} {c : Code} {Q : State → Prop} {D : va_G} {κ : Nat → ClassId} {b : Nat} {H0 : Heap} {rr : Sg} (hZ : sg_Z p c s m args D κ cX8_putNumber 5 RX8 wsX8_putNumber) (hret : ∀ (u : Sg) (H : Heap) (locs : List Loc) (pc : Nat) (ls : Array Slot), some u = some rr → MW D κ b u H → va_S (sg_A b 16) H0 H locs → decode cX8_putNumber pc = .ok (.return_, 1) → W p l e rm_X8_putNumber s m args below meth c H locs 0 0 Q (F0 m pc ls [])) : ∀ n : Nat, ∀ {σ : Sg} {x1 : Int32} {x2 : Int32} {x3 : Int32} {H : Heap} {locs : List Loc} {ls : Array Slot}, fn_X8_putNumber_B2 b n σ x1 x2 x3 = some rr → lv_has ls 5 [(0, .ref b), (1, .int x1), (2, .int x2), (3, .int x3)] → MW D κ b σ H → va_S (sg_A b 16) H0 H locs → W p l e rm_X8_putNumber s m args below meth c H locs 0 0 Q (F0 m 2 ls []) := by
  intro n
  induction n with
  | zero => intro σ x1 x2 x3 H locs ls h hl hC hS; cases (show (none : Option (Sg)) = some rr from h)
  | succ n ih =>
    intro σ x1 x2 x3 H locs ls h hl hC hS
    exact w_X8_putNumber_B2b hZ hret ih (show fn_X8_putNumber_B2b b (fn_X8_putNumber_B2 b n) σ x1 x2 x3 = some rr from h)  hl hC hS
def fn_X8_putNumber (b : Nat) (σ : Sg) (x1 : Int32) (x2 : Int32) : Option (Sg) :=
  fn_X8_putNumber_B2 b sg_N σ x1 x2 0
set_option maxHeartbeats 4000000 in
set_option maxRecDepth 100000 in
theorem w_X8_putNumber_B0 {p : Program} {l : Launch} {e : Env} {s : State} {m : MethodId} {args : Array Value} {below : List Frame} {meth : Method} {c : Code} {Q : State → Prop} {D : va_G} {κ : Nat → ClassId} {b : Nat} {H0 : Heap} {rr : Sg} (hZ : sg_Z p c s m args D κ cX8_putNumber 5 RX8 wsX8_putNumber) (hret : ∀ (u : Sg) (H : Heap) (locs : List Loc) (pc : Nat) (ls : Array Slot), some u = some rr → MW D κ b u H → va_S (sg_A b 16) H0 H locs → decode cX8_putNumber pc = .ok (.return_, 1) → W p l e rm_X8_putNumber s m args below meth c H locs 0 0 Q (F0 m pc ls [])) : ∀ {σ : Sg} {x1 : Int32} {x2 : Int32} {H : Heap} {locs : List Loc} {ls : Array Slot}, fn_X8_putNumber b σ x1 x2 = some rr → lv_has ls 5 [(0, .ref b), (1, .int x1), (2, .int x2)] → MW D κ b σ H → va_S (sg_A b 16) H0 H locs → W p l e rm_X8_putNumber s m args below meth c H locs 0 0 Q (F0 m 0 ls []) := by
  obtain ⟨hx, hb, hml, hown, hts, hK⟩ := hZ
  intro σ x1 x2 H locs ls h hl hC hS
  unfold fn_X8_putNumber at h
  refine lv_iconst (v := 0) hx hb dX8_putNumber_0 (by decide) ?_
  refine lv_istore_n (lv' := [(3, .int 0), (0, .ref b), (1, .int x1), (2, .int x2)]) hx hb dX8_putNumber_1 rfl hl (by decide) rfl (fun ls hl => ?_)
  exact w_X8_putNumber_B2 ⟨hx, hb, hml, hown, hts, hK⟩ hret  sg_N h (lv_sub hl [1, 2, 3, 0] rfl) hC hS
set_option maxHeartbeats 4000000 in
set_option maxRecDepth 100000 in
theorem c_X8_putNumber (l : Launch) (D : va_G) (κ : Nat → ClassId) (b : Nat) (σ : Sg) (x1 : Int32) (x2 : Int32) (rr : Sg)  (h : fn_X8_putNumber b σ x1 x2 = some rr) : Met l yX8_putNumber wsX8_putNumber rm_X8_putNumber (va_Pc [.ref b, .int x1, .int x2] (fun U => KK D κ U ∧ MW D κ b σ U.heap)) (va_Qv (fun u : Sg => u = rr) (fun u t => MW D κ b u t.heap) (sg_A b 16)) 0 0 (sg_A b 16) := by
  refine Met.ofW (cc := cX8_putNumber) (maxL := 5) (ret := none) (by decide) rfl ?_
  intro p e s m args below meth c s₁ B hml hv
  obtain ⟨rfl, hK, hC⟩ := hv
  have hr := B.returns
  have hlocks := B.notSynchronized
  have hl := lv_entry ([.ref b, .int x1, .int x2]) (n := 5) (Nat.le_of_ble_eq_true rfl)
  rw [lg_entry_eq]
  generalize (lg_sl ([.ref b, .int x1, .int x2]) ++ List.replicate (5 - (lg_sl ([.ref b, .int x1, .int x2])).length) Slot.unset).toArray = ls at hl ⊢
  have hl : lv_has ls 5 [(0, .ref b), (1, .int x1), (2, .int x2)] := hl
  exact w_X8_putNumber_B0 ⟨B.exec, B.bytes, hml, findClass_of_methodNamed B.named, atoms_spec (ws := wsX8_putNumber) B.pre, hK⟩ (fun u H locs pc ls hq hC hS hd => W.vret B.exec B.bytes hr (fun t ht hW => ⟨⟨_, rfl, Option.some.inj hq, MW_e ht hC⟩, hS.F ht⟩) hS.2.2 hd) h  hl hC va_S.rf

-- RecordShelfModel.putField(I)V
theorem dX8_putField_0 : decode cX8_putField 0 = .ok (.aload_n 0, 1) := by decide +kernel
theorem dX8_putField_1 : decode cX8_putField 1 = .ok (.getfield 19, 3) := by decide +kernel
theorem dX8_putField_4 : decode cX8_putField 4 = .ok (.iload_n 1, 1) := by decide +kernel
theorem dX8_putField_5 : decode cX8_putField 5 = .ok (.iaload, 1) := by decide +kernel
theorem dX8_putField_6 : decode cX8_putField 6 = .ok (.bipush 10, 2) := by decide +kernel
theorem dX8_putField_8 : decode cX8_putField 8 = .ok (.if_icmp .ge 7, 3) := by decide +kernel
theorem dX8_putField_11 : decode cX8_putField 11 = .ok (.iconst 1, 1) := by decide +kernel
theorem dX8_putField_12 : decode cX8_putField 12 = .ok (.goto 4, 3) := by decide +kernel
theorem dX8_putField_15 : decode cX8_putField 15 = .ok (.iconst 0, 1) := by decide +kernel
theorem dX8_putField_16 : decode cX8_putField 16 = .ok (.istore_n 2, 1) := by decide +kernel
theorem dX8_putField_17 : decode cX8_putField 17 = .ok (.iload_n 2, 1) := by decide +kernel
theorem dX8_putField_18 : decode cX8_putField 18 = .ok (.ifCond .ne 23, 3) := by decide +kernel
theorem dX8_putField_21 : decode cX8_putField 21 = .ok (.aload_n 0, 1) := by decide +kernel
theorem dX8_putField_22 : decode cX8_putField 22 = .ok (.aload_n 0, 1) := by decide +kernel
theorem dX8_putField_23 : decode cX8_putField 23 = .ok (.getfield 22, 3) := by decide +kernel
theorem dX8_putField_26 : decode cX8_putField 26 = .ok (.iload_n 1, 1) := by decide +kernel
theorem dX8_putField_27 : decode cX8_putField 27 = .ok (.iaload, 1) := by decide +kernel
theorem dX8_putField_28 : decode cX8_putField 28 = .ok (.invokevirtual 68, 3) := by decide +kernel
theorem dX8_putField_31 : decode cX8_putField 31 = .ok (.aload_n 0, 1) := by decide +kernel
theorem dX8_putField_32 : decode cX8_putField 32 = .ok (.aload_n 0, 1) := by decide +kernel
theorem dX8_putField_33 : decode cX8_putField 33 = .ok (.getfield 25, 3) := by decide +kernel
theorem dX8_putField_36 : decode cX8_putField 36 = .ok (.iload_n 1, 1) := by decide +kernel
theorem dX8_putField_37 : decode cX8_putField 37 = .ok (.iaload, 1) := by decide +kernel
theorem dX8_putField_38 : decode cX8_putField 38 = .ok (.invokevirtual 68, 3) := by decide +kernel
theorem dX8_putField_41 : decode cX8_putField 41 = .ok (.iconst 4, 1) := by decide +kernel
theorem dX8_putField_42 : decode cX8_putField 42 = .ok (.iload_n 1, 1) := by decide +kernel
theorem dX8_putField_43 : decode cX8_putField 43 = .ok (.imul, 1) := by decide +kernel
theorem dX8_putField_44 : decode cX8_putField 44 = .ok (.istore_n 3, 1) := by decide +kernel
theorem dX8_putField_45 : decode cX8_putField 45 = .ok (.iload_n 3, 1) := by decide +kernel
theorem dX8_putField_46 : decode cX8_putField 46 = .ok (.iconst 4, 1) := by decide +kernel
theorem dX8_putField_47 : decode cX8_putField 47 = .ok (.iload_n 1, 1) := by decide +kernel
theorem dX8_putField_48 : decode cX8_putField 48 = .ok (.imul, 1) := by decide +kernel
theorem dX8_putField_49 : decode cX8_putField 49 = .ok (.aload_n 0, 1) := by decide +kernel
theorem dX8_putField_50 : decode cX8_putField 50 = .ok (.getfield 28, 3) := by decide +kernel
theorem dX8_putField_53 : decode cX8_putField 53 = .ok (.iload_n 1, 1) := by decide +kernel
theorem dX8_putField_54 : decode cX8_putField 54 = .ok (.iaload, 1) := by decide +kernel
theorem dX8_putField_55 : decode cX8_putField 55 = .ok (.iadd, 1) := by decide +kernel
theorem dX8_putField_56 : decode cX8_putField 56 = .ok (.if_icmp .ge 65, 3) := by decide +kernel
theorem dX8_putField_59 : decode cX8_putField 59 = .ok (.iload_n 2, 1) := by decide +kernel
theorem dX8_putField_60 : decode cX8_putField 60 = .ok (.ifCond .ne 19, 3) := by decide +kernel
theorem dX8_putField_63 : decode cX8_putField 63 = .ok (.aload_n 0, 1) := by decide +kernel
theorem dX8_putField_64 : decode cX8_putField 64 = .ok (.bipush 31, 2) := by decide +kernel
theorem dX8_putField_66 : decode cX8_putField 66 = .ok (.invokevirtual 68, 3) := by decide +kernel
theorem dX8_putField_69 : decode cX8_putField 69 = .ok (.aload_n 0, 1) := by decide +kernel
theorem dX8_putField_70 : decode cX8_putField 70 = .ok (.aload_n 0, 1) := by decide +kernel
theorem dX8_putField_71 : decode cX8_putField 71 = .ok (.getfield 31, 3) := by decide +kernel
theorem dX8_putField_74 : decode cX8_putField 74 = .ok (.iload_n 3, 1) := by decide +kernel
theorem dX8_putField_75 : decode cX8_putField 75 = .ok (.iaload, 1) := by decide +kernel
theorem dX8_putField_76 : decode cX8_putField 76 = .ok (.invokevirtual 68, 3) := by decide +kernel
theorem dX8_putField_79 : decode cX8_putField 79 = .ok (.iconst 0, 1) := by decide +kernel
theorem dX8_putField_80 : decode cX8_putField 80 = .ok (.istore 4, 2) := by decide +kernel
theorem dX8_putField_82 : decode cX8_putField 82 = .ok (.iload 4, 2) := by decide +kernel
theorem dX8_putField_84 : decode cX8_putField 84 = .ok (.aload_n 0, 1) := by decide +kernel
theorem dX8_putField_85 : decode cX8_putField 85 = .ok (.getfield 34, 3) := by decide +kernel
theorem dX8_putField_88 : decode cX8_putField 88 = .ok (.iload_n 3, 1) := by decide +kernel
theorem dX8_putField_89 : decode cX8_putField 89 = .ok (.iaload, 1) := by decide +kernel
theorem dX8_putField_90 : decode cX8_putField 90 = .ok (.if_icmp .ge 25, 3) := by decide +kernel
theorem dX8_putField_93 : decode cX8_putField 93 = .ok (.aload_n 0, 1) := by decide +kernel
theorem dX8_putField_94 : decode cX8_putField 94 = .ok (.aload_n 0, 1) := by decide +kernel
theorem dX8_putField_95 : decode cX8_putField 95 = .ok (.getfield 37, 3) := by decide +kernel
theorem dX8_putField_98 : decode cX8_putField 98 = .ok (.bipush 20, 2) := by decide +kernel
theorem dX8_putField_100 : decode cX8_putField 100 = .ok (.iload_n 3, 1) := by decide +kernel
theorem dX8_putField_101 : decode cX8_putField 101 = .ok (.imul, 1) := by decide +kernel
theorem dX8_putField_102 : decode cX8_putField 102 = .ok (.iload 4, 2) := by decide +kernel
theorem dX8_putField_104 : decode cX8_putField 104 = .ok (.iadd, 1) := by decide +kernel
theorem dX8_putField_105 : decode cX8_putField 105 = .ok (.iaload, 1) := by decide +kernel
theorem dX8_putField_106 : decode cX8_putField 106 = .ok (.invokevirtual 68, 3) := by decide +kernel
theorem dX8_putField_109 : decode cX8_putField 109 = .ok (.iinc 4 1, 3) := by decide +kernel
theorem dX8_putField_112 : decode cX8_putField 112 = .ok (.goto (-30), 3) := by decide +kernel
theorem dX8_putField_115 : decode cX8_putField 115 = .ok (.iinc 3 1, 3) := by decide +kernel
theorem dX8_putField_118 : decode cX8_putField 118 = .ok (.goto (-73), 3) := by decide +kernel
theorem dX8_putField_121 : decode cX8_putField 121 = .ok (.aload_n 0, 1) := by decide +kernel
theorem dX8_putField_122 : decode cX8_putField 122 = .ok (.bipush 30, 2) := by decide +kernel
theorem dX8_putField_124 : decode cX8_putField 124 = .ok (.invokevirtual 68, 3) := by decide +kernel
theorem dX8_putField_127 : decode cX8_putField 127 = .ok (.return_, 1) := by decide +kernel
def rm_X8_putField : Room := { frames := 1, cells := 0, slots := 0, locals := 21 }
def fn_X8_putField_B82b (b : Nat) (z45 : Sg → Int32 → Int32 → Int32 → Option (Sg)) (z82 : Sg → Int32 → Int32 → Int32 → Int32 → Option (Sg)) (σ : Sg) (x1 : Int32) (x2 : Int32) (x3 : Int32) (x4 : Int32) : Option (Sg) :=
  (if sg_ib x3 192 then
  (if ((σ.1 (b + 9) (sg_x x3)) : Int32) ≤ x4 then
  (sg_lt (x3 + 1 : Int32) fun v1 =>
  z45 σ x1 x2 v1)
  else (if sg_ib ((20 * x3) + x4) 3840 then
  ((fn_X8_put b σ (σ.1 (b + 10) (sg_x ((20 * x3) + x4)))).bind fun r2 =>
  (sg_lt (x4 + 1 : Int32) fun v3 =>
  z82 r2 x1 x2 x3 v3))
  else none))
  else none)
def fn_X8_putField_B82 (b : Nat) (z45 : Sg → Int32 → Int32 → Int32 → Option (Sg)) : Nat → Sg → Int32 → Int32 → Int32 → Int32 → Option (Sg)
  | 0 => fun _ _ _ _ _ => none
  | n + 1 => fun σ x1 x2 x3 x4 => fn_X8_putField_B82b b z45 (fn_X8_putField_B82 b z45 n) σ x1 x2 x3 x4
set_option maxHeartbeats 4000000 in
set_option maxRecDepth 100000 in
theorem w_X8_putField_B82b {p : Program} {l : Launch} {e : Env} {s : State} {m : MethodId} {args : Array Value} {below : List Frame} {meth : Method} {c : Code} {Q : State → Prop} {D : va_G} {κ : Nat → ClassId} {b : Nat} {H0 : Heap} {rr : Sg} (hZ : sg_Z p c s m args D κ cX8_putField 5 RX8 wsX8_putField) (hret : ∀ (u : Sg) (H : Heap) (locs : List Loc) (pc : Nat) (ls : Array Slot), some u = some rr → MW D κ b u H → va_S (sg_A b 16) H0 H locs → decode cX8_putField pc = .ok (.return_, 1) → W p l e rm_X8_putField s m args below meth c H locs 0 0 Q (F0 m pc ls [])) {z45 : Sg → Int32 → Int32 → Int32 → Option (Sg)} (hr45 : ∀ {σ : Sg} {x1 : Int32} {x2 : Int32} {x3 : Int32} {H : Heap} {locs : List Loc} {ls : Array Slot}, z45 σ x1 x2 x3 = some rr → lv_has ls 5 [(0, .ref b), (1, .int x1), (2, .int x2), (3, .int x3)] → MW D κ b σ H → va_S (sg_A b 16) H0 H locs → W p l e rm_X8_putField s m args below meth c H locs 0 0 Q (F0 m 45 ls [])) {z82 : Sg → Int32 → Int32 → Int32 → Int32 → Option (Sg)} (hr82 : ∀ {σ : Sg} {x1 : Int32} {x2 : Int32} {x3 : Int32} {x4 : Int32} {H : Heap} {locs : List Loc} {ls : Array Slot}, z82 σ x1 x2 x3 x4 = some rr → lv_has ls 5 [(0, .ref b), (1, .int x1), (2, .int x2), (3, .int x3), (4, .int x4)] → MW D κ b σ H → va_S (sg_A b 16) H0 H locs → W p l e rm_X8_putField s m args below meth c H locs 0 0 Q (F0 m 82 ls [])) : ∀ {σ : Sg} {x1 : Int32} {x2 : Int32} {x3 : Int32} {x4 : Int32} {H : Heap} {locs : List Loc} {ls : Array Slot}, fn_X8_putField_B82b b z45 z82 σ x1 x2 x3 x4 = some rr → lv_has ls 5 [(0, .ref b), (1, .int x1), (2, .int x2), (3, .int x3), (4, .int x4)] → MW D κ b σ H → va_S (sg_A b 16) H0 H locs → W p l e rm_X8_putField s m args below meth c H locs 0 0 Q (F0 m 82 ls []) := by
  obtain ⟨hx, hb, hml, hown, hts, hK⟩ := hZ
  intro σ x1 x2 x3 x4 H locs ls h hl hC hS
  unfold fn_X8_putField_B82b at h
  refine lv_iload hx hb dX8_putField_82 (lv_at hl 4 rfl) ?_
  refine lv_aload_n hx hb dX8_putField_84 rfl (lv_at hl 0 rfl) ?_
  refine va_get (D := D) (ci := 8) (v := .ref (b + 9)) (C := RX8) (T := TX8) (N := 21) hx hb hts (wqs inW_X8) hown hK.1 hC.1 (b - b) sg_gModel rfl 10 (by decide) (hts _ (wq wt_658)) (fun _ h9 => h9) rfl dX8_putField_85 ?_
  refine lv_iload_n hx hb dX8_putField_88 rfl (lv_at hl 3 rfl) ?_
  obtain ⟨hg, h⟩ := sg_gd h
  refine va_iald hx hb hK.1 hC.1 ((b + 9) - b) 0 sg_ga_sizes rfl (sg_in hg) dX8_putField_89 ?_
  refine lv_icmp_ge (tgt := 115) hx hb dX8_putField_90 (by decide) (fun hc => ?_) (fun hc => ?_)
  · replace h := (if_pos hc).symm.trans h
    obtain ⟨v1, ev1, h⟩ := sg_lte h
    refine lv_iinc (v := v1) (lv' := [(3, .int v1), (0, .ref b), (1, .int x1), (2, .int x2), (4, .int x4)]) (k := 3) hx hb dX8_putField_115 hl rfl (sg_inc (by decide) ev1) (by decide) rfl (fun ls hl => ?_)
    refine lv_goto (tgt := 45) hx hb dX8_putField_118 (by decide) ?_
    exact hr45 h (lv_sub hl [1, 2, 3, 0] rfl) hC hS
  · replace h := (if_neg hc).symm.trans h
    refine lv_aload_n hx hb dX8_putField_93 rfl (lv_at hl 0 rfl) ?_
    refine lv_aload_n hx hb dX8_putField_94 rfl (lv_at hl 0 rfl) ?_
    refine va_get (D := D) (ci := 8) (v := .ref (b + 10)) (C := RX8) (T := TX8) (N := 21) hx hb hts (wqs inW_X8) hown hK.1 hC.1 (b - b) sg_gModel rfl 11 (by decide) (hts _ (wq wt_659)) (fun _ h9 => h9) rfl dX8_putField_95 ?_
    refine lv_bipush (v := 20) hx hb dX8_putField_98 (by decide) ?_
    refine lv_iload_n hx hb dX8_putField_100 rfl (lv_at hl 3 rfl) ?_
    refine lv_imul hx hb dX8_putField_101 ?_
    refine lv_iload hx hb dX8_putField_102 (lv_at hl 4 rfl) ?_
    refine lv_iadd hx hb dX8_putField_104 ?_
    obtain ⟨hg, h⟩ := sg_gd h
    refine va_iald hx hb hK.1 hC.1 ((b + 10) - b) 0 sg_ga_characters rfl (sg_in hg) dX8_putField_105 ?_
    obtain ⟨r2, er2, h⟩ := Option.bind_eq_some_iff.mp h
    refine va_callv (va_runV (As := [.int (σ.1 (b + 10) (sg_x ((20 * x3) + x4)))]) (rest := []) ⟨hx, hb, hml, hown, hts⟩ (c_X8_put l D κ b σ (σ.1 (b + 10) (sg_x ((20 * x3) + x4))) _ er2) (cwV 1 hts (gwV wt_717 wt_719 wp_30 wt_9 wt_720) rfl rfl rfl (by decide +kernel) ⟨Nat.le_of_ble_eq_true rfl, Nat.le_of_ble_eq_true rfl⟩) (MW_preV hK hC sg_gModel rfl) rfl rfl hl.1 rfl (lv_room (Nat.le_of_ble_eq_true rfl)) dX8_putField_106 ⟨Nat.zero_le _, Nat.zero_le _⟩) hS (fun _ _ h => h) (fun _ h => h) (fun u t H locs ht _ hp hB _ _ hS => ?_)
    have hC : MW D κ b r2 H := MW_b hB ht hp
    obtain ⟨v3, ev3, h⟩ := sg_lte h
    refine lv_iinc (v := v3) (lv' := [(4, .int v3), (0, .ref b), (1, .int x1), (2, .int x2), (3, .int x3)]) (k := 4) hx hb dX8_putField_109 hl rfl (sg_inc (by decide) ev3) (by decide) rfl (fun ls hl => ?_)
    refine lv_goto (tgt := 82) hx hb dX8_putField_112 (by decide) ?_
    exact hr82 h (lv_sub hl [1, 2, 3, 4, 0] rfl) hC hS
set_option maxHeartbeats 4000000 in
theorem w_X8_putField_B82 {p : Program} {l : Launch} {e : Env} {s : State} {m : MethodId} {args : Array Value} {below : List Frame} {meth : Method} {c : Code} {Q : State → Prop} {D : va_G} {κ : Nat → ClassId} {b : Nat} {H0 : Heap} {rr : Sg} (hZ : sg_Z p c s m args D κ cX8_putField 5 RX8 wsX8_putField) (hret : ∀ (u : Sg) (H : Heap) (locs : List Loc) (pc : Nat) (ls : Array Slot), some u = some rr → MW D κ b u H → va_S (sg_A b 16) H0 H locs → decode cX8_putField pc = .ok (.return_, 1) → W p l e rm_X8_putField s m args below meth c H locs 0 0 Q (F0 m pc ls [])) {z45 : Sg → Int32 → Int32 → Int32 → Option (Sg)} (hr45 : ∀ {σ : Sg} {x1 : Int32} {x2 : Int32} {x3 : Int32} {H : Heap} {locs : List Loc} {ls : Array Slot}, z45 σ x1 x2 x3 = some rr → lv_has ls 5 [(0, .ref b), (1, .int x1), (2, .int x2), (3, .int x3)] → MW D κ b σ H → va_S (sg_A b 16) H0 H locs → W p l e rm_X8_putField s m args below meth c H locs 0 0 Q (F0 m 45 ls [])) : ∀ n : Nat, ∀ {σ : Sg} {x1 : Int32} {x2 : Int32} {x3 : Int32} {x4 : Int32} {H : Heap} {locs : List Loc} {ls : Array Slot}, fn_X8_putField_B82 b z45 n σ x1 x2 x3 x4 = some rr → lv_has ls 5 [(0, .ref b), (1, .int x1), (2, .int x2), (3, .int x3), (4, .int x4)] → MW D κ b σ H → va_S (sg_A b 16) H0 H locs → W p l e rm_X8_putField s m args below meth c H locs 0 0 Q (F0 m 82 ls []) := by
  intro n
  induction n with
  | zero => intro σ x1 x2 x3 x4 H locs ls h hl hC hS; cases (show (none : Option (Sg)) = some rr from h)
  | succ n ih =>
    intro σ x1 x2 x3 x4 H locs ls h hl hC hS
    exact w_X8_putField_B82b hZ hret hr45 ih (show fn_X8_putField_B82b b z45 (fn_X8_putField_B82 b z45 n) σ x1 x2 x3 x4 = some rr from h)  hl hC hS
def fn_X8_putField_B79 (b : Nat) (z45 : Sg → Int32 → Int32 → Int32 → Option (Sg)) (σ : Sg) (x1 : Int32) (x2 : Int32) (x3 : Int32) : Option (Sg) :=
  fn_X8_putField_B82 b z45 sg_N σ x1 x2 x3 0
set_option maxHeartbeats 4000000 in
set_option maxRecDepth 100000 in
theorem w_X8_putField_B79 {p : Program} {l : Launch} {e : Env} {s : State} {m : MethodId} {args : Array Value} {below : List Frame} {meth : Method} {c : Code} {Q : State → Prop} {D : va_G} {κ : Nat → ClassId} {b : Nat} {H0 : Heap} {rr : Sg} (hZ : sg_Z p c s m args D κ cX8_putField 5 RX8 wsX8_putField) (hret : ∀ (u : Sg) (H : Heap) (locs : List Loc) (pc : Nat) (ls : Array Slot), some u = some rr → MW D κ b u H → va_S (sg_A b 16) H0 H locs → decode cX8_putField pc = .ok (.return_, 1) → W p l e rm_X8_putField s m args below meth c H locs 0 0 Q (F0 m pc ls [])) {z45 : Sg → Int32 → Int32 → Int32 → Option (Sg)} (hr45 : ∀ {σ : Sg} {x1 : Int32} {x2 : Int32} {x3 : Int32} {H : Heap} {locs : List Loc} {ls : Array Slot}, z45 σ x1 x2 x3 = some rr → lv_has ls 5 [(0, .ref b), (1, .int x1), (2, .int x2), (3, .int x3)] → MW D κ b σ H → va_S (sg_A b 16) H0 H locs → W p l e rm_X8_putField s m args below meth c H locs 0 0 Q (F0 m 45 ls [])) : ∀ {σ : Sg} {x1 : Int32} {x2 : Int32} {x3 : Int32} {H : Heap} {locs : List Loc} {ls : Array Slot}, fn_X8_putField_B79 b z45 σ x1 x2 x3 = some rr → lv_has ls 5 [(0, .ref b), (1, .int x1), (2, .int x2), (3, .int x3)] → MW D κ b σ H → va_S (sg_A b 16) H0 H locs → W p l e rm_X8_putField s m args below meth c H locs 0 0 Q (F0 m 79 ls []) := by
  obtain ⟨hx, hb, hml, hown, hts, hK⟩ := hZ
  intro σ x1 x2 x3 H locs ls h hl hC hS
  unfold fn_X8_putField_B79 at h
  refine lv_iconst (v := 0) hx hb dX8_putField_79 (by decide) ?_
  refine lv_istore (lv' := [(4, .int 0), (0, .ref b), (1, .int x1), (2, .int x2), (3, .int x3)]) hx hb dX8_putField_80 hl (by decide) rfl (fun ls hl => ?_)
  exact w_X8_putField_B82 ⟨hx, hb, hml, hown, hts, hK⟩ hret hr45 sg_N h (lv_sub hl [1, 2, 3, 4, 0] rfl) hC hS
def fn_X8_putField_B45b (b : Nat) (z45 : Sg → Int32 → Int32 → Int32 → Option (Sg)) (σ : Sg) (x1 : Int32) (x2 : Int32) (x3 : Int32) : Option (Sg) :=
  (if sg_ib x1 48 then
  (if (((4 * x1) + (σ.1 (b + 7) (sg_x x1))) : Int32) ≤ x3 then
  ((fn_X8_put b σ 30).bind fun r1 =>
  some r1)
  else (if x2 = 0 then
  ((fn_X8_put b σ 31).bind fun r2 =>
  (if sg_ib x3 192 then
  ((fn_X8_put b r2 (r2.1 (b + 8) (sg_x x3))).bind fun r3 =>
  fn_X8_putField_B79 b z45 r3 x1 x2 x3)
  else none))
  else fn_X8_putField_B79 b z45 σ x1 x2 x3))
  else none)
def fn_X8_putField_B45 (b : Nat) : Nat → Sg → Int32 → Int32 → Int32 → Option (Sg)
  | 0 => fun _ _ _ _ => none
  | n + 1 => fun σ x1 x2 x3 => fn_X8_putField_B45b b (fn_X8_putField_B45 b n) σ x1 x2 x3
set_option maxHeartbeats 4000000 in
set_option maxRecDepth 100000 in
theorem w_X8_putField_B45b {p : Program} {l : Launch} {e : Env} {s : State} {m : MethodId} {args : Array Value} {below : List Frame} {meth : Method} {c : Code} {Q : State → Prop} {D : va_G} {κ : Nat → ClassId} {b : Nat} {H0 : Heap} {rr : Sg} (hZ : sg_Z p c s m args D κ cX8_putField 5 RX8 wsX8_putField) (hret : ∀ (u : Sg) (H : Heap) (locs : List Loc) (pc : Nat) (ls : Array Slot), some u = some rr → MW D κ b u H → va_S (sg_A b 16) H0 H locs → decode cX8_putField pc = .ok (.return_, 1) → W p l e rm_X8_putField s m args below meth c H locs 0 0 Q (F0 m pc ls [])) {z45 : Sg → Int32 → Int32 → Int32 → Option (Sg)} (hr45 : ∀ {σ : Sg} {x1 : Int32} {x2 : Int32} {x3 : Int32} {H : Heap} {locs : List Loc} {ls : Array Slot}, z45 σ x1 x2 x3 = some rr → lv_has ls 5 [(0, .ref b), (1, .int x1), (2, .int x2), (3, .int x3)] → MW D κ b σ H → va_S (sg_A b 16) H0 H locs → W p l e rm_X8_putField s m args below meth c H locs 0 0 Q (F0 m 45 ls [])) : ∀ {σ : Sg} {x1 : Int32} {x2 : Int32} {x3 : Int32} {H : Heap} {locs : List Loc} {ls : Array Slot}, fn_X8_putField_B45b b z45 σ x1 x2 x3 = some rr → lv_has ls 5 [(0, .ref b), (1, .int x1), (2, .int x2), (3, .int x3)] → MW D κ b σ H → va_S (sg_A b 16) H0 H locs → W p l e rm_X8_putField s m args below meth c H locs 0 0 Q (F0 m 45 ls []) := by
  obtain ⟨hx, hb, hml, hown, hts, hK⟩ := hZ
  intro σ x1 x2 x3 H locs ls h hl hC hS
  unfold fn_X8_putField_B45b at h
  refine lv_iload_n hx hb dX8_putField_45 rfl (lv_at hl 3 rfl) ?_
  refine lv_iconst (v := 4) hx hb dX8_putField_46 (by decide) ?_
  refine lv_iload_n hx hb dX8_putField_47 rfl (lv_at hl 1 rfl) ?_
  refine lv_imul hx hb dX8_putField_48 ?_
  refine lv_aload_n hx hb dX8_putField_49 rfl (lv_at hl 0 rfl) ?_
  refine va_get (D := D) (ci := 8) (v := .ref (b + 7)) (C := RX8) (T := TX8) (N := 21) hx hb hts (wqs inW_X8) hown hK.1 hC.1 (b - b) sg_gModel rfl 8 (by decide) (hts _ (wq wt_656)) (fun _ h9 => h9) rfl dX8_putField_50 ?_
  refine lv_iload_n hx hb dX8_putField_53 rfl (lv_at hl 1 rfl) ?_
  obtain ⟨hg, h⟩ := sg_gd h
  refine va_iald hx hb hK.1 hC.1 ((b + 7) - b) 0 sg_ga_subfields rfl (sg_in hg) dX8_putField_54 ?_
  refine lv_iadd hx hb dX8_putField_55 ?_
  refine lv_icmp_ge (tgt := 121) hx hb dX8_putField_56 (by decide) (fun hc => ?_) (fun hc => ?_)
  · replace h := (if_pos hc).symm.trans h
    refine lv_aload_n hx hb dX8_putField_121 rfl (lv_at hl 0 rfl) ?_
    refine lv_bipush (v := 30) hx hb dX8_putField_122 (by decide) ?_
    obtain ⟨r1, er1, h⟩ := Option.bind_eq_some_iff.mp h
    refine va_callv (va_runV (As := [.int 30]) (rest := []) ⟨hx, hb, hml, hown, hts⟩ (c_X8_put l D κ b σ 30 _ er1) (cwV 1 hts (gwV wt_717 wt_719 wp_30 wt_9 wt_720) rfl rfl rfl (by decide +kernel) ⟨Nat.le_of_ble_eq_true rfl, Nat.le_of_ble_eq_true rfl⟩) (MW_preV hK hC sg_gModel rfl) rfl rfl hl.1 rfl (lv_room (Nat.le_of_ble_eq_true rfl)) dX8_putField_124 ⟨Nat.zero_le _, Nat.zero_le _⟩) hS (fun _ _ h => h) (fun _ h => h) (fun u t H locs ht _ hp hB _ _ hS => ?_)
    have hC : MW D κ b r1 H := MW_b hB ht hp
    exact hret _ _ _ _ _ h hC hS dX8_putField_127
  · replace h := (if_neg hc).symm.trans h
    refine lv_iload_n hx hb dX8_putField_59 rfl (lv_at hl 2 rfl) ?_
    refine lv_if_ne (tgt := 79) hx hb dX8_putField_60 (by decide) (fun hc => ?_) (fun hc => ?_)
    · replace h := (if_neg hc).symm.trans h
      exact w_X8_putField_B79 ⟨hx, hb, hml, hown, hts, hK⟩ hret hr45 h (lv_sub hl [0, 1, 2, 3] rfl) hC hS
    · replace h := (if_pos hc).symm.trans h
      refine lv_aload_n hx hb dX8_putField_63 rfl (lv_at hl 0 rfl) ?_
      refine lv_bipush (v := 31) hx hb dX8_putField_64 (by decide) ?_
      obtain ⟨r2, er2, h⟩ := Option.bind_eq_some_iff.mp h
      refine va_callv (va_runV (As := [.int 31]) (rest := []) ⟨hx, hb, hml, hown, hts⟩ (c_X8_put l D κ b σ 31 _ er2) (cwV 1 hts (gwV wt_717 wt_719 wp_30 wt_9 wt_720) rfl rfl rfl (by decide +kernel) ⟨Nat.le_of_ble_eq_true rfl, Nat.le_of_ble_eq_true rfl⟩) (MW_preV hK hC sg_gModel rfl) rfl rfl hl.1 rfl (lv_room (Nat.le_of_ble_eq_true rfl)) dX8_putField_66 ⟨Nat.zero_le _, Nat.zero_le _⟩) hS (fun _ _ h => h) (fun _ h => h) (fun u t H locs ht _ hp hB _ _ hS => ?_)
      have hC : MW D κ b r2 H := MW_b hB ht hp
      refine lv_aload_n hx hb dX8_putField_69 rfl (lv_at hl 0 rfl) ?_
      refine lv_aload_n hx hb dX8_putField_70 rfl (lv_at hl 0 rfl) ?_
      refine va_get (D := D) (ci := 8) (v := .ref (b + 8)) (C := RX8) (T := TX8) (N := 21) hx hb hts (wqs inW_X8) hown hK.1 hC.1 (b - b) sg_gModel rfl 9 (by decide) (hts _ (wq wt_657)) (fun _ h9 => h9) rfl dX8_putField_71 ?_
      refine lv_iload_n hx hb dX8_putField_74 rfl (lv_at hl 3 rfl) ?_
      obtain ⟨hg, h⟩ := sg_gd h
      refine va_iald hx hb hK.1 hC.1 ((b + 8) - b) 0 sg_ga_codes rfl (sg_in hg) dX8_putField_75 ?_
      obtain ⟨r3, er3, h⟩ := Option.bind_eq_some_iff.mp h
      refine va_callv (va_runV (As := [.int (r2.1 (b + 8) (sg_x x3))]) (rest := []) ⟨hx, hb, hml, hown, hts⟩ (c_X8_put l D κ b r2 (r2.1 (b + 8) (sg_x x3)) _ er3) (cwV 1 hts (gwV wt_717 wt_719 wp_30 wt_9 wt_720) rfl rfl rfl (by decide +kernel) ⟨Nat.le_of_ble_eq_true rfl, Nat.le_of_ble_eq_true rfl⟩) (MW_preV hK hC sg_gModel rfl) rfl rfl hl.1 rfl (lv_room (Nat.le_of_ble_eq_true rfl)) dX8_putField_76 ⟨Nat.zero_le _, Nat.zero_le _⟩) hS (fun _ _ h => h) (fun _ h => h) (fun u t H locs ht _ hp hB _ _ hS => ?_)
      have hC : MW D κ b r3 H := MW_b hB ht hp
      exact w_X8_putField_B79 ⟨hx, hb, hml, hown, hts, hK⟩ hret hr45 h (lv_sub hl [0, 1, 2, 3] rfl) hC hS
set_option maxHeartbeats 4000000 in
theorem w_X8_putField_B45 {p : Program} {l : Launch} {e : Env} {s : State} {m : MethodId} {args : Array Value} {below : List Frame} {meth : Method} {c : Code} {Q : State → Prop} {D : va_G} {κ : Nat → ClassId} {b : Nat} {H0 : Heap} {rr : Sg} (hZ : sg_Z p c s m args D κ cX8_putField 5 RX8 wsX8_putField) (hret : ∀ (u : Sg) (H : Heap) (locs : List Loc) (pc : Nat) (ls : Array Slot), some u = some rr → MW D κ b u H → va_S (sg_A b 16) H0 H locs → decode cX8_putField pc = .ok (.return_, 1) → W p l e rm_X8_putField s m args below meth c H locs 0 0 Q (F0 m pc ls [])) : ∀ n : Nat, ∀ {σ : Sg} {x1 : Int32} {x2 : Int32} {x3 : Int32} {H : Heap} {locs : List Loc} {ls : Array Slot}, fn_X8_putField_B45 b n σ x1 x2 x3 = some rr → lv_has ls 5 [(0, .ref b), (1, .int x1), (2, .int x2), (3, .int x3)] → MW D κ b σ H → va_S (sg_A b 16) H0 H locs → W p l e rm_X8_putField s m args below meth c H locs 0 0 Q (F0 m 45 ls []) := by
  intro n
  induction n with
  | zero => intro σ x1 x2 x3 H locs ls h hl hC hS; cases (show (none : Option (Sg)) = some rr from h)
  | succ n ih =>
    intro σ x1 x2 x3 H locs ls h hl hC hS
    exact w_X8_putField_B45b hZ hret ih (show fn_X8_putField_B45b b (fn_X8_putField_B45 b n) σ x1 x2 x3 = some rr from h)  hl hC hS
def fn_X8_putField_B41 (b : Nat) (σ : Sg) (x1 : Int32) (x2 : Int32) : Option (Sg) :=
  (sg_lt ((4 * x1) : Int32) fun v1 =>
  fn_X8_putField_B45 b sg_N σ x1 x2 v1)
set_option maxHeartbeats 4000000 in
set_option maxRecDepth 100000 in
theorem w_X8_putField_B41 {p : Program} {l : Launch} {e : Env} {s : State} {m : MethodId} {args : Array Value} {below : List Frame} {meth : Method} {c : Code} {Q : State → Prop} {D : va_G} {κ : Nat → ClassId} {b : Nat} {H0 : Heap} {rr : Sg} (hZ : sg_Z p c s m args D κ cX8_putField 5 RX8 wsX8_putField) (hret : ∀ (u : Sg) (H : Heap) (locs : List Loc) (pc : Nat) (ls : Array Slot), some u = some rr → MW D κ b u H → va_S (sg_A b 16) H0 H locs → decode cX8_putField pc = .ok (.return_, 1) → W p l e rm_X8_putField s m args below meth c H locs 0 0 Q (F0 m pc ls [])) : ∀ {σ : Sg} {x1 : Int32} {x2 : Int32} {H : Heap} {locs : List Loc} {ls : Array Slot}, fn_X8_putField_B41 b σ x1 x2 = some rr → lv_has ls 5 [(0, .ref b), (1, .int x1), (2, .int x2)] → MW D κ b σ H → va_S (sg_A b 16) H0 H locs → W p l e rm_X8_putField s m args below meth c H locs 0 0 Q (F0 m 41 ls []) := by
  obtain ⟨hx, hb, hml, hown, hts, hK⟩ := hZ
  intro σ x1 x2 H locs ls h hl hC hS
  unfold fn_X8_putField_B41 at h
  refine lv_iconst (v := 4) hx hb dX8_putField_41 (by decide) ?_
  refine lv_iload_n hx hb dX8_putField_42 rfl (lv_at hl 1 rfl) ?_
  refine lv_imul hx hb dX8_putField_43 ?_
  obtain ⟨v1, ev1, h⟩ := sg_lte h
  refine sg_topi ev1 ?_
  refine lv_istore_n (lv' := [(3, .int v1), (0, .ref b), (1, .int x1), (2, .int x2)]) hx hb dX8_putField_44 rfl hl (by decide) rfl (fun ls hl => ?_)
  exact w_X8_putField_B45 ⟨hx, hb, hml, hown, hts, hK⟩ hret  sg_N h (lv_sub hl [1, 2, 3, 0] rfl) hC hS
def fn_X8_putField_B16 (b : Nat) (σ : Sg) (x1 : Int32) (y0 : Int32) : Option (Sg) :=
  (if y0 = 0 then
  (if sg_ib x1 48 then
  ((fn_X8_put b σ (σ.1 (b + 5) (sg_x x1))).bind fun r1 =>
  (if sg_ib x1 48 then
  ((fn_X8_put b r1 (r1.1 (b + 6) (sg_x x1))).bind fun r2 =>
  fn_X8_putField_B41 b r2 x1 y0)
  else none))
  else none)
  else fn_X8_putField_B41 b σ x1 y0)
set_option maxHeartbeats 4000000 in
set_option maxRecDepth 100000 in
theorem w_X8_putField_B16 {p : Program} {l : Launch} {e : Env} {s : State} {m : MethodId} {args : Array Value} {below : List Frame} {meth : Method} {c : Code} {Q : State → Prop} {D : va_G} {κ : Nat → ClassId} {b : Nat} {H0 : Heap} {rr : Sg} (hZ : sg_Z p c s m args D κ cX8_putField 5 RX8 wsX8_putField) (hret : ∀ (u : Sg) (H : Heap) (locs : List Loc) (pc : Nat) (ls : Array Slot), some u = some rr → MW D κ b u H → va_S (sg_A b 16) H0 H locs → decode cX8_putField pc = .ok (.return_, 1) → W p l e rm_X8_putField s m args below meth c H locs 0 0 Q (F0 m pc ls [])) : ∀ {σ : Sg} {x1 : Int32} {y0 : Int32} {H : Heap} {locs : List Loc} {ls : Array Slot}, fn_X8_putField_B16 b σ x1 y0 = some rr → lv_has ls 5 [(0, .ref b), (1, .int x1)] → MW D κ b σ H → va_S (sg_A b 16) H0 H locs → W p l e rm_X8_putField s m args below meth c H locs 0 0 Q (F0 m 16 ls [.int y0]) := by
  obtain ⟨hx, hb, hml, hown, hts, hK⟩ := hZ
  intro σ x1 y0 H locs ls h hl hC hS
  unfold fn_X8_putField_B16 at h
  refine lv_istore_n (lv' := [(2, .int y0), (0, .ref b), (1, .int x1)]) hx hb dX8_putField_16 rfl hl (by decide) rfl (fun ls hl => ?_)
  refine lv_iload_n hx hb dX8_putField_17 rfl (lv_at hl 0 rfl) ?_
  refine lv_if_ne (tgt := 41) hx hb dX8_putField_18 (by decide) (fun hc => ?_) (fun hc => ?_)
  · replace h := (if_neg hc).symm.trans h
    exact w_X8_putField_B41 ⟨hx, hb, hml, hown, hts, hK⟩ hret  h (lv_sub hl [1, 2, 0] rfl) hC hS
  · replace h := (if_pos hc).symm.trans h
    refine lv_aload_n hx hb dX8_putField_21 rfl (lv_at hl 1 rfl) ?_
    refine lv_aload_n hx hb dX8_putField_22 rfl (lv_at hl 1 rfl) ?_
    refine va_get (D := D) (ci := 8) (v := .ref (b + 5)) (C := RX8) (T := TX8) (N := 21) hx hb hts (wqs inW_X8) hown hK.1 hC.1 (b - b) sg_gModel rfl 6 (by decide) (hts _ (wq wt_654)) (fun _ h9 => h9) rfl dX8_putField_23 ?_
    refine lv_iload_n hx hb dX8_putField_26 rfl (lv_at hl 2 rfl) ?_
    obtain ⟨hg, h⟩ := sg_gd h
    refine va_iald hx hb hK.1 hC.1 ((b + 5) - b) 0 sg_ga_firsts rfl (sg_in hg) dX8_putField_27 ?_
    obtain ⟨r1, er1, h⟩ := Option.bind_eq_some_iff.mp h
    refine va_callv (va_runV (As := [.int (σ.1 (b + 5) (sg_x x1))]) (rest := []) ⟨hx, hb, hml, hown, hts⟩ (c_X8_put l D κ b σ (σ.1 (b + 5) (sg_x x1)) _ er1) (cwV 1 hts (gwV wt_717 wt_719 wp_30 wt_9 wt_720) rfl rfl rfl (by decide +kernel) ⟨Nat.le_of_ble_eq_true rfl, Nat.le_of_ble_eq_true rfl⟩) (MW_preV hK hC sg_gModel rfl) rfl rfl hl.1 rfl (lv_room (Nat.le_of_ble_eq_true rfl)) dX8_putField_28 ⟨Nat.zero_le _, Nat.zero_le _⟩) hS (fun _ _ h => h) (fun _ h => h) (fun u t H locs ht _ hp hB _ _ hS => ?_)
    have hC : MW D κ b r1 H := MW_b hB ht hp
    refine lv_aload_n hx hb dX8_putField_31 rfl (lv_at hl 1 rfl) ?_
    refine lv_aload_n hx hb dX8_putField_32 rfl (lv_at hl 1 rfl) ?_
    refine va_get (D := D) (ci := 8) (v := .ref (b + 6)) (C := RX8) (T := TX8) (N := 21) hx hb hts (wqs inW_X8) hown hK.1 hC.1 (b - b) sg_gModel rfl 7 (by decide) (hts _ (wq wt_655)) (fun _ h9 => h9) rfl dX8_putField_33 ?_
    refine lv_iload_n hx hb dX8_putField_36 rfl (lv_at hl 2 rfl) ?_
    obtain ⟨hg, h⟩ := sg_gd h
    refine va_iald hx hb hK.1 hC.1 ((b + 6) - b) 0 sg_ga_seconds rfl (sg_in hg) dX8_putField_37 ?_
    obtain ⟨r2, er2, h⟩ := Option.bind_eq_some_iff.mp h
    refine va_callv (va_runV (As := [.int (r1.1 (b + 6) (sg_x x1))]) (rest := []) ⟨hx, hb, hml, hown, hts⟩ (c_X8_put l D κ b r1 (r1.1 (b + 6) (sg_x x1)) _ er2) (cwV 1 hts (gwV wt_717 wt_719 wp_30 wt_9 wt_720) rfl rfl rfl (by decide +kernel) ⟨Nat.le_of_ble_eq_true rfl, Nat.le_of_ble_eq_true rfl⟩) (MW_preV hK hC sg_gModel rfl) rfl rfl hl.1 rfl (lv_room (Nat.le_of_ble_eq_true rfl)) dX8_putField_38 ⟨Nat.zero_le _, Nat.zero_le _⟩) hS (fun _ _ h => h) (fun _ h => h) (fun u t H locs ht _ hp hB _ _ hS => ?_)
    have hC : MW D κ b r2 H := MW_b hB ht hp
    exact w_X8_putField_B41 ⟨hx, hb, hml, hown, hts, hK⟩ hret  h (lv_sub hl [1, 2, 0] rfl) hC hS
def fn_X8_putField (b : Nat) (σ : Sg) (x1 : Int32) : Option (Sg) :=
  (if sg_ib x1 48 then
  (if (10 : Int32) ≤ (σ.1 (b + 4) (sg_x x1)) then
  fn_X8_putField_B16 b σ x1 0
  else fn_X8_putField_B16 b σ x1 1)
  else none)
set_option maxHeartbeats 4000000 in
set_option maxRecDepth 100000 in
theorem w_X8_putField_B0 {p : Program} {l : Launch} {e : Env} {s : State} {m : MethodId} {args : Array Value} {below : List Frame} {meth : Method} {c : Code} {Q : State → Prop} {D : va_G} {κ : Nat → ClassId} {b : Nat} {H0 : Heap} {rr : Sg} (hZ : sg_Z p c s m args D κ cX8_putField 5 RX8 wsX8_putField) (hret : ∀ (u : Sg) (H : Heap) (locs : List Loc) (pc : Nat) (ls : Array Slot), some u = some rr → MW D κ b u H → va_S (sg_A b 16) H0 H locs → decode cX8_putField pc = .ok (.return_, 1) → W p l e rm_X8_putField s m args below meth c H locs 0 0 Q (F0 m pc ls [])) : ∀ {σ : Sg} {x1 : Int32} {H : Heap} {locs : List Loc} {ls : Array Slot}, fn_X8_putField b σ x1 = some rr → lv_has ls 5 [(0, .ref b), (1, .int x1)] → MW D κ b σ H → va_S (sg_A b 16) H0 H locs → W p l e rm_X8_putField s m args below meth c H locs 0 0 Q (F0 m 0 ls []) := by
  obtain ⟨hx, hb, hml, hown, hts, hK⟩ := hZ
  intro σ x1 H locs ls h hl hC hS
  unfold fn_X8_putField at h
  refine lv_aload_n hx hb dX8_putField_0 rfl (lv_at hl 0 rfl) ?_
  refine va_get (D := D) (ci := 8) (v := .ref (b + 4)) (C := RX8) (T := TX8) (N := 21) hx hb hts (wqs inW_X8) hown hK.1 hC.1 (b - b) sg_gModel rfl 5 (by decide) (hts _ (wq wt_653)) (fun _ h9 => h9) rfl dX8_putField_1 ?_
  refine lv_iload_n hx hb dX8_putField_4 rfl (lv_at hl 1 rfl) ?_
  obtain ⟨hg, h⟩ := sg_gd h
  refine va_iald hx hb hK.1 hC.1 ((b + 4) - b) 0 sg_ga_tags rfl (sg_in hg) dX8_putField_5 ?_
  refine lv_bipush (v := 10) hx hb dX8_putField_6 (by decide) ?_
  refine lv_icmp_ge (tgt := 15) hx hb dX8_putField_8 (by decide) (fun hc => ?_) (fun hc => ?_)
  · replace h := (if_pos hc).symm.trans h
    refine lv_iconst (v := 0) hx hb dX8_putField_15 (by decide) ?_
    exact w_X8_putField_B16 ⟨hx, hb, hml, hown, hts, hK⟩ hret  h (lv_sub hl [0, 1] rfl) hC hS
  · replace h := (if_neg hc).symm.trans h
    refine lv_iconst (v := 1) hx hb dX8_putField_11 (by decide) ?_
    refine lv_goto (tgt := 16) hx hb dX8_putField_12 (by decide) ?_
    exact w_X8_putField_B16 ⟨hx, hb, hml, hown, hts, hK⟩ hret  h (lv_sub hl [0, 1] rfl) hC hS
set_option maxHeartbeats 4000000 in
set_option maxRecDepth 100000 in
theorem c_X8_putField (l : Launch) (D : va_G) (κ : Nat → ClassId) (b : Nat) (σ : Sg) (x1 : Int32) (rr : Sg)  (h : fn_X8_putField b σ x1 = some rr) : Met l yX8_putField wsX8_putField rm_X8_putField (va_Pc [.ref b, .int x1] (fun U => KK D κ U ∧ MW D κ b σ U.heap)) (va_Qv (fun u : Sg => u = rr) (fun u t => MW D κ b u t.heap) (sg_A b 16)) 0 0 (sg_A b 16) := by
  refine Met.ofW (cc := cX8_putField) (maxL := 5) (ret := none) (by decide) rfl ?_
  intro p e s m args below meth c s₁ B hml hv
  obtain ⟨rfl, hK, hC⟩ := hv
  have hr := B.returns
  have hlocks := B.notSynchronized
  have hl := lv_entry ([.ref b, .int x1]) (n := 5) (Nat.le_of_ble_eq_true rfl)
  rw [lg_entry_eq]
  generalize (lg_sl ([.ref b, .int x1]) ++ List.replicate (5 - (lg_sl ([.ref b, .int x1])).length) Slot.unset).toArray = ls at hl ⊢
  have hl : lv_has ls 5 [(0, .ref b), (1, .int x1)] := hl
  exact w_X8_putField_B0 ⟨B.exec, B.bytes, hml, findClass_of_methodNamed B.named, atoms_spec (ws := wsX8_putField) B.pre, hK⟩ (fun u H locs pc ls hq hC hS hd => W.vret B.exec B.bytes hr (fun t ht hW => ⟨⟨_, rfl, Option.some.inj hq, MW_e ht hC⟩, hS.F ht⟩) hS.2.2 hd) h  hl hC va_S.rf

-- RecordShelfModel.write(I)I
theorem dX8_write_0 : decode cX8_write 0 = .ok (.aload_n 0, 1) := by decide +kernel
theorem dX8_write_1 : decode cX8_write 1 = .ok (.iload_n 1, 1) := by decide +kernel
theorem dX8_write_2 : decode cX8_write 2 = .ok (.invokevirtual 125, 3) := by decide +kernel
theorem dX8_write_5 : decode cX8_write 5 = .ok (.ifCond .ne 5, 3) := by decide +kernel
theorem dX8_write_8 : decode cX8_write 8 = .ok (.iconst (-1), 1) := by decide +kernel
theorem dX8_write_9 : decode cX8_write 9 = .ok (.ireturn, 1) := by decide +kernel
theorem dX8_write_10 : decode cX8_write 10 = .ok (.aload_n 0, 1) := by decide +kernel
theorem dX8_write_11 : decode cX8_write 11 = .ok (.getfield 16, 3) := by decide +kernel
theorem dX8_write_14 : decode cX8_write 14 = .ok (.iload_n 1, 1) := by decide +kernel
theorem dX8_write_15 : decode cX8_write 15 = .ok (.iaload, 1) := by decide +kernel
theorem dX8_write_16 : decode cX8_write 16 = .ok (.istore_n 2, 1) := by decide +kernel
theorem dX8_write_17 : decode cX8_write 17 = .ok (.bipush 25, 2) := by decide +kernel
theorem dX8_write_19 : decode cX8_write 19 = .ok (.bipush 12, 2) := by decide +kernel
theorem dX8_write_21 : decode cX8_write 21 = .ok (.iload_n 2, 1) := by decide +kernel
theorem dX8_write_22 : decode cX8_write 22 = .ok (.imul, 1) := by decide +kernel
theorem dX8_write_23 : decode cX8_write 23 = .ok (.iadd, 1) := by decide +kernel
theorem dX8_write_24 : decode cX8_write 24 = .ok (.istore_n 3, 1) := by decide +kernel
theorem dX8_write_25 : decode cX8_write 25 = .ok (.iload_n 3, 1) := by decide +kernel
theorem dX8_write_26 : decode cX8_write 26 = .ok (.iconst 1, 1) := by decide +kernel
theorem dX8_write_27 : decode cX8_write 27 = .ok (.iadd, 1) := by decide +kernel
theorem dX8_write_28 : decode cX8_write 28 = .ok (.istore 4, 2) := by decide +kernel
theorem dX8_write_30 : decode cX8_write 30 = .ok (.bipush 8, 2) := by decide +kernel
theorem dX8_write_32 : decode cX8_write 32 = .ok (.iload_n 1, 1) := by decide +kernel
theorem dX8_write_33 : decode cX8_write 33 = .ok (.imul, 1) := by decide +kernel
theorem dX8_write_34 : decode cX8_write 34 = .ok (.istore 5, 2) := by decide +kernel
theorem dX8_write_36 : decode cX8_write 36 = .ok (.iload 5, 2) := by decide +kernel
theorem dX8_write_38 : decode cX8_write 38 = .ok (.bipush 8, 2) := by decide +kernel
theorem dX8_write_40 : decode cX8_write 40 = .ok (.iload_n 1, 1) := by decide +kernel
theorem dX8_write_41 : decode cX8_write 41 = .ok (.imul, 1) := by decide +kernel
theorem dX8_write_42 : decode cX8_write 42 = .ok (.iload_n 2, 1) := by decide +kernel
theorem dX8_write_43 : decode cX8_write 43 = .ok (.iadd, 1) := by decide +kernel
theorem dX8_write_44 : decode cX8_write 44 = .ok (.if_icmp .ge 24, 3) := by decide +kernel
theorem dX8_write_47 : decode cX8_write 47 = .ok (.aload_n 0, 1) := by decide +kernel
theorem dX8_write_48 : decode cX8_write 48 = .ok (.iload 5, 2) := by decide +kernel
theorem dX8_write_50 : decode cX8_write 50 = .ok (.invokevirtual 136, 3) := by decide +kernel
theorem dX8_write_53 : decode cX8_write 53 = .ok (.istore 6, 2) := by decide +kernel
theorem dX8_write_55 : decode cX8_write 55 = .ok (.iload 4, 2) := by decide +kernel
theorem dX8_write_57 : decode cX8_write 57 = .ok (.iload 6, 2) := by decide +kernel
theorem dX8_write_59 : decode cX8_write 59 = .ok (.iadd, 1) := by decide +kernel
theorem dX8_write_60 : decode cX8_write 60 = .ok (.istore 4, 2) := by decide +kernel
theorem dX8_write_62 : decode cX8_write 62 = .ok (.iinc 5 1, 3) := by decide +kernel
theorem dX8_write_65 : decode cX8_write 65 = .ok (.goto (-29), 3) := by decide +kernel
theorem dX8_write_68 : decode cX8_write 68 = .ok (.iload 4, 2) := by decide +kernel
theorem dX8_write_70 : decode cX8_write 70 = .ok (.sipush 600, 3) := by decide +kernel
theorem dX8_write_73 : decode cX8_write 73 = .ok (.if_icmp .le 6, 3) := by decide +kernel
theorem dX8_write_76 : decode cX8_write 76 = .ok (.bipush (-2), 2) := by decide +kernel
theorem dX8_write_78 : decode cX8_write 78 = .ok (.ireturn, 1) := by decide +kernel
theorem dX8_write_79 : decode cX8_write 79 = .ok (.aload_n 0, 1) := by decide +kernel
theorem dX8_write_80 : decode cX8_write 80 = .ok (.iconst 0, 1) := by decide +kernel
theorem dX8_write_81 : decode cX8_write 81 = .ok (.putfield 65, 3) := by decide +kernel
theorem dX8_write_84 : decode cX8_write 84 = .ok (.aload_n 0, 1) := by decide +kernel
theorem dX8_write_85 : decode cX8_write 85 = .ok (.iload 4, 2) := by decide +kernel
theorem dX8_write_87 : decode cX8_write 87 = .ok (.iconst 5, 1) := by decide +kernel
theorem dX8_write_88 : decode cX8_write 88 = .ok (.invokevirtual 140, 3) := by decide +kernel
theorem dX8_write_91 : decode cX8_write 91 = .ok (.iconst 0, 1) := by decide +kernel
theorem dX8_write_92 : decode cX8_write 92 = .ok (.istore 5, 2) := by decide +kernel
theorem dX8_write_94 : decode cX8_write 94 = .ok (.iload 5, 2) := by decide +kernel
theorem dX8_write_96 : decode cX8_write 96 = .ok (.iconst 5, 1) := by decide +kernel
theorem dX8_write_97 : decode cX8_write 97 = .ok (.if_icmp .ge 25, 3) := by decide +kernel
theorem dX8_write_100 : decode cX8_write 100 = .ok (.aload_n 0, 1) := by decide +kernel
theorem dX8_write_101 : decode cX8_write 101 = .ok (.aload_n 0, 1) := by decide +kernel
theorem dX8_write_102 : decode cX8_write 102 = .ok (.getfield 13, 3) := by decide +kernel
theorem dX8_write_105 : decode cX8_write 105 = .ok (.bipush 8, 2) := by decide +kernel
theorem dX8_write_107 : decode cX8_write 107 = .ok (.iload_n 1, 1) := by decide +kernel
theorem dX8_write_108 : decode cX8_write 108 = .ok (.imul, 1) := by decide +kernel
theorem dX8_write_109 : decode cX8_write 109 = .ok (.iload 5, 2) := by decide +kernel
theorem dX8_write_111 : decode cX8_write 111 = .ok (.iadd, 1) := by decide +kernel
theorem dX8_write_112 : decode cX8_write 112 = .ok (.iaload, 1) := by decide +kernel
theorem dX8_write_113 : decode cX8_write 113 = .ok (.invokevirtual 68, 3) := by decide +kernel
theorem dX8_write_116 : decode cX8_write 116 = .ok (.iinc 5 1, 3) := by decide +kernel
theorem dX8_write_119 : decode cX8_write 119 = .ok (.goto (-25), 3) := by decide +kernel
theorem dX8_write_122 : decode cX8_write 122 = .ok (.aload_n 0, 1) := by decide +kernel
theorem dX8_write_123 : decode cX8_write 123 = .ok (.bipush 22, 2) := by decide +kernel
theorem dX8_write_125 : decode cX8_write 125 = .ok (.iconst 2, 1) := by decide +kernel
theorem dX8_write_126 : decode cX8_write 126 = .ok (.invokevirtual 140, 3) := by decide +kernel
theorem dX8_write_129 : decode cX8_write 129 = .ok (.aload_n 0, 1) := by decide +kernel
theorem dX8_write_130 : decode cX8_write 130 = .ok (.iload_n 3, 1) := by decide +kernel
theorem dX8_write_131 : decode cX8_write 131 = .ok (.iconst 5, 1) := by decide +kernel
theorem dX8_write_132 : decode cX8_write 132 = .ok (.invokevirtual 140, 3) := by decide +kernel
theorem dX8_write_135 : decode cX8_write 135 = .ok (.iconst 5, 1) := by decide +kernel
theorem dX8_write_136 : decode cX8_write 136 = .ok (.istore 5, 2) := by decide +kernel
theorem dX8_write_138 : decode cX8_write 138 = .ok (.iload 5, 2) := by decide +kernel
theorem dX8_write_140 : decode cX8_write 140 = .ok (.bipush 8, 2) := by decide +kernel
theorem dX8_write_142 : decode cX8_write 142 = .ok (.if_icmp .ge 25, 3) := by decide +kernel
theorem dX8_write_145 : decode cX8_write 145 = .ok (.aload_n 0, 1) := by decide +kernel
theorem dX8_write_146 : decode cX8_write 146 = .ok (.aload_n 0, 1) := by decide +kernel
theorem dX8_write_147 : decode cX8_write 147 = .ok (.getfield 13, 3) := by decide +kernel
theorem dX8_write_150 : decode cX8_write 150 = .ok (.bipush 8, 2) := by decide +kernel
theorem dX8_write_152 : decode cX8_write 152 = .ok (.iload_n 1, 1) := by decide +kernel
theorem dX8_write_153 : decode cX8_write 153 = .ok (.imul, 1) := by decide +kernel
theorem dX8_write_154 : decode cX8_write 154 = .ok (.iload 5, 2) := by decide +kernel
theorem dX8_write_156 : decode cX8_write 156 = .ok (.iadd, 1) := by decide +kernel
theorem dX8_write_157 : decode cX8_write 157 = .ok (.iaload, 1) := by decide +kernel
theorem dX8_write_158 : decode cX8_write 158 = .ok (.invokevirtual 68, 3) := by decide +kernel
theorem dX8_write_161 : decode cX8_write 161 = .ok (.iinc 5 1, 3) := by decide +kernel
theorem dX8_write_164 : decode cX8_write 164 = .ok (.goto (-26), 3) := by decide +kernel
theorem dX8_write_167 : decode cX8_write 167 = .ok (.aload_n 0, 1) := by decide +kernel
theorem dX8_write_168 : decode cX8_write 168 = .ok (.sipush 4500, 3) := by decide +kernel
theorem dX8_write_171 : decode cX8_write 171 = .ok (.iconst 4, 1) := by decide +kernel
theorem dX8_write_172 : decode cX8_write 172 = .ok (.invokevirtual 140, 3) := by decide +kernel
theorem dX8_write_175 : decode cX8_write 175 = .ok (.iconst 0, 1) := by decide +kernel
theorem dX8_write_176 : decode cX8_write 176 = .ok (.istore 5, 2) := by decide +kernel
theorem dX8_write_178 : decode cX8_write 178 = .ok (.bipush 8, 2) := by decide +kernel
theorem dX8_write_180 : decode cX8_write 180 = .ok (.iload_n 1, 1) := by decide +kernel
theorem dX8_write_181 : decode cX8_write 181 = .ok (.imul, 1) := by decide +kernel
theorem dX8_write_182 : decode cX8_write 182 = .ok (.istore 6, 2) := by decide +kernel
theorem dX8_write_184 : decode cX8_write 184 = .ok (.iload 6, 2) := by decide +kernel
theorem dX8_write_186 : decode cX8_write 186 = .ok (.bipush 8, 2) := by decide +kernel
theorem dX8_write_188 : decode cX8_write 188 = .ok (.iload_n 1, 1) := by decide +kernel
theorem dX8_write_189 : decode cX8_write 189 = .ok (.imul, 1) := by decide +kernel
theorem dX8_write_190 : decode cX8_write 190 = .ok (.iload_n 2, 1) := by decide +kernel
theorem dX8_write_191 : decode cX8_write 191 = .ok (.iadd, 1) := by decide +kernel
theorem dX8_write_192 : decode cX8_write 192 = .ok (.if_icmp .ge 50, 3) := by decide +kernel
theorem dX8_write_195 : decode cX8_write 195 = .ok (.aload_n 0, 1) := by decide +kernel
theorem dX8_write_196 : decode cX8_write 196 = .ok (.iload 6, 2) := by decide +kernel
theorem dX8_write_198 : decode cX8_write 198 = .ok (.invokevirtual 136, 3) := by decide +kernel
theorem dX8_write_201 : decode cX8_write 201 = .ok (.istore 7, 2) := by decide +kernel
theorem dX8_write_203 : decode cX8_write 203 = .ok (.aload_n 0, 1) := by decide +kernel
theorem dX8_write_204 : decode cX8_write 204 = .ok (.aload_n 0, 1) := by decide +kernel
theorem dX8_write_205 : decode cX8_write 205 = .ok (.getfield 19, 3) := by decide +kernel
theorem dX8_write_208 : decode cX8_write 208 = .ok (.iload 6, 2) := by decide +kernel
theorem dX8_write_210 : decode cX8_write 210 = .ok (.iaload, 1) := by decide +kernel
theorem dX8_write_211 : decode cX8_write 211 = .ok (.iconst 3, 1) := by decide +kernel
theorem dX8_write_212 : decode cX8_write 212 = .ok (.invokevirtual 140, 3) := by decide +kernel
theorem dX8_write_215 : decode cX8_write 215 = .ok (.aload_n 0, 1) := by decide +kernel
theorem dX8_write_216 : decode cX8_write 216 = .ok (.iload 7, 2) := by decide +kernel
theorem dX8_write_218 : decode cX8_write 218 = .ok (.iconst 4, 1) := by decide +kernel
theorem dX8_write_219 : decode cX8_write 219 = .ok (.invokevirtual 140, 3) := by decide +kernel
theorem dX8_write_222 : decode cX8_write 222 = .ok (.aload_n 0, 1) := by decide +kernel
theorem dX8_write_223 : decode cX8_write 223 = .ok (.iload 5, 2) := by decide +kernel
theorem dX8_write_225 : decode cX8_write 225 = .ok (.iconst 5, 1) := by decide +kernel
theorem dX8_write_226 : decode cX8_write 226 = .ok (.invokevirtual 140, 3) := by decide +kernel
theorem dX8_write_229 : decode cX8_write 229 = .ok (.iload 5, 2) := by decide +kernel
theorem dX8_write_231 : decode cX8_write 231 = .ok (.iload 7, 2) := by decide +kernel
theorem dX8_write_233 : decode cX8_write 233 = .ok (.iadd, 1) := by decide +kernel
theorem dX8_write_234 : decode cX8_write 234 = .ok (.istore 5, 2) := by decide +kernel
theorem dX8_write_236 : decode cX8_write 236 = .ok (.iinc 6 1, 3) := by decide +kernel
theorem dX8_write_239 : decode cX8_write 239 = .ok (.goto (-55), 3) := by decide +kernel
theorem dX8_write_242 : decode cX8_write 242 = .ok (.aload_n 0, 1) := by decide +kernel
theorem dX8_write_243 : decode cX8_write 243 = .ok (.bipush 30, 2) := by decide +kernel
theorem dX8_write_245 : decode cX8_write 245 = .ok (.invokevirtual 68, 3) := by decide +kernel
theorem dX8_write_248 : decode cX8_write 248 = .ok (.bipush 8, 2) := by decide +kernel
theorem dX8_write_250 : decode cX8_write 250 = .ok (.iload_n 1, 1) := by decide +kernel
theorem dX8_write_251 : decode cX8_write 251 = .ok (.imul, 1) := by decide +kernel
theorem dX8_write_252 : decode cX8_write 252 = .ok (.istore 6, 2) := by decide +kernel
theorem dX8_write_254 : decode cX8_write 254 = .ok (.iload 6, 2) := by decide +kernel
theorem dX8_write_256 : decode cX8_write 256 = .ok (.bipush 8, 2) := by decide +kernel
theorem dX8_write_258 : decode cX8_write 258 = .ok (.iload_n 1, 1) := by decide +kernel
theorem dX8_write_259 : decode cX8_write 259 = .ok (.imul, 1) := by decide +kernel
theorem dX8_write_260 : decode cX8_write 260 = .ok (.iload_n 2, 1) := by decide +kernel
theorem dX8_write_261 : decode cX8_write 261 = .ok (.iadd, 1) := by decide +kernel
theorem dX8_write_262 : decode cX8_write 262 = .ok (.if_icmp .ge 15, 3) := by decide +kernel
theorem dX8_write_265 : decode cX8_write 265 = .ok (.aload_n 0, 1) := by decide +kernel
theorem dX8_write_266 : decode cX8_write 266 = .ok (.iload 6, 2) := by decide +kernel
theorem dX8_write_268 : decode cX8_write 268 = .ok (.invokevirtual 143, 3) := by decide +kernel
theorem dX8_write_271 : decode cX8_write 271 = .ok (.iinc 6 1, 3) := by decide +kernel
theorem dX8_write_274 : decode cX8_write 274 = .ok (.goto (-20), 3) := by decide +kernel
theorem dX8_write_277 : decode cX8_write 277 = .ok (.aload_n 0, 1) := by decide +kernel
theorem dX8_write_278 : decode cX8_write 278 = .ok (.bipush 29, 2) := by decide +kernel
theorem dX8_write_280 : decode cX8_write 280 = .ok (.invokevirtual 68, 3) := by decide +kernel
theorem dX8_write_283 : decode cX8_write 283 = .ok (.aload_n 0, 1) := by decide +kernel
theorem dX8_write_284 : decode cX8_write 284 = .ok (.getfield 65, 3) := by decide +kernel
theorem dX8_write_287 : decode cX8_write 287 = .ok (.ireturn, 1) := by decide +kernel
def rm_X8_write : Room := { frames := 2, cells := 0, slots := 0, locals := 48 }
def fn_X8_write_B254b (b : Nat) (z254 : Sg → Int32 → Int32 → Int32 → Option (Int32 × Sg)) (σ : Sg) (x1 : Int32) (x2 : Int32) (x6 : Int32) : Option (Int32 × Sg) :=
  (if (((8 * x1) + x2) : Int32) ≤ x6 then
  ((fn_X8_put b σ 29).bind fun r1 =>
  some ((r1.1 b 1), r1))
  else ((fn_X8_putField b σ x6).bind fun r2 =>
  (sg_lt (x6 + 1 : Int32) fun v3 =>
  z254 r2 x1 x2 v3)))
def fn_X8_write_B254 (b : Nat) : Nat → Sg → Int32 → Int32 → Int32 → Option (Int32 × Sg)
  | 0 => fun _ _ _ _ => none
  | n + 1 => fun σ x1 x2 x6 => fn_X8_write_B254b b (fn_X8_write_B254 b n) σ x1 x2 x6
set_option maxHeartbeats 4000000 in
set_option maxRecDepth 100000 in
theorem w_X8_write_B254b {p : Program} {l : Launch} {e : Env} {s : State} {m : MethodId} {args : Array Value} {below : List Frame} {meth : Method} {c : Code} {Q : State → Prop} {D : va_G} {κ : Nat → ClassId} {b : Nat} {H0 : Heap} {rr : Int32 × Sg} (hZ : sg_Z p c s m args D κ cX8_write 8 RX8 wsX8_write) (hret : ∀ (v : Int32) (u : Sg) (H : Heap) (locs : List Loc) (pc : Nat) (ls : Array Slot), some (v, u) = some rr → MW D κ b u H → va_S (sg_A b 16) H0 H locs → decode cX8_write pc = .ok (.ireturn, 1) → W p l e rm_X8_write s m args below meth c H locs 0 0 Q (F0 m pc ls [.int v])) {z254 : Sg → Int32 → Int32 → Int32 → Option (Int32 × Sg)} (hr254 : ∀ {σ : Sg} {x1 : Int32} {x2 : Int32} {x6 : Int32} {H : Heap} {locs : List Loc} {ls : Array Slot}, z254 σ x1 x2 x6 = some rr → lv_has ls 8 [(0, .ref b), (1, .int x1), (2, .int x2), (6, .int x6)] → MW D κ b σ H → va_S (sg_A b 16) H0 H locs → W p l e rm_X8_write s m args below meth c H locs 0 0 Q (F0 m 254 ls [])) : ∀ {σ : Sg} {x1 : Int32} {x2 : Int32} {x6 : Int32} {H : Heap} {locs : List Loc} {ls : Array Slot}, fn_X8_write_B254b b z254 σ x1 x2 x6 = some rr → lv_has ls 8 [(0, .ref b), (1, .int x1), (2, .int x2), (6, .int x6)] → MW D κ b σ H → va_S (sg_A b 16) H0 H locs → W p l e rm_X8_write s m args below meth c H locs 0 0 Q (F0 m 254 ls []) := by
  obtain ⟨hx, hb, hml, hown, hts, hK⟩ := hZ
  intro σ x1 x2 x6 H locs ls h hl hC hS
  unfold fn_X8_write_B254b at h
  refine lv_iload hx hb dX8_write_254 (lv_at hl 3 rfl) ?_
  refine lv_bipush (v := 8) hx hb dX8_write_256 (by decide) ?_
  refine lv_iload_n hx hb dX8_write_258 rfl (lv_at hl 1 rfl) ?_
  refine lv_imul hx hb dX8_write_259 ?_
  refine lv_iload_n hx hb dX8_write_260 rfl (lv_at hl 2 rfl) ?_
  refine lv_iadd hx hb dX8_write_261 ?_
  refine lv_icmp_ge (tgt := 277) hx hb dX8_write_262 (by decide) (fun hc => ?_) (fun hc => ?_)
  · replace h := (if_pos hc).symm.trans h
    refine lv_aload_n hx hb dX8_write_277 rfl (lv_at hl 0 rfl) ?_
    refine lv_bipush (v := 29) hx hb dX8_write_278 (by decide) ?_
    obtain ⟨r1, er1, h⟩ := Option.bind_eq_some_iff.mp h
    refine va_callv (va_runV (As := [.int 29]) (rest := []) ⟨hx, hb, hml, hown, hts⟩ (c_X8_put l D κ b σ 29 _ er1) (cwV 1 hts (gwV wt_717 wt_719 wp_30 wt_9 wt_720) rfl rfl rfl (by decide +kernel) ⟨Nat.le_of_ble_eq_true rfl, Nat.le_of_ble_eq_true rfl⟩) (MW_preV hK hC sg_gModel rfl) rfl rfl hl.1 rfl (lv_room (Nat.le_of_ble_eq_true rfl)) dX8_write_280 ⟨Nat.zero_le _, Nat.zero_le _⟩) hS (fun _ _ h => h) (fun _ h => h) (fun u t H locs ht _ hp hB _ _ hS => ?_)
    have hC : MW D κ b r1 H := MW_b hB ht hp
    refine lv_aload_n hx hb dX8_write_283 rfl (lv_at hl 0 rfl) ?_
    refine va_get (D := D) (ci := 8) (v := .int (r1.1 b 1)) (C := RX8) (T := TX8) (N := 21) hx hb hts (wqs inW_X8) hown hK.1 hC.1 (b - b) sg_gModel rfl 1 (by decide) (hts _ (wq wt_649)) (fun _ h9 => h9) rfl dX8_write_284 ?_
    exact hret _ _ _ _ _ _ h hC hS dX8_write_287
  · replace h := (if_neg hc).symm.trans h
    refine lv_aload_n hx hb dX8_write_265 rfl (lv_at hl 0 rfl) ?_
    refine lv_iload hx hb dX8_write_266 (lv_at hl 3 rfl) ?_
    obtain ⟨r2, er2, h⟩ := Option.bind_eq_some_iff.mp h
    refine va_callv (va_runV (As := [.int x6]) (rest := []) ⟨hx, hb, hml, hown, hts⟩ (c_X8_putField l D κ b σ x6 _ er2) (cwV 1 hts (gwV wt_836 wt_838 wp_46 wt_9 wt_839) rfl rfl rfl (by decide +kernel) ⟨Nat.le_of_ble_eq_true rfl, Nat.le_of_ble_eq_true rfl⟩) (MW_preV hK hC sg_gModel rfl) rfl rfl hl.1 rfl (lv_room (Nat.le_of_ble_eq_true rfl)) dX8_write_268 ⟨Nat.zero_le _, Nat.zero_le _⟩) hS (fun _ _ h => h) (fun _ h => h) (fun u t H locs ht _ hp hB _ _ hS => ?_)
    have hC : MW D κ b r2 H := MW_b hB ht hp
    obtain ⟨v3, ev3, h⟩ := sg_lte h
    refine lv_iinc (v := v3) (lv' := [(6, .int v3), (0, .ref b), (1, .int x1), (2, .int x2)]) (k := 3) hx hb dX8_write_271 hl rfl (sg_inc (by decide) ev3) (by decide) rfl (fun ls hl => ?_)
    refine lv_goto (tgt := 254) hx hb dX8_write_274 (by decide) ?_
    exact hr254 h (lv_sub hl [1, 2, 3, 0] rfl) hC hS
set_option maxHeartbeats 4000000 in
theorem w_X8_write_B254 {p : Program} {l : Launch} {e : Env} {s : State} {m : MethodId} {args : Array Value} {below : List Frame} {meth : Method} {c : Code} {Q : State → Prop} {D : va_G} {κ : Nat → ClassId} {b : Nat} {H0 : Heap} {rr : Int32 × Sg} (hZ : sg_Z p c s m args D κ cX8_write 8 RX8 wsX8_write) (hret : ∀ (v : Int32) (u : Sg) (H : Heap) (locs : List Loc) (pc : Nat) (ls : Array Slot), some (v, u) = some rr → MW D κ b u H → va_S (sg_A b 16) H0 H locs → decode cX8_write pc = .ok (.ireturn, 1) → W p l e rm_X8_write s m args below meth c H locs 0 0 Q (F0 m pc ls [.int v])) : ∀ n : Nat, ∀ {σ : Sg} {x1 : Int32} {x2 : Int32} {x6 : Int32} {H : Heap} {locs : List Loc} {ls : Array Slot}, fn_X8_write_B254 b n σ x1 x2 x6 = some rr → lv_has ls 8 [(0, .ref b), (1, .int x1), (2, .int x2), (6, .int x6)] → MW D κ b σ H → va_S (sg_A b 16) H0 H locs → W p l e rm_X8_write s m args below meth c H locs 0 0 Q (F0 m 254 ls []) := by
  intro n
  induction n with
  | zero => intro σ x1 x2 x6 H locs ls h hl hC hS; cases (show (none : Option (Int32 × Sg)) = some rr from h)
  | succ n ih =>
    intro σ x1 x2 x6 H locs ls h hl hC hS
    exact w_X8_write_B254b hZ hret ih (show fn_X8_write_B254b b (fn_X8_write_B254 b n) σ x1 x2 x6 = some rr from h)  hl hC hS
def fn_X8_write_B184b (b : Nat) (z184 : Sg → Int32 → Int32 → Int32 → Int32 → Option (Int32 × Sg)) (σ : Sg) (x1 : Int32) (x2 : Int32) (x5 : Int32) (x6 : Int32) : Option (Int32 × Sg) :=
  (if (((8 * x1) + x2) : Int32) ≤ x6 then
  ((fn_X8_put b σ 30).bind fun r1 =>
  (sg_lt ((8 * x1) : Int32) fun v2 =>
  fn_X8_write_B254 b sg_N r1 x1 x2 v2))
  else ((fn_X8_lengthOf b σ x6).bind fun r3 =>
  (if sg_ib x6 48 then
  ((fn_X8_putNumber b σ (σ.1 (b + 4) (sg_x x6)) 3).bind fun r4 =>
  ((fn_X8_putNumber b r4 r3 4).bind fun r5 =>
  ((fn_X8_putNumber b r5 x5 5).bind fun r6 =>
  (sg_lt ((x5 + r3) : Int32) fun v7 =>
  (sg_lt (x6 + 1 : Int32) fun v8 =>
  z184 r6 x1 x2 v7 v8)))))
  else none)))
def fn_X8_write_B184 (b : Nat) : Nat → Sg → Int32 → Int32 → Int32 → Int32 → Option (Int32 × Sg)
  | 0 => fun _ _ _ _ _ => none
  | n + 1 => fun σ x1 x2 x5 x6 => fn_X8_write_B184b b (fn_X8_write_B184 b n) σ x1 x2 x5 x6
set_option maxHeartbeats 4000000 in
set_option maxRecDepth 100000 in
theorem w_X8_write_B184b {p : Program} {l : Launch} {e : Env} {s : State} {m : MethodId} {args : Array Value} {below : List Frame} {meth : Method} {c : Code} {Q : State → Prop} {D : va_G} {κ : Nat → ClassId} {b : Nat} {H0 : Heap} {rr : Int32 × Sg} (hZ : sg_Z p c s m args D κ cX8_write 8 RX8 wsX8_write) (hret : ∀ (v : Int32) (u : Sg) (H : Heap) (locs : List Loc) (pc : Nat) (ls : Array Slot), some (v, u) = some rr → MW D κ b u H → va_S (sg_A b 16) H0 H locs → decode cX8_write pc = .ok (.ireturn, 1) → W p l e rm_X8_write s m args below meth c H locs 0 0 Q (F0 m pc ls [.int v])) {z184 : Sg → Int32 → Int32 → Int32 → Int32 → Option (Int32 × Sg)} (hr184 : ∀ {σ : Sg} {x1 : Int32} {x2 : Int32} {x5 : Int32} {x6 : Int32} {H : Heap} {locs : List Loc} {ls : Array Slot}, z184 σ x1 x2 x5 x6 = some rr → lv_has ls 8 [(0, .ref b), (1, .int x1), (2, .int x2), (5, .int x5), (6, .int x6)] → MW D κ b σ H → va_S (sg_A b 16) H0 H locs → W p l e rm_X8_write s m args below meth c H locs 0 0 Q (F0 m 184 ls [])) : ∀ {σ : Sg} {x1 : Int32} {x2 : Int32} {x5 : Int32} {x6 : Int32} {H : Heap} {locs : List Loc} {ls : Array Slot}, fn_X8_write_B184b b z184 σ x1 x2 x5 x6 = some rr → lv_has ls 8 [(0, .ref b), (1, .int x1), (2, .int x2), (5, .int x5), (6, .int x6)] → MW D κ b σ H → va_S (sg_A b 16) H0 H locs → W p l e rm_X8_write s m args below meth c H locs 0 0 Q (F0 m 184 ls []) := by
  obtain ⟨hx, hb, hml, hown, hts, hK⟩ := hZ
  intro σ x1 x2 x5 x6 H locs ls h hl hC hS
  unfold fn_X8_write_B184b at h
  refine lv_iload hx hb dX8_write_184 (lv_at hl 4 rfl) ?_
  refine lv_bipush (v := 8) hx hb dX8_write_186 (by decide) ?_
  refine lv_iload_n hx hb dX8_write_188 rfl (lv_at hl 1 rfl) ?_
  refine lv_imul hx hb dX8_write_189 ?_
  refine lv_iload_n hx hb dX8_write_190 rfl (lv_at hl 2 rfl) ?_
  refine lv_iadd hx hb dX8_write_191 ?_
  refine lv_icmp_ge (tgt := 242) hx hb dX8_write_192 (by decide) (fun hc => ?_) (fun hc => ?_)
  · replace h := (if_pos hc).symm.trans h
    refine lv_aload_n hx hb dX8_write_242 rfl (lv_at hl 0 rfl) ?_
    refine lv_bipush (v := 30) hx hb dX8_write_243 (by decide) ?_
    obtain ⟨r1, er1, h⟩ := Option.bind_eq_some_iff.mp h
    refine va_callv (va_runV (As := [.int 30]) (rest := []) ⟨hx, hb, hml, hown, hts⟩ (c_X8_put l D κ b σ 30 _ er1) (cwV 1 hts (gwV wt_717 wt_719 wp_30 wt_9 wt_720) rfl rfl rfl (by decide +kernel) ⟨Nat.le_of_ble_eq_true rfl, Nat.le_of_ble_eq_true rfl⟩) (MW_preV hK hC sg_gModel rfl) rfl rfl hl.1 rfl (lv_room (Nat.le_of_ble_eq_true rfl)) dX8_write_245 ⟨Nat.zero_le _, Nat.zero_le _⟩) hS (fun _ _ h => h) (fun _ h => h) (fun u t H locs ht _ hp hB _ _ hS => ?_)
    have hC : MW D κ b r1 H := MW_b hB ht hp
    refine lv_bipush (v := 8) hx hb dX8_write_248 (by decide) ?_
    refine lv_iload_n hx hb dX8_write_250 rfl (lv_at hl 1 rfl) ?_
    refine lv_imul hx hb dX8_write_251 ?_
    obtain ⟨v2, ev2, h⟩ := sg_lte h
    refine sg_topi ev2 ?_
    refine lv_istore (lv' := [(6, .int v2), (0, .ref b), (1, .int x1), (2, .int x2), (5, .int x5)]) hx hb dX8_write_252 hl (by decide) rfl (fun ls hl => ?_)
    exact w_X8_write_B254 ⟨hx, hb, hml, hown, hts, hK⟩ hret  sg_N h (lv_sub hl [1, 2, 3, 0] rfl) hC hS
  · replace h := (if_neg hc).symm.trans h
    refine lv_aload_n hx hb dX8_write_195 rfl (lv_at hl 0 rfl) ?_
    refine lv_iload hx hb dX8_write_196 (lv_at hl 4 rfl) ?_
    obtain ⟨r3, er3, h⟩ := Option.bind_eq_some_iff.mp h
    refine va_calli (va_runV (As := [.int x6]) (rest := []) ⟨hx, hb, hml, hown, hts⟩ (c_X8_lengthOf l D κ b σ x6 _ er3) (cwV 1 hts (gwV wt_828 wt_830 wp_44 wt_9 wt_831) rfl rfl rfl (by decide +kernel) ⟨Nat.le_of_ble_eq_true rfl, Nat.le_of_ble_eq_true rfl⟩) (MW_preV hK hC sg_gModel rfl) rfl rfl hl.1 rfl (lv_room (Nat.le_of_ble_eq_true rfl)) dX8_write_198 ⟨Nat.zero_le _, Nat.zero_le _⟩) hS (fun _ _ h => h) (fun _ h => h) (fun r u t H locs ht _ hp hB _ _ hS => ?_)
    refine sg_topi hp.1 ?_
    have hC : MW D κ b σ H := MW_b hB ht hp.2
    refine lv_istore (lv' := [(7, .int r3), (0, .ref b), (1, .int x1), (2, .int x2), (5, .int x5), (6, .int x6)]) hx hb dX8_write_201 hl (by decide) rfl (fun ls hl => ?_)
    refine lv_aload_n hx hb dX8_write_203 rfl (lv_at hl 1 rfl) ?_
    refine lv_aload_n hx hb dX8_write_204 rfl (lv_at hl 1 rfl) ?_
    refine va_get (D := D) (ci := 8) (v := .ref (b + 4)) (C := RX8) (T := TX8) (N := 21) hx hb hts (wqs inW_X8) hown hK.1 hC.1 (b - b) sg_gModel rfl 5 (by decide) (hts _ (wq wt_653)) (fun _ h9 => h9) rfl dX8_write_205 ?_
    refine lv_iload hx hb dX8_write_208 (lv_at hl 5 rfl) ?_
    obtain ⟨hg, h⟩ := sg_gd h
    refine va_iald hx hb hK.1 hC.1 ((b + 4) - b) 0 sg_ga_tags rfl (sg_in hg) dX8_write_210 ?_
    refine lv_iconst (v := 3) hx hb dX8_write_211 (by decide) ?_
    obtain ⟨r4, er4, h⟩ := Option.bind_eq_some_iff.mp h
    refine va_callv (va_runV (As := [.int (σ.1 (b + 4) (sg_x x6)), .int 3]) (rest := []) ⟨hx, hb, hml, hown, hts⟩ (c_X8_putNumber l D κ b σ (σ.1 (b + 4) (sg_x x6)) 3 _ er4) (cwV 2 hts (gwV wt_832 wt_834 wp_45 wt_9 wt_835) rfl rfl rfl (by decide +kernel) ⟨Nat.le_of_ble_eq_true rfl, Nat.le_of_ble_eq_true rfl⟩) (MW_preV hK hC sg_gModel rfl) rfl rfl hl.1 rfl (lv_room (Nat.le_of_ble_eq_true rfl)) dX8_write_212 ⟨Nat.zero_le _, Nat.zero_le _⟩) hS (fun _ _ h => h) (fun _ h => h) (fun u t H locs ht _ hp hB _ _ hS => ?_)
    have hC : MW D κ b r4 H := MW_b hB ht hp
    refine lv_aload_n hx hb dX8_write_215 rfl (lv_at hl 1 rfl) ?_
    refine lv_iload hx hb dX8_write_216 (lv_at hl 0 rfl) ?_
    refine lv_iconst (v := 4) hx hb dX8_write_218 (by decide) ?_
    obtain ⟨r5, er5, h⟩ := Option.bind_eq_some_iff.mp h
    refine va_callv (va_runV (As := [.int r3, .int 4]) (rest := []) ⟨hx, hb, hml, hown, hts⟩ (c_X8_putNumber l D κ b r4 r3 4 _ er5) (cwV 2 hts (gwV wt_832 wt_834 wp_45 wt_9 wt_835) rfl rfl rfl (by decide +kernel) ⟨Nat.le_of_ble_eq_true rfl, Nat.le_of_ble_eq_true rfl⟩) (MW_preV hK hC sg_gModel rfl) rfl rfl hl.1 rfl (lv_room (Nat.le_of_ble_eq_true rfl)) dX8_write_219 ⟨Nat.zero_le _, Nat.zero_le _⟩) hS (fun _ _ h => h) (fun _ h => h) (fun u t H locs ht _ hp hB _ _ hS => ?_)
    have hC : MW D κ b r5 H := MW_b hB ht hp
    refine lv_aload_n hx hb dX8_write_222 rfl (lv_at hl 1 rfl) ?_
    refine lv_iload hx hb dX8_write_223 (lv_at hl 4 rfl) ?_
    refine lv_iconst (v := 5) hx hb dX8_write_225 (by decide) ?_
    obtain ⟨r6, er6, h⟩ := Option.bind_eq_some_iff.mp h
    refine va_callv (va_runV (As := [.int x5, .int 5]) (rest := []) ⟨hx, hb, hml, hown, hts⟩ (c_X8_putNumber l D κ b r5 x5 5 _ er6) (cwV 2 hts (gwV wt_832 wt_834 wp_45 wt_9 wt_835) rfl rfl rfl (by decide +kernel) ⟨Nat.le_of_ble_eq_true rfl, Nat.le_of_ble_eq_true rfl⟩) (MW_preV hK hC sg_gModel rfl) rfl rfl hl.1 rfl (lv_room (Nat.le_of_ble_eq_true rfl)) dX8_write_226 ⟨Nat.zero_le _, Nat.zero_le _⟩) hS (fun _ _ h => h) (fun _ h => h) (fun u t H locs ht _ hp hB _ _ hS => ?_)
    have hC : MW D κ b r6 H := MW_b hB ht hp
    refine lv_iload hx hb dX8_write_229 (lv_at hl 4 rfl) ?_
    refine lv_iload hx hb dX8_write_231 (lv_at hl 0 rfl) ?_
    refine lv_iadd hx hb dX8_write_233 ?_
    obtain ⟨v7, ev7, h⟩ := sg_lte h
    refine sg_topi ev7 ?_
    refine lv_istore (lv' := [(5, .int v7), (7, .int r3), (0, .ref b), (1, .int x1), (2, .int x2), (6, .int x6)]) hx hb dX8_write_234 hl (by decide) rfl (fun ls hl => ?_)
    obtain ⟨v8, ev8, h⟩ := sg_lte h
    refine lv_iinc (v := v8) (lv' := [(6, .int v8), (5, .int v7), (7, .int r3), (0, .ref b), (1, .int x1), (2, .int x2)]) (k := 5) hx hb dX8_write_236 hl rfl (sg_inc (by decide) ev8) (by decide) rfl (fun ls hl => ?_)
    refine lv_goto (tgt := 184) hx hb dX8_write_239 (by decide) ?_
    exact hr184 h (lv_sub hl [3, 4, 5, 1, 0] rfl) hC hS
set_option maxHeartbeats 4000000 in
theorem w_X8_write_B184 {p : Program} {l : Launch} {e : Env} {s : State} {m : MethodId} {args : Array Value} {below : List Frame} {meth : Method} {c : Code} {Q : State → Prop} {D : va_G} {κ : Nat → ClassId} {b : Nat} {H0 : Heap} {rr : Int32 × Sg} (hZ : sg_Z p c s m args D κ cX8_write 8 RX8 wsX8_write) (hret : ∀ (v : Int32) (u : Sg) (H : Heap) (locs : List Loc) (pc : Nat) (ls : Array Slot), some (v, u) = some rr → MW D κ b u H → va_S (sg_A b 16) H0 H locs → decode cX8_write pc = .ok (.ireturn, 1) → W p l e rm_X8_write s m args below meth c H locs 0 0 Q (F0 m pc ls [.int v])) : ∀ n : Nat, ∀ {σ : Sg} {x1 : Int32} {x2 : Int32} {x5 : Int32} {x6 : Int32} {H : Heap} {locs : List Loc} {ls : Array Slot}, fn_X8_write_B184 b n σ x1 x2 x5 x6 = some rr → lv_has ls 8 [(0, .ref b), (1, .int x1), (2, .int x2), (5, .int x5), (6, .int x6)] → MW D κ b σ H → va_S (sg_A b 16) H0 H locs → W p l e rm_X8_write s m args below meth c H locs 0 0 Q (F0 m 184 ls []) := by
  intro n
  induction n with
  | zero => intro σ x1 x2 x5 x6 H locs ls h hl hC hS; cases (show (none : Option (Int32 × Sg)) = some rr from h)
  | succ n ih =>
    intro σ x1 x2 x5 x6 H locs ls h hl hC hS
    exact w_X8_write_B184b hZ hret ih (show fn_X8_write_B184b b (fn_X8_write_B184 b n) σ x1 x2 x5 x6 = some rr from h)  hl hC hS
def fn_X8_write_B138b (b : Nat) (z138 : Sg → Int32 → Int32 → Int32 → Option (Int32 × Sg)) (σ : Sg) (x1 : Int32) (x2 : Int32) (x5 : Int32) : Option (Int32 × Sg) :=
  (if (8 : Int32) ≤ x5 then
  ((fn_X8_putNumber b σ 4500 4).bind fun r1 =>
  (sg_lt ((8 * x1) : Int32) fun v2 =>
  fn_X8_write_B184 b sg_N r1 x1 x2 0 v2))
  else (if sg_ib ((8 * x1) + x5) 48 then
  ((fn_X8_put b σ (σ.1 (b + 2) (sg_x ((8 * x1) + x5)))).bind fun r3 =>
  (sg_lt (x5 + 1 : Int32) fun v4 =>
  z138 r3 x1 x2 v4))
  else none))
def fn_X8_write_B138 (b : Nat) : Nat → Sg → Int32 → Int32 → Int32 → Option (Int32 × Sg)
  | 0 => fun _ _ _ _ => none
  | n + 1 => fun σ x1 x2 x5 => fn_X8_write_B138b b (fn_X8_write_B138 b n) σ x1 x2 x5
set_option maxHeartbeats 4000000 in
set_option maxRecDepth 100000 in
theorem w_X8_write_B138b {p : Program} {l : Launch} {e : Env} {s : State} {m : MethodId} {args : Array Value} {below : List Frame} {meth : Method} {c : Code} {Q : State → Prop} {D : va_G} {κ : Nat → ClassId} {b : Nat} {H0 : Heap} {rr : Int32 × Sg} (hZ : sg_Z p c s m args D κ cX8_write 8 RX8 wsX8_write) (hret : ∀ (v : Int32) (u : Sg) (H : Heap) (locs : List Loc) (pc : Nat) (ls : Array Slot), some (v, u) = some rr → MW D κ b u H → va_S (sg_A b 16) H0 H locs → decode cX8_write pc = .ok (.ireturn, 1) → W p l e rm_X8_write s m args below meth c H locs 0 0 Q (F0 m pc ls [.int v])) {z138 : Sg → Int32 → Int32 → Int32 → Option (Int32 × Sg)} (hr138 : ∀ {σ : Sg} {x1 : Int32} {x2 : Int32} {x5 : Int32} {H : Heap} {locs : List Loc} {ls : Array Slot}, z138 σ x1 x2 x5 = some rr → lv_has ls 8 [(0, .ref b), (1, .int x1), (2, .int x2), (5, .int x5)] → MW D κ b σ H → va_S (sg_A b 16) H0 H locs → W p l e rm_X8_write s m args below meth c H locs 0 0 Q (F0 m 138 ls [])) : ∀ {σ : Sg} {x1 : Int32} {x2 : Int32} {x5 : Int32} {H : Heap} {locs : List Loc} {ls : Array Slot}, fn_X8_write_B138b b z138 σ x1 x2 x5 = some rr → lv_has ls 8 [(0, .ref b), (1, .int x1), (2, .int x2), (5, .int x5)] → MW D κ b σ H → va_S (sg_A b 16) H0 H locs → W p l e rm_X8_write s m args below meth c H locs 0 0 Q (F0 m 138 ls []) := by
  obtain ⟨hx, hb, hml, hown, hts, hK⟩ := hZ
  intro σ x1 x2 x5 H locs ls h hl hC hS
  unfold fn_X8_write_B138b at h
  refine lv_iload hx hb dX8_write_138 (lv_at hl 3 rfl) ?_
  refine lv_bipush (v := 8) hx hb dX8_write_140 (by decide) ?_
  refine lv_icmp_ge (tgt := 167) hx hb dX8_write_142 (by decide) (fun hc => ?_) (fun hc => ?_)
  · replace h := (if_pos hc).symm.trans h
    refine lv_aload_n hx hb dX8_write_167 rfl (lv_at hl 0 rfl) ?_
    refine lv_sipush (v := 4500) hx hb dX8_write_168 (by decide) ?_
    refine lv_iconst (v := 4) hx hb dX8_write_171 (by decide) ?_
    obtain ⟨r1, er1, h⟩ := Option.bind_eq_some_iff.mp h
    refine va_callv (va_runV (As := [.int 4500, .int 4]) (rest := []) ⟨hx, hb, hml, hown, hts⟩ (c_X8_putNumber l D κ b σ 4500 4 _ er1) (cwV 2 hts (gwV wt_832 wt_834 wp_45 wt_9 wt_835) rfl rfl rfl (by decide +kernel) ⟨Nat.le_of_ble_eq_true rfl, Nat.le_of_ble_eq_true rfl⟩) (MW_preV hK hC sg_gModel rfl) rfl rfl hl.1 rfl (lv_room (Nat.le_of_ble_eq_true rfl)) dX8_write_172 ⟨Nat.zero_le _, Nat.zero_le _⟩) hS (fun _ _ h => h) (fun _ h => h) (fun u t H locs ht _ hp hB _ _ hS => ?_)
    have hC : MW D κ b r1 H := MW_b hB ht hp
    refine lv_iconst (v := 0) hx hb dX8_write_175 (by decide) ?_
    refine lv_istore (lv' := [(5, .int 0), (0, .ref b), (1, .int x1), (2, .int x2)]) hx hb dX8_write_176 hl (by decide) rfl (fun ls hl => ?_)
    refine lv_bipush (v := 8) hx hb dX8_write_178 (by decide) ?_
    refine lv_iload_n hx hb dX8_write_180 rfl (lv_at hl 2 rfl) ?_
    refine lv_imul hx hb dX8_write_181 ?_
    obtain ⟨v2, ev2, h⟩ := sg_lte h
    refine sg_topi ev2 ?_
    refine lv_istore (lv' := [(6, .int v2), (5, .int 0), (0, .ref b), (1, .int x1), (2, .int x2)]) hx hb dX8_write_182 hl (by decide) rfl (fun ls hl => ?_)
    exact w_X8_write_B184 ⟨hx, hb, hml, hown, hts, hK⟩ hret  sg_N h (lv_sub hl [2, 3, 4, 1, 0] rfl) hC hS
  · replace h := (if_neg hc).symm.trans h
    refine lv_aload_n hx hb dX8_write_145 rfl (lv_at hl 0 rfl) ?_
    refine lv_aload_n hx hb dX8_write_146 rfl (lv_at hl 0 rfl) ?_
    refine va_get (D := D) (ci := 8) (v := .ref (b + 2)) (C := RX8) (T := TX8) (N := 21) hx hb hts (wqs inW_X8) hown hK.1 hC.1 (b - b) sg_gModel rfl 3 (by decide) (hts _ (wq wt_651)) (fun _ h9 => h9) rfl dX8_write_147 ?_
    refine lv_bipush (v := 8) hx hb dX8_write_150 (by decide) ?_
    refine lv_iload_n hx hb dX8_write_152 rfl (lv_at hl 1 rfl) ?_
    refine lv_imul hx hb dX8_write_153 ?_
    refine lv_iload hx hb dX8_write_154 (lv_at hl 3 rfl) ?_
    refine lv_iadd hx hb dX8_write_156 ?_
    obtain ⟨hg, h⟩ := sg_gd h
    refine va_iald hx hb hK.1 hC.1 ((b + 2) - b) 0 sg_ga_letters rfl (sg_in hg) dX8_write_157 ?_
    obtain ⟨r3, er3, h⟩ := Option.bind_eq_some_iff.mp h
    refine va_callv (va_runV (As := [.int (σ.1 (b + 2) (sg_x ((8 * x1) + x5)))]) (rest := []) ⟨hx, hb, hml, hown, hts⟩ (c_X8_put l D κ b σ (σ.1 (b + 2) (sg_x ((8 * x1) + x5))) _ er3) (cwV 1 hts (gwV wt_717 wt_719 wp_30 wt_9 wt_720) rfl rfl rfl (by decide +kernel) ⟨Nat.le_of_ble_eq_true rfl, Nat.le_of_ble_eq_true rfl⟩) (MW_preV hK hC sg_gModel rfl) rfl rfl hl.1 rfl (lv_room (Nat.le_of_ble_eq_true rfl)) dX8_write_158 ⟨Nat.zero_le _, Nat.zero_le _⟩) hS (fun _ _ h => h) (fun _ h => h) (fun u t H locs ht _ hp hB _ _ hS => ?_)
    have hC : MW D κ b r3 H := MW_b hB ht hp
    obtain ⟨v4, ev4, h⟩ := sg_lte h
    refine lv_iinc (v := v4) (lv' := [(5, .int v4), (0, .ref b), (1, .int x1), (2, .int x2)]) (k := 3) hx hb dX8_write_161 hl rfl (sg_inc (by decide) ev4) (by decide) rfl (fun ls hl => ?_)
    refine lv_goto (tgt := 138) hx hb dX8_write_164 (by decide) ?_
    exact hr138 h (lv_sub hl [1, 2, 3, 0] rfl) hC hS
set_option maxHeartbeats 4000000 in
theorem w_X8_write_B138 {p : Program} {l : Launch} {e : Env} {s : State} {m : MethodId} {args : Array Value} {below : List Frame} {meth : Method} {c : Code} {Q : State → Prop} {D : va_G} {κ : Nat → ClassId} {b : Nat} {H0 : Heap} {rr : Int32 × Sg} (hZ : sg_Z p c s m args D κ cX8_write 8 RX8 wsX8_write) (hret : ∀ (v : Int32) (u : Sg) (H : Heap) (locs : List Loc) (pc : Nat) (ls : Array Slot), some (v, u) = some rr → MW D κ b u H → va_S (sg_A b 16) H0 H locs → decode cX8_write pc = .ok (.ireturn, 1) → W p l e rm_X8_write s m args below meth c H locs 0 0 Q (F0 m pc ls [.int v])) : ∀ n : Nat, ∀ {σ : Sg} {x1 : Int32} {x2 : Int32} {x5 : Int32} {H : Heap} {locs : List Loc} {ls : Array Slot}, fn_X8_write_B138 b n σ x1 x2 x5 = some rr → lv_has ls 8 [(0, .ref b), (1, .int x1), (2, .int x2), (5, .int x5)] → MW D κ b σ H → va_S (sg_A b 16) H0 H locs → W p l e rm_X8_write s m args below meth c H locs 0 0 Q (F0 m 138 ls []) := by
  intro n
  induction n with
  | zero => intro σ x1 x2 x5 H locs ls h hl hC hS; cases (show (none : Option (Int32 × Sg)) = some rr from h)
  | succ n ih =>
    intro σ x1 x2 x5 H locs ls h hl hC hS
    exact w_X8_write_B138b hZ hret ih (show fn_X8_write_B138b b (fn_X8_write_B138 b n) σ x1 x2 x5 = some rr from h)  hl hC hS
def fn_X8_write_B94b (b : Nat) (z94 : Sg → Int32 → Int32 → Int32 → Int32 → Option (Int32 × Sg)) (σ : Sg) (x1 : Int32) (x2 : Int32) (x3 : Int32) (x5 : Int32) : Option (Int32 × Sg) :=
  (if (5 : Int32) ≤ x5 then
  ((fn_X8_putNumber b σ 22 2).bind fun r1 =>
  ((fn_X8_putNumber b r1 x3 5).bind fun r2 =>
  fn_X8_write_B138 b sg_N r2 x1 x2 5))
  else (if sg_ib ((8 * x1) + x5) 48 then
  ((fn_X8_put b σ (σ.1 (b + 2) (sg_x ((8 * x1) + x5)))).bind fun r3 =>
  (sg_lt (x5 + 1 : Int32) fun v4 =>
  z94 r3 x1 x2 x3 v4))
  else none))
def fn_X8_write_B94 (b : Nat) : Nat → Sg → Int32 → Int32 → Int32 → Int32 → Option (Int32 × Sg)
  | 0 => fun _ _ _ _ _ => none
  | n + 1 => fun σ x1 x2 x3 x5 => fn_X8_write_B94b b (fn_X8_write_B94 b n) σ x1 x2 x3 x5
set_option maxHeartbeats 4000000 in
set_option maxRecDepth 100000 in
theorem w_X8_write_B94b {p : Program} {l : Launch} {e : Env} {s : State} {m : MethodId} {args : Array Value} {below : List Frame} {meth : Method} {c : Code} {Q : State → Prop} {D : va_G} {κ : Nat → ClassId} {b : Nat} {H0 : Heap} {rr : Int32 × Sg} (hZ : sg_Z p c s m args D κ cX8_write 8 RX8 wsX8_write) (hret : ∀ (v : Int32) (u : Sg) (H : Heap) (locs : List Loc) (pc : Nat) (ls : Array Slot), some (v, u) = some rr → MW D κ b u H → va_S (sg_A b 16) H0 H locs → decode cX8_write pc = .ok (.ireturn, 1) → W p l e rm_X8_write s m args below meth c H locs 0 0 Q (F0 m pc ls [.int v])) {z94 : Sg → Int32 → Int32 → Int32 → Int32 → Option (Int32 × Sg)} (hr94 : ∀ {σ : Sg} {x1 : Int32} {x2 : Int32} {x3 : Int32} {x5 : Int32} {H : Heap} {locs : List Loc} {ls : Array Slot}, z94 σ x1 x2 x3 x5 = some rr → lv_has ls 8 [(0, .ref b), (1, .int x1), (2, .int x2), (3, .int x3), (5, .int x5)] → MW D κ b σ H → va_S (sg_A b 16) H0 H locs → W p l e rm_X8_write s m args below meth c H locs 0 0 Q (F0 m 94 ls [])) : ∀ {σ : Sg} {x1 : Int32} {x2 : Int32} {x3 : Int32} {x5 : Int32} {H : Heap} {locs : List Loc} {ls : Array Slot}, fn_X8_write_B94b b z94 σ x1 x2 x3 x5 = some rr → lv_has ls 8 [(0, .ref b), (1, .int x1), (2, .int x2), (3, .int x3), (5, .int x5)] → MW D κ b σ H → va_S (sg_A b 16) H0 H locs → W p l e rm_X8_write s m args below meth c H locs 0 0 Q (F0 m 94 ls []) := by
  obtain ⟨hx, hb, hml, hown, hts, hK⟩ := hZ
  intro σ x1 x2 x3 x5 H locs ls h hl hC hS
  unfold fn_X8_write_B94b at h
  refine lv_iload hx hb dX8_write_94 (lv_at hl 4 rfl) ?_
  refine lv_iconst (v := 5) hx hb dX8_write_96 (by decide) ?_
  refine lv_icmp_ge (tgt := 122) hx hb dX8_write_97 (by decide) (fun hc => ?_) (fun hc => ?_)
  · replace h := (if_pos hc).symm.trans h
    refine lv_aload_n hx hb dX8_write_122 rfl (lv_at hl 0 rfl) ?_
    refine lv_bipush (v := 22) hx hb dX8_write_123 (by decide) ?_
    refine lv_iconst (v := 2) hx hb dX8_write_125 (by decide) ?_
    obtain ⟨r1, er1, h⟩ := Option.bind_eq_some_iff.mp h
    refine va_callv (va_runV (As := [.int 22, .int 2]) (rest := []) ⟨hx, hb, hml, hown, hts⟩ (c_X8_putNumber l D κ b σ 22 2 _ er1) (cwV 2 hts (gwV wt_832 wt_834 wp_45 wt_9 wt_835) rfl rfl rfl (by decide +kernel) ⟨Nat.le_of_ble_eq_true rfl, Nat.le_of_ble_eq_true rfl⟩) (MW_preV hK hC sg_gModel rfl) rfl rfl hl.1 rfl (lv_room (Nat.le_of_ble_eq_true rfl)) dX8_write_126 ⟨Nat.zero_le _, Nat.zero_le _⟩) hS (fun _ _ h => h) (fun _ h => h) (fun u t H locs ht _ hp hB _ _ hS => ?_)
    have hC : MW D κ b r1 H := MW_b hB ht hp
    refine lv_aload_n hx hb dX8_write_129 rfl (lv_at hl 0 rfl) ?_
    refine lv_iload_n hx hb dX8_write_130 rfl (lv_at hl 3 rfl) ?_
    refine lv_iconst (v := 5) hx hb dX8_write_131 (by decide) ?_
    obtain ⟨r2, er2, h⟩ := Option.bind_eq_some_iff.mp h
    refine va_callv (va_runV (As := [.int x3, .int 5]) (rest := []) ⟨hx, hb, hml, hown, hts⟩ (c_X8_putNumber l D κ b r1 x3 5 _ er2) (cwV 2 hts (gwV wt_832 wt_834 wp_45 wt_9 wt_835) rfl rfl rfl (by decide +kernel) ⟨Nat.le_of_ble_eq_true rfl, Nat.le_of_ble_eq_true rfl⟩) (MW_preV hK hC sg_gModel rfl) rfl rfl hl.1 rfl (lv_room (Nat.le_of_ble_eq_true rfl)) dX8_write_132 ⟨Nat.zero_le _, Nat.zero_le _⟩) hS (fun _ _ h => h) (fun _ h => h) (fun u t H locs ht _ hp hB _ _ hS => ?_)
    have hC : MW D κ b r2 H := MW_b hB ht hp
    refine lv_iconst (v := 5) hx hb dX8_write_135 (by decide) ?_
    refine lv_istore (lv' := [(5, .int 5), (0, .ref b), (1, .int x1), (2, .int x2), (3, .int x3)]) hx hb dX8_write_136 hl (by decide) rfl (fun ls hl => ?_)
    exact w_X8_write_B138 ⟨hx, hb, hml, hown, hts, hK⟩ hret  sg_N h (lv_sub hl [1, 2, 3, 0] rfl) hC hS
  · replace h := (if_neg hc).symm.trans h
    refine lv_aload_n hx hb dX8_write_100 rfl (lv_at hl 0 rfl) ?_
    refine lv_aload_n hx hb dX8_write_101 rfl (lv_at hl 0 rfl) ?_
    refine va_get (D := D) (ci := 8) (v := .ref (b + 2)) (C := RX8) (T := TX8) (N := 21) hx hb hts (wqs inW_X8) hown hK.1 hC.1 (b - b) sg_gModel rfl 3 (by decide) (hts _ (wq wt_651)) (fun _ h9 => h9) rfl dX8_write_102 ?_
    refine lv_bipush (v := 8) hx hb dX8_write_105 (by decide) ?_
    refine lv_iload_n hx hb dX8_write_107 rfl (lv_at hl 1 rfl) ?_
    refine lv_imul hx hb dX8_write_108 ?_
    refine lv_iload hx hb dX8_write_109 (lv_at hl 4 rfl) ?_
    refine lv_iadd hx hb dX8_write_111 ?_
    obtain ⟨hg, h⟩ := sg_gd h
    refine va_iald hx hb hK.1 hC.1 ((b + 2) - b) 0 sg_ga_letters rfl (sg_in hg) dX8_write_112 ?_
    obtain ⟨r3, er3, h⟩ := Option.bind_eq_some_iff.mp h
    refine va_callv (va_runV (As := [.int (σ.1 (b + 2) (sg_x ((8 * x1) + x5)))]) (rest := []) ⟨hx, hb, hml, hown, hts⟩ (c_X8_put l D κ b σ (σ.1 (b + 2) (sg_x ((8 * x1) + x5))) _ er3) (cwV 1 hts (gwV wt_717 wt_719 wp_30 wt_9 wt_720) rfl rfl rfl (by decide +kernel) ⟨Nat.le_of_ble_eq_true rfl, Nat.le_of_ble_eq_true rfl⟩) (MW_preV hK hC sg_gModel rfl) rfl rfl hl.1 rfl (lv_room (Nat.le_of_ble_eq_true rfl)) dX8_write_113 ⟨Nat.zero_le _, Nat.zero_le _⟩) hS (fun _ _ h => h) (fun _ h => h) (fun u t H locs ht _ hp hB _ _ hS => ?_)
    have hC : MW D κ b r3 H := MW_b hB ht hp
    obtain ⟨v4, ev4, h⟩ := sg_lte h
    refine lv_iinc (v := v4) (lv' := [(5, .int v4), (0, .ref b), (1, .int x1), (2, .int x2), (3, .int x3)]) (k := 4) hx hb dX8_write_116 hl rfl (sg_inc (by decide) ev4) (by decide) rfl (fun ls hl => ?_)
    refine lv_goto (tgt := 94) hx hb dX8_write_119 (by decide) ?_
    exact hr94 h (lv_sub hl [1, 2, 3, 4, 0] rfl) hC hS
set_option maxHeartbeats 4000000 in
theorem w_X8_write_B94 {p : Program} {l : Launch} {e : Env} {s : State} {m : MethodId} {args : Array Value} {below : List Frame} {meth : Method} {c : Code} {Q : State → Prop} {D : va_G} {κ : Nat → ClassId} {b : Nat} {H0 : Heap} {rr : Int32 × Sg} (hZ : sg_Z p c s m args D κ cX8_write 8 RX8 wsX8_write) (hret : ∀ (v : Int32) (u : Sg) (H : Heap) (locs : List Loc) (pc : Nat) (ls : Array Slot), some (v, u) = some rr → MW D κ b u H → va_S (sg_A b 16) H0 H locs → decode cX8_write pc = .ok (.ireturn, 1) → W p l e rm_X8_write s m args below meth c H locs 0 0 Q (F0 m pc ls [.int v])) : ∀ n : Nat, ∀ {σ : Sg} {x1 : Int32} {x2 : Int32} {x3 : Int32} {x5 : Int32} {H : Heap} {locs : List Loc} {ls : Array Slot}, fn_X8_write_B94 b n σ x1 x2 x3 x5 = some rr → lv_has ls 8 [(0, .ref b), (1, .int x1), (2, .int x2), (3, .int x3), (5, .int x5)] → MW D κ b σ H → va_S (sg_A b 16) H0 H locs → W p l e rm_X8_write s m args below meth c H locs 0 0 Q (F0 m 94 ls []) := by
  intro n
  induction n with
  | zero => intro σ x1 x2 x3 x5 H locs ls h hl hC hS; cases (show (none : Option (Int32 × Sg)) = some rr from h)
  | succ n ih =>
    intro σ x1 x2 x3 x5 H locs ls h hl hC hS
    exact w_X8_write_B94b hZ hret ih (show fn_X8_write_B94b b (fn_X8_write_B94 b n) σ x1 x2 x3 x5 = some rr from h)  hl hC hS
def fn_X8_write_B36b (b : Nat) (z36 : Sg → Int32 → Int32 → Int32 → Int32 → Int32 → Option (Int32 × Sg)) (σ : Sg) (x1 : Int32) (x2 : Int32) (x3 : Int32) (x4 : Int32) (x5 : Int32) : Option (Int32 × Sg) :=
  (if (((8 * x1) + x2) : Int32) ≤ x5 then
  (if x4 ≤ 600 then
  (sg_lt (sg_w σ b 1 0) fun σ1 =>
  ((fn_X8_putNumber b σ1 x4 5).bind fun r2 =>
  fn_X8_write_B94 b sg_N r2 x1 x2 x3 0))
  else some ((-2), σ))
  else ((fn_X8_lengthOf b σ x5).bind fun r3 =>
  (sg_lt ((x4 + r3) : Int32) fun v4 =>
  (sg_lt (x5 + 1 : Int32) fun v5 =>
  z36 σ x1 x2 x3 v4 v5))))
def fn_X8_write_B36 (b : Nat) : Nat → Sg → Int32 → Int32 → Int32 → Int32 → Int32 → Option (Int32 × Sg)
  | 0 => fun _ _ _ _ _ _ => none
  | n + 1 => fun σ x1 x2 x3 x4 x5 => fn_X8_write_B36b b (fn_X8_write_B36 b n) σ x1 x2 x3 x4 x5
set_option maxHeartbeats 4000000 in
set_option maxRecDepth 100000 in
theorem w_X8_write_B36b {p : Program} {l : Launch} {e : Env} {s : State} {m : MethodId} {args : Array Value} {below : List Frame} {meth : Method} {c : Code} {Q : State → Prop} {D : va_G} {κ : Nat → ClassId} {b : Nat} {H0 : Heap} {rr : Int32 × Sg} (hZ : sg_Z p c s m args D κ cX8_write 8 RX8 wsX8_write) (hret : ∀ (v : Int32) (u : Sg) (H : Heap) (locs : List Loc) (pc : Nat) (ls : Array Slot), some (v, u) = some rr → MW D κ b u H → va_S (sg_A b 16) H0 H locs → decode cX8_write pc = .ok (.ireturn, 1) → W p l e rm_X8_write s m args below meth c H locs 0 0 Q (F0 m pc ls [.int v])) {z36 : Sg → Int32 → Int32 → Int32 → Int32 → Int32 → Option (Int32 × Sg)} (hr36 : ∀ {σ : Sg} {x1 : Int32} {x2 : Int32} {x3 : Int32} {x4 : Int32} {x5 : Int32} {H : Heap} {locs : List Loc} {ls : Array Slot}, z36 σ x1 x2 x3 x4 x5 = some rr → lv_has ls 8 [(0, .ref b), (1, .int x1), (2, .int x2), (3, .int x3), (4, .int x4), (5, .int x5)] → MW D κ b σ H → va_S (sg_A b 16) H0 H locs → W p l e rm_X8_write s m args below meth c H locs 0 0 Q (F0 m 36 ls [])) : ∀ {σ : Sg} {x1 : Int32} {x2 : Int32} {x3 : Int32} {x4 : Int32} {x5 : Int32} {H : Heap} {locs : List Loc} {ls : Array Slot}, fn_X8_write_B36b b z36 σ x1 x2 x3 x4 x5 = some rr → lv_has ls 8 [(0, .ref b), (1, .int x1), (2, .int x2), (3, .int x3), (4, .int x4), (5, .int x5)] → MW D κ b σ H → va_S (sg_A b 16) H0 H locs → W p l e rm_X8_write s m args below meth c H locs 0 0 Q (F0 m 36 ls []) := by
  obtain ⟨hx, hb, hml, hown, hts, hK⟩ := hZ
  intro σ x1 x2 x3 x4 x5 H locs ls h hl hC hS
  unfold fn_X8_write_B36b at h
  refine lv_iload hx hb dX8_write_36 (lv_at hl 5 rfl) ?_
  refine lv_bipush (v := 8) hx hb dX8_write_38 (by decide) ?_
  refine lv_iload_n hx hb dX8_write_40 rfl (lv_at hl 1 rfl) ?_
  refine lv_imul hx hb dX8_write_41 ?_
  refine lv_iload_n hx hb dX8_write_42 rfl (lv_at hl 2 rfl) ?_
  refine lv_iadd hx hb dX8_write_43 ?_
  refine lv_icmp_ge (tgt := 68) hx hb dX8_write_44 (by decide) (fun hc => ?_) (fun hc => ?_)
  · replace h := (if_pos hc).symm.trans h
    refine lv_iload hx hb dX8_write_68 (lv_at hl 4 rfl) ?_
    refine lv_sipush (v := 600) hx hb dX8_write_70 (by decide) ?_
    refine lv_icmp_le (tgt := 79) hx hb dX8_write_73 (by decide) (fun hc => ?_) (fun hc => ?_)
    · replace h := (if_pos hc).symm.trans h
      refine lv_aload_n hx hb dX8_write_79 rfl (lv_at hl 0 rfl) ?_
      refine lv_iconst (v := 0) hx hb dX8_write_80 (by decide) ?_
      refine va_put (D := D) (ci := 8) (v := .int 0) (ty := .int) (C := RX8) (T := TX8) (N := 21) hx hb hts (wqs inW_X8) tyX8 tyX8_ok nmX8 hown hK.1 hC.1 sg_D hS (b - b) sg_gModel rfl 1 (by decide) (hts _ (wq wt_649)) (fun _ h9 => h9) rfl (by decide +kernel) rfl rfl (Nat.le_of_ble_eq_true rfl) dX8_write_81 (fun H locs hP _ hS => ?_)
      obtain ⟨σ1, eσ1, h⟩ := sg_lte h
      have hC : MW D κ b σ1 H := eσ1 ▸ MW_put (k := 1) (v := 0) hC sg_aModel (sg_yModel _ _) hP
      refine lv_aload_n hx hb dX8_write_84 rfl (lv_at hl 0 rfl) ?_
      refine lv_iload hx hb dX8_write_85 (lv_at hl 4 rfl) ?_
      refine lv_iconst (v := 5) hx hb dX8_write_87 (by decide) ?_
      obtain ⟨r2, er2, h⟩ := Option.bind_eq_some_iff.mp h
      refine va_callv (va_runV (As := [.int x4, .int 5]) (rest := []) ⟨hx, hb, hml, hown, hts⟩ (c_X8_putNumber l D κ b σ1 x4 5 _ er2) (cwV 2 hts (gwV wt_832 wt_834 wp_45 wt_9 wt_835) rfl rfl rfl (by decide +kernel) ⟨Nat.le_of_ble_eq_true rfl, Nat.le_of_ble_eq_true rfl⟩) (MW_preV hK hC sg_gModel rfl) rfl rfl hl.1 rfl (lv_room (Nat.le_of_ble_eq_true rfl)) dX8_write_88 ⟨Nat.zero_le _, Nat.zero_le _⟩) hS (fun _ _ h => h) (fun _ h => h) (fun u t H locs ht _ hp hB _ _ hS => ?_)
      have hC : MW D κ b r2 H := MW_b hB ht hp
      refine lv_iconst (v := 0) hx hb dX8_write_91 (by decide) ?_
      refine lv_istore (lv' := [(5, .int 0), (0, .ref b), (1, .int x1), (2, .int x2), (3, .int x3), (4, .int x4)]) hx hb dX8_write_92 hl (by decide) rfl (fun ls hl => ?_)
      exact w_X8_write_B94 ⟨hx, hb, hml, hown, hts, hK⟩ hret  sg_N h (lv_sub hl [1, 2, 3, 4, 0] rfl) hC hS
    · replace h := (if_neg hc).symm.trans h
      refine lv_bipush (v := (-2)) hx hb dX8_write_76 (by decide) ?_
      exact hret _ _ _ _ _ _ h hC hS dX8_write_78
  · replace h := (if_neg hc).symm.trans h
    refine lv_aload_n hx hb dX8_write_47 rfl (lv_at hl 0 rfl) ?_
    refine lv_iload hx hb dX8_write_48 (lv_at hl 5 rfl) ?_
    obtain ⟨r3, er3, h⟩ := Option.bind_eq_some_iff.mp h
    refine va_calli (va_runV (As := [.int x5]) (rest := []) ⟨hx, hb, hml, hown, hts⟩ (c_X8_lengthOf l D κ b σ x5 _ er3) (cwV 1 hts (gwV wt_828 wt_830 wp_44 wt_9 wt_831) rfl rfl rfl (by decide +kernel) ⟨Nat.le_of_ble_eq_true rfl, Nat.le_of_ble_eq_true rfl⟩) (MW_preV hK hC sg_gModel rfl) rfl rfl hl.1 rfl (lv_room (Nat.le_of_ble_eq_true rfl)) dX8_write_50 ⟨Nat.zero_le _, Nat.zero_le _⟩) hS (fun _ _ h => h) (fun _ h => h) (fun r u t H locs ht _ hp hB _ _ hS => ?_)
    refine sg_topi hp.1 ?_
    have hC : MW D κ b σ H := MW_b hB ht hp.2
    refine lv_istore (lv' := [(6, .int r3), (0, .ref b), (1, .int x1), (2, .int x2), (3, .int x3), (4, .int x4), (5, .int x5)]) hx hb dX8_write_53 hl (by decide) rfl (fun ls hl => ?_)
    refine lv_iload hx hb dX8_write_55 (lv_at hl 5 rfl) ?_
    refine lv_iload hx hb dX8_write_57 (lv_at hl 0 rfl) ?_
    refine lv_iadd hx hb dX8_write_59 ?_
    obtain ⟨v4, ev4, h⟩ := sg_lte h
    refine sg_topi ev4 ?_
    refine lv_istore (lv' := [(4, .int v4), (6, .int r3), (0, .ref b), (1, .int x1), (2, .int x2), (3, .int x3), (5, .int x5)]) hx hb dX8_write_60 hl (by decide) rfl (fun ls hl => ?_)
    obtain ⟨v5, ev5, h⟩ := sg_lte h
    refine lv_iinc (v := v5) (lv' := [(5, .int v5), (4, .int v4), (6, .int r3), (0, .ref b), (1, .int x1), (2, .int x2), (3, .int x3)]) (k := 6) hx hb dX8_write_62 hl rfl (sg_inc (by decide) ev5) (by decide) rfl (fun ls hl => ?_)
    refine lv_goto (tgt := 36) hx hb dX8_write_65 (by decide) ?_
    exact hr36 h (lv_sub hl [3, 4, 5, 6, 1, 0] rfl) hC hS
set_option maxHeartbeats 4000000 in
theorem w_X8_write_B36 {p : Program} {l : Launch} {e : Env} {s : State} {m : MethodId} {args : Array Value} {below : List Frame} {meth : Method} {c : Code} {Q : State → Prop} {D : va_G} {κ : Nat → ClassId} {b : Nat} {H0 : Heap} {rr : Int32 × Sg} (hZ : sg_Z p c s m args D κ cX8_write 8 RX8 wsX8_write) (hret : ∀ (v : Int32) (u : Sg) (H : Heap) (locs : List Loc) (pc : Nat) (ls : Array Slot), some (v, u) = some rr → MW D κ b u H → va_S (sg_A b 16) H0 H locs → decode cX8_write pc = .ok (.ireturn, 1) → W p l e rm_X8_write s m args below meth c H locs 0 0 Q (F0 m pc ls [.int v])) : ∀ n : Nat, ∀ {σ : Sg} {x1 : Int32} {x2 : Int32} {x3 : Int32} {x4 : Int32} {x5 : Int32} {H : Heap} {locs : List Loc} {ls : Array Slot}, fn_X8_write_B36 b n σ x1 x2 x3 x4 x5 = some rr → lv_has ls 8 [(0, .ref b), (1, .int x1), (2, .int x2), (3, .int x3), (4, .int x4), (5, .int x5)] → MW D κ b σ H → va_S (sg_A b 16) H0 H locs → W p l e rm_X8_write s m args below meth c H locs 0 0 Q (F0 m 36 ls []) := by
  intro n
  induction n with
  | zero => intro σ x1 x2 x3 x4 x5 H locs ls h hl hC hS; cases (show (none : Option (Int32 × Sg)) = some rr from h)
  | succ n ih =>
    intro σ x1 x2 x3 x4 x5 H locs ls h hl hC hS
    exact w_X8_write_B36b hZ hret ih (show fn_X8_write_B36b b (fn_X8_write_B36 b n) σ x1 x2 x3 x4 x5 = some rr from h)  hl hC hS
def fn_X8_write (b : Nat) (σ : Sg) (x1 : Int32) : Option (Int32 × Sg) :=
  ((fn_X8_isRecord b σ x1).bind fun r1 =>
  (if r1 = 0 then
  some ((-1), σ)
  else (if sg_ib x1 6 then
  (sg_lt ((σ.1 (b + 3) (sg_x x1)) : Int32) fun v2 =>
  (sg_lt ((25 + (12 * v2)) : Int32) fun v3 =>
  (sg_lt ((v3 + 1) : Int32) fun v4 =>
  (sg_lt ((8 * x1) : Int32) fun v5 =>
  fn_X8_write_B36 b sg_N σ x1 v2 v3 v4 v5))))
  else none)))
set_option maxHeartbeats 4000000 in
set_option maxRecDepth 100000 in
theorem w_X8_write_B0 {p : Program} {l : Launch} {e : Env} {s : State} {m : MethodId} {args : Array Value} {below : List Frame} {meth : Method} {c : Code} {Q : State → Prop} {D : va_G} {κ : Nat → ClassId} {b : Nat} {H0 : Heap} {rr : Int32 × Sg} (hZ : sg_Z p c s m args D κ cX8_write 8 RX8 wsX8_write) (hret : ∀ (v : Int32) (u : Sg) (H : Heap) (locs : List Loc) (pc : Nat) (ls : Array Slot), some (v, u) = some rr → MW D κ b u H → va_S (sg_A b 16) H0 H locs → decode cX8_write pc = .ok (.ireturn, 1) → W p l e rm_X8_write s m args below meth c H locs 0 0 Q (F0 m pc ls [.int v])) : ∀ {σ : Sg} {x1 : Int32} {H : Heap} {locs : List Loc} {ls : Array Slot}, fn_X8_write b σ x1 = some rr → lv_has ls 8 [(0, .ref b), (1, .int x1)] → MW D κ b σ H → va_S (sg_A b 16) H0 H locs → W p l e rm_X8_write s m args below meth c H locs 0 0 Q (F0 m 0 ls []) := by
  obtain ⟨hx, hb, hml, hown, hts, hK⟩ := hZ
  intro σ x1 H locs ls h hl hC hS
  unfold fn_X8_write at h
  refine lv_aload_n hx hb dX8_write_0 rfl (lv_at hl 0 rfl) ?_
  refine lv_iload_n hx hb dX8_write_1 rfl (lv_at hl 1 rfl) ?_
  obtain ⟨r1, er1, h⟩ := Option.bind_eq_some_iff.mp h
  refine va_calli (va_runV (As := [.int x1]) (rest := []) ⟨hx, hb, hml, hown, hts⟩ (c_X8_isRecord l D κ b σ x1 _ er1) (cwV 1 hts (gwV wt_800 wt_802 wp_41 wt_9 wt_803) rfl rfl rfl (by decide +kernel) ⟨Nat.le_of_ble_eq_true rfl, Nat.le_of_ble_eq_true rfl⟩) (MW_preV hK hC sg_gModel rfl) rfl rfl hl.1 rfl (lv_room (Nat.le_of_ble_eq_true rfl)) dX8_write_2 ⟨Nat.zero_le _, Nat.zero_le _⟩) hS (fun _ _ h => h) (fun _ h => h) (fun r u t H locs ht _ hp hB _ _ hS => ?_)
  refine sg_topi hp.1 ?_
  have hC : MW D κ b σ H := MW_b hB ht hp.2
  refine lv_if_ne (tgt := 10) hx hb dX8_write_5 (by decide) (fun hc => ?_) (fun hc => ?_)
  · replace h := (if_neg hc).symm.trans h
    refine lv_aload_n hx hb dX8_write_10 rfl (lv_at hl 0 rfl) ?_
    refine va_get (D := D) (ci := 8) (v := .ref (b + 3)) (C := RX8) (T := TX8) (N := 21) hx hb hts (wqs inW_X8) hown hK.1 hC.1 (b - b) sg_gModel rfl 4 (by decide) (hts _ (wq wt_652)) (fun _ h9 => h9) rfl dX8_write_11 ?_
    refine lv_iload_n hx hb dX8_write_14 rfl (lv_at hl 1 rfl) ?_
    obtain ⟨hg, h⟩ := sg_gd h
    refine va_iald hx hb hK.1 hC.1 ((b + 3) - b) 0 sg_ga_fieldsOf rfl (sg_in hg) dX8_write_15 ?_
    obtain ⟨v2, ev2, h⟩ := sg_lte h
    refine sg_topi ev2 ?_
    refine lv_istore_n (lv' := [(2, .int v2), (0, .ref b), (1, .int x1)]) hx hb dX8_write_16 rfl hl (by decide) rfl (fun ls hl => ?_)
    refine lv_bipush (v := 25) hx hb dX8_write_17 (by decide) ?_
    refine lv_bipush (v := 12) hx hb dX8_write_19 (by decide) ?_
    refine lv_iload_n hx hb dX8_write_21 rfl (lv_at hl 0 rfl) ?_
    refine lv_imul hx hb dX8_write_22 ?_
    refine lv_iadd hx hb dX8_write_23 ?_
    obtain ⟨v3, ev3, h⟩ := sg_lte h
    refine sg_topi ev3 ?_
    refine lv_istore_n (lv' := [(3, .int v3), (2, .int v2), (0, .ref b), (1, .int x1)]) hx hb dX8_write_24 rfl hl (by decide) rfl (fun ls hl => ?_)
    refine lv_iload_n hx hb dX8_write_25 rfl (lv_at hl 0 rfl) ?_
    refine lv_iconst (v := 1) hx hb dX8_write_26 (by decide) ?_
    refine lv_iadd hx hb dX8_write_27 ?_
    obtain ⟨v4, ev4, h⟩ := sg_lte h
    refine sg_topi ev4 ?_
    refine lv_istore (lv' := [(4, .int v4), (3, .int v3), (2, .int v2), (0, .ref b), (1, .int x1)]) hx hb dX8_write_28 hl (by decide) rfl (fun ls hl => ?_)
    refine lv_bipush (v := 8) hx hb dX8_write_30 (by decide) ?_
    refine lv_iload_n hx hb dX8_write_32 rfl (lv_at hl 4 rfl) ?_
    refine lv_imul hx hb dX8_write_33 ?_
    obtain ⟨v5, ev5, h⟩ := sg_lte h
    refine sg_topi ev5 ?_
    refine lv_istore (lv' := [(5, .int v5), (4, .int v4), (3, .int v3), (2, .int v2), (0, .ref b), (1, .int x1)]) hx hb dX8_write_34 hl (by decide) rfl (fun ls hl => ?_)
    exact w_X8_write_B36 ⟨hx, hb, hml, hown, hts, hK⟩ hret  sg_N h (lv_sub hl [4, 5, 3, 2, 1, 0] rfl) hC hS
  · replace h := (if_pos hc).symm.trans h
    refine lv_iconst (v := (-1)) hx hb dX8_write_8 (by decide) ?_
    exact hret _ _ _ _ _ _ h hC hS dX8_write_9
set_option maxHeartbeats 4000000 in
set_option maxRecDepth 100000 in
theorem c_X8_write (l : Launch) (D : va_G) (κ : Nat → ClassId) (b : Nat) (σ : Sg) (x1 : Int32) (rr : Int32 × Sg)  (h : fn_X8_write b σ x1 = some rr) : Met l yX8_write wsX8_write rm_X8_write (va_Pc [.ref b, .int x1] (fun U => KK D κ U ∧ MW D κ b σ U.heap)) (va_Qi (fun (r : Int32) (u : Sg) => r = rr.1 ∧ u = rr.2) (fun u t => MW D κ b u t.heap) (sg_A b 16)) 0 0 (sg_A b 16) := by
  refine Met.ofW (cc := cX8_write) (maxL := 8) (ret := (some .int)) (by decide) rfl ?_
  intro p e s m args below meth c s₁ B hml hv
  obtain ⟨rfl, hK, hC⟩ := hv
  have hr := B.returns
  have hlocks := B.notSynchronized
  have hl := lv_entry ([.ref b, .int x1]) (n := 8) (Nat.le_of_ble_eq_true rfl)
  rw [lg_entry_eq]
  generalize (lg_sl ([.ref b, .int x1]) ++ List.replicate (8 - (lg_sl ([.ref b, .int x1])).length) Slot.unset).toArray = ls at hl ⊢
  have hl : lv_has ls 8 [(0, .ref b), (1, .int x1)] := hl
  exact w_X8_write_B0 ⟨B.exec, B.bytes, hml, findClass_of_methodNamed B.named, atoms_spec (ws := wsX8_write) B.pre, hK⟩ (fun v u H locs pc ls hq hC hS hd => W.iret B.exec B.bytes hr (fun t ht hW => ⟨⟨v, _, rfl, ⟨congrArg Prod.fst (Option.some.inj hq), congrArg Prod.snd (Option.some.inj hq)⟩, MW_e ht hC⟩, hS.F ht⟩) hS.2.2 hd) h  hl hC va_S.rf
