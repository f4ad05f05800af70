-- RecordShelf.feed(JI)I
theorem dX7_feed_0 : decode cX7_feed 0 = .ok (.iload_n 3, 1) := by decide +kernel
theorem dX7_feed_1 : decode cX7_feed 1 = .ok (.iconst 1, 1) := by decide +kernel
theorem dX7_feed_2 : decode cX7_feed 2 = .ok (.if_icmp .lt 9, 3) := by decide +kernel
theorem dX7_feed_5 : decode cX7_feed 5 = .ok (.iload_n 3, 1) := by decide +kernel
theorem dX7_feed_6 : decode cX7_feed 6 = .ok (.bipush 8, 2) := by decide +kernel
theorem dX7_feed_8 : decode cX7_feed 8 = .ok (.if_icmp .le 5, 3) := by decide +kernel
theorem dX7_feed_11 : decode cX7_feed 11 = .ok (.iconst (-1), 1) := by decide +kernel
theorem dX7_feed_12 : decode cX7_feed 12 = .ok (.ireturn, 1) := by decide +kernel
theorem dX7_feed_13 : decode cX7_feed 13 = .ok (.iconst 0, 1) := by decide +kernel
theorem dX7_feed_14 : decode cX7_feed 14 = .ok (.istore 4, 2) := by decide +kernel
theorem dX7_feed_16 : decode cX7_feed 16 = .ok (.iload 4, 2) := by decide +kernel
theorem dX7_feed_18 : decode cX7_feed 18 = .ok (.iload_n 3, 1) := by decide +kernel
theorem dX7_feed_19 : decode cX7_feed 19 = .ok (.if_icmp .ge 23, 3) := by decide +kernel
theorem dX7_feed_22 : decode cX7_feed 22 = .ok (.lload_n 1, 1) := by decide +kernel
theorem dX7_feed_23 : decode cX7_feed 23 = .ok (.iload 4, 2) := by decide +kernel
theorem dX7_feed_25 : decode cX7_feed 25 = .ok (.invokestatic 44, 3) := by decide +kernel
theorem dX7_feed_28 : decode cX7_feed 28 = .ok (.invokestatic 48, 3) := by decide +kernel
theorem dX7_feed_31 : decode cX7_feed 31 = .ok (.ifCond .ne 5, 3) := by decide +kernel
theorem dX7_feed_34 : decode cX7_feed 34 = .ok (.iconst (-1), 1) := by decide +kernel
theorem dX7_feed_35 : decode cX7_feed 35 = .ok (.ireturn, 1) := by decide +kernel
theorem dX7_feed_36 : decode cX7_feed 36 = .ok (.iinc 4 1, 3) := by decide +kernel
theorem dX7_feed_39 : decode cX7_feed 39 = .ok (.goto (-23), 3) := by decide +kernel
theorem dX7_feed_42 : decode cX7_feed 42 = .ok (.aload_n 0, 1) := by decide +kernel
theorem dX7_feed_43 : decode cX7_feed 43 = .ok (.getfield 20, 3) := by decide +kernel
theorem dX7_feed_46 : decode cX7_feed 46 = .ok (.getfield 52, 3) := by decide +kernel
theorem dX7_feed_49 : decode cX7_feed 49 = .ok (.iload_n 3, 1) := by decide +kernel
theorem dX7_feed_50 : decode cX7_feed 50 = .ok (.iadd, 1) := by decide +kernel
theorem dX7_feed_51 : decode cX7_feed 51 = .ok (.sipush 600, 3) := by decide +kernel
theorem dX7_feed_54 : decode cX7_feed 54 = .ok (.if_icmp .le 6, 3) := by decide +kernel
theorem dX7_feed_57 : decode cX7_feed 57 = .ok (.bipush (-2), 2) := by decide +kernel
theorem dX7_feed_59 : decode cX7_feed 59 = .ok (.ireturn, 1) := by decide +kernel
theorem dX7_feed_60 : decode cX7_feed 60 = .ok (.iload_n 3, 1) := by decide +kernel
theorem dX7_feed_61 : decode cX7_feed 61 = .ok (.iconst 1, 1) := by decide +kernel
theorem dX7_feed_62 : decode cX7_feed 62 = .ok (.isub, 1) := by decide +kernel
theorem dX7_feed_63 : decode cX7_feed 63 = .ok (.istore 4, 2) := by decide +kernel
theorem dX7_feed_65 : decode cX7_feed 65 = .ok (.iload 4, 2) := by decide +kernel
theorem dX7_feed_67 : decode cX7_feed 67 = .ok (.ifCond .lt 23, 3) := by decide +kernel
theorem dX7_feed_70 : decode cX7_feed 70 = .ok (.aload_n 0, 1) := by decide +kernel
theorem dX7_feed_71 : decode cX7_feed 71 = .ok (.getfield 20, 3) := by decide +kernel
theorem dX7_feed_74 : decode cX7_feed 74 = .ok (.lload_n 1, 1) := by decide +kernel
theorem dX7_feed_75 : decode cX7_feed 75 = .ok (.iload 4, 2) := by decide +kernel
theorem dX7_feed_77 : decode cX7_feed 77 = .ok (.invokestatic 44, 3) := by decide +kernel
theorem dX7_feed_80 : decode cX7_feed 80 = .ok (.i2c, 1) := by decide +kernel
theorem dX7_feed_81 : decode cX7_feed 81 = .ok (.invokevirtual 58, 3) := by decide +kernel
theorem dX7_feed_84 : decode cX7_feed 84 = .ok (.iinc 4 (-1), 3) := by decide +kernel
theorem dX7_feed_87 : decode cX7_feed 87 = .ok (.goto (-22), 3) := by decide +kernel
theorem dX7_feed_90 : decode cX7_feed 90 = .ok (.aload_n 0, 1) := by decide +kernel
theorem dX7_feed_91 : decode cX7_feed 91 = .ok (.getfield 20, 3) := by decide +kernel
theorem dX7_feed_94 : decode cX7_feed 94 = .ok (.getfield 52, 3) := by decide +kernel
theorem dX7_feed_97 : decode cX7_feed 97 = .ok (.ireturn, 1) := by decide +kernel
def rm_X7_feed : Room := { frames := 1, cells := 0, slots := 0, locals := 22 }
def fn_X7_feed_B65b (b : Nat) (z65 : Sg → Int64 → Int32 → Option (Int32 × Sg)) (σ : Sg) (x1 : Int64) (x4 : Int32) : Option (Int32 × Sg) :=
  (if x4 < 0 then
  some ((σ.1 (b + 2) 1), σ)
  else ((fn_X7_byteOf x1 x4).bind fun r1 =>
  ((fn_X6_add b σ (sg_c r1)).bind fun r2 =>
  (sg_lt (x4 + (-1) : Int32) fun v3 =>
  z65 r2 x1 v3))))
def fn_X7_feed_B65 (b : Nat) : Nat → Sg → Int64 → Int32 → Option (Int32 × Sg)
  | 0 => fun _ _ _ => none
  | n + 1 => fun σ x1 x4 => fn_X7_feed_B65b b (fn_X7_feed_B65 b n) σ x1 x4
set_option maxHeartbeats 4000000 in
set_option maxRecDepth 100000 in
theorem w_X7_feed_B65b {p : Program} {l : Launch} {e : Env} {s : State} {m : MethodId} {args : Array Value} {below : List Frame} {meth : Method} {c : Code} {Q : State → Prop} {D : va_G} {κ : Nat → ClassId} {b : Nat} {H0 : Heap} {rr : Int32 × Sg} (hZ : sg_Z p c s m args D κ cX7_feed 5 RX7 wsX7_feed) (hret : ∀ (v : Int32) (u : Sg) (H : Heap) (locs : List Loc) (pc : Nat) (ls : Array Slot), some (v, u) = some rr → CW D κ b u H → va_S (sg_A b 892) H0 H locs → decode cX7_feed pc = .ok (.ireturn, 1) → W p l e rm_X7_feed s m args below meth c H locs 0 0 Q (F0 m pc ls [.int v])) {z65 : Sg → Int64 → Int32 → Option (Int32 × Sg)} (hr65 : ∀ {σ : Sg} {x1 : Int64} {x4 : Int32} {H : Heap} {locs : List Loc} {ls : Array Slot}, z65 σ x1 x4 = some rr → lv_has ls 5 [(0, .ref b), (1, .long x1), (4, .int x4)] → CW D κ b σ H → va_S (sg_A b 892) H0 H locs → W p l e rm_X7_feed s m args below meth c H locs 0 0 Q (F0 m 65 ls [])) : ∀ {σ : Sg} {x1 : Int64} {x4 : Int32} {H : Heap} {locs : List Loc} {ls : Array Slot}, fn_X7_feed_B65b b z65 σ x1 x4 = some rr → lv_has ls 5 [(0, .ref b), (1, .long x1), (4, .int x4)] → CW D κ b σ H → va_S (sg_A b 892) H0 H locs → W p l e rm_X7_feed s m args below meth c H locs 0 0 Q (F0 m 65 ls []) := by
  obtain ⟨hx, hb, hml, hown, hts, hK⟩ := hZ
  intro σ x1 x4 H locs ls h hl hC hS
  unfold fn_X7_feed_B65b at h
  refine lv_iload hx hb dX7_feed_65 (lv_at hl 2 rfl) ?_
  refine lv_if_lt (tgt := 90) hx hb dX7_feed_67 (by decide) (fun hc => ?_) (fun hc => ?_)
  · replace h := (if_pos hc).symm.trans h
    refine lv_aload_n hx hb dX7_feed_90 rfl (lv_at hl 0 rfl) ?_
    refine va_get (D := D) (ci := 7) (v := .ref (b + 2)) (C := RX7) (T := TX7) (N := 6) hx hb hts (wqs inW_X7) hown hK.1 hC.1 (b - b) sg_gShelf rfl 1 (by decide) (hts _ (wq wt_193)) (fun _ h9 => h9) rfl dX7_feed_91 ?_
    refine va_getN (D := D) (ci := 6) (v := .int (σ.1 (b + 2) 1)) (C := RX6) (T := TX6) (N := 2) hx hb hts (wqs inW_X6) hown hK.1 hC.1 ((b + 2) - b) sg_gText rfl 1 (by decide) (nf_1 hK) (fun _ h9 => h9) rfl dX7_feed_94 ?_
    exact hret _ _ _ _ _ _ h hC hS dX7_feed_97
  · replace h := (if_neg hc).symm.trans h
    refine lv_aload_n hx hb dX7_feed_70 rfl (lv_at hl 0 rfl) ?_
    refine va_get (D := D) (ci := 7) (v := .ref (b + 2)) (C := RX7) (T := TX7) (N := 6) hx hb hts (wqs inW_X7) hown hK.1 hC.1 (b - b) sg_gShelf rfl 1 (by decide) (hts _ (wq wt_193)) (fun _ h9 => h9) rfl dX7_feed_71 ?_
    refine lv_lload_n hx hb dX7_feed_74 rfl (lv_at hl 1 rfl) ?_
    refine lv_iload hx hb dX7_feed_75 (lv_at hl 2 rfl) ?_
    obtain ⟨r1, er1, h⟩ := Option.bind_eq_some_iff.mp h
    refine va_calli (va_runS (As := [.long x1, .int x4]) (rest := [.ref (b + 2)]) ⟨hx, hb, hml, hown, hts⟩ (c_X7_byteOf l D κ b σ x1 x4 _ er1) (va_cwS 2 hts (gwS wt_215 wt_216 wt_1 wt_217) rfl rfl rfl (by decide +kernel) ⟨Nat.le_of_ble_eq_true rfl, Nat.le_of_ble_eq_true rfl⟩) (CW_preS hK hC) rfl rfl hl.1 rfl (lv_room (Nat.le_of_ble_eq_true rfl)) dX7_feed_77 ⟨Nat.zero_le _, Nat.zero_le _⟩) hS (fun _ _ h => h) (fun _ h => h) (fun r u t H locs ht _ hp hB _ _ hS => ?_)
    refine sg_topi hp.1 ?_
    have hC : CW D κ b σ H := CW_b hB ht hp.2
    refine lv_i2c (v := (sg_c r1)) hx hb dX7_feed_80 rfl ?_
    obtain ⟨r2, er2, h⟩ := Option.bind_eq_some_iff.mp h
    refine va_callv (va_runV (As := [.int (sg_c r1)]) (rest := []) ⟨hx, hb, hml, hown, hts⟩ (c_X6_add l D κ b σ (sg_c r1) _ er2) (cwV 1 hts (gwV wt_221 wt_222 wt_223 wt_3 wt_224) rfl rfl rfl (by decide +kernel) ⟨Nat.le_of_ble_eq_true rfl, Nat.le_of_ble_eq_true rfl⟩) (CW_preV hK hC sg_gText rfl) rfl rfl hl.1 rfl (lv_room (Nat.le_of_ble_eq_true rfl)) dX7_feed_81 ⟨Nat.zero_le _, Nat.zero_le _⟩) hS (fun _ _ h => h) (fun _ h => h) (fun u t H locs ht _ hp hB _ _ hS => ?_)
    have hC : CW D κ b r2 H := CW_b hB ht hp
    obtain ⟨v3, ev3, h⟩ := sg_lte h
    refine lv_iinc (v := v3) (lv' := [(4, .int v3), (0, .ref b), (1, .long x1)]) (k := 2) hx hb dX7_feed_84 hl rfl (sg_inc (by decide) ev3) (by decide) rfl (fun ls hl => ?_)
    refine lv_goto (tgt := 65) hx hb dX7_feed_87 (by decide) ?_
    exact hr65 h (lv_sub hl [1, 2, 0] rfl) hC hS
set_option maxHeartbeats 4000000 in
theorem w_X7_feed_B65 {p : Program} {l : Launch} {e : Env} {s : State} {m : MethodId} {args : Array Value} {below : List Frame} {meth : Method} {c : Code} {Q : State → Prop} {D : va_G} {κ : Nat → ClassId} {b : Nat} {H0 : Heap} {rr : Int32 × Sg} (hZ : sg_Z p c s m args D κ cX7_feed 5 RX7 wsX7_feed) (hret : ∀ (v : Int32) (u : Sg) (H : Heap) (locs : List Loc) (pc : Nat) (ls : Array Slot), some (v, u) = some rr → CW D κ b u H → va_S (sg_A b 892) H0 H locs → decode cX7_feed pc = .ok (.ireturn, 1) → W p l e rm_X7_feed s m args below meth c H locs 0 0 Q (F0 m pc ls [.int v])) : ∀ n : Nat, ∀ {σ : Sg} {x1 : Int64} {x4 : Int32} {H : Heap} {locs : List Loc} {ls : Array Slot}, fn_X7_feed_B65 b n σ x1 x4 = some rr → lv_has ls 5 [(0, .ref b), (1, .long x1), (4, .int x4)] → CW D κ b σ H → va_S (sg_A b 892) H0 H locs → W p l e rm_X7_feed s m args below meth c H locs 0 0 Q (F0 m 65 ls []) := by
  intro n
  induction n with
  | zero => intro σ x1 x4 H locs ls h hl hC hS; cases (show (none : Option (Int32 × Sg)) = some rr from h)
  | succ n ih =>
    intro σ x1 x4 H locs ls h hl hC hS
    exact w_X7_feed_B65b hZ hret ih (show fn_X7_feed_B65b b (fn_X7_feed_B65 b n) σ x1 x4 = some rr from h)  hl hC hS
def fn_X7_feed_B16b (b : Nat) (z16 : Sg → Int64 → Int32 → Int32 → Option (Int32 × Sg)) (σ : Sg) (x1 : Int64) (x3 : Int32) (x4 : Int32) : Option (Int32 × Sg) :=
  (if (x3 : Int32) ≤ x4 then
  (if ((σ.1 (b + 2) 1) + x3) ≤ 600 then
  (sg_lt ((x3 - 1) : Int32) fun v1 =>
  fn_X7_feed_B65 b sg_N σ x1 v1)
  else some ((-2), σ))
  else ((fn_X7_byteOf x1 x4).bind fun r2 =>
  ((fn_X7_isSign r2).bind fun r3 =>
  (if r3 = 0 then
  some ((-1), σ)
  else (sg_lt (x4 + 1 : Int32) fun v4 =>
  z16 σ x1 x3 v4)))))
def fn_X7_feed_B16 (b : Nat) : Nat → Sg → Int64 → Int32 → Int32 → Option (Int32 × Sg)
  | 0 => fun _ _ _ _ => none
  | n + 1 => fun σ x1 x3 x4 => fn_X7_feed_B16b b (fn_X7_feed_B16 b n) σ x1 x3 x4
set_option maxHeartbeats 4000000 in
set_option maxRecDepth 100000 in
theorem w_X7_feed_B16b {p : Program} {l : Launch} {e : Env} {s : State} {m : MethodId} {args : Array Value} {below : List Frame} {meth : Method} {c : Code} {Q : State → Prop} {D : va_G} {κ : Nat → ClassId} {b : Nat} {H0 : Heap} {rr : Int32 × Sg} (hZ : sg_Z p c s m args D κ cX7_feed 5 RX7 wsX7_feed) (hret : ∀ (v : Int32) (u : Sg) (H : Heap) (locs : List Loc) (pc : Nat) (ls : Array Slot), some (v, u) = some rr → CW D κ b u H → va_S (sg_A b 892) H0 H locs → decode cX7_feed pc = .ok (.ireturn, 1) → W p l e rm_X7_feed s m args below meth c H locs 0 0 Q (F0 m pc ls [.int v])) {z16 : Sg → Int64 → Int32 → Int32 → Option (Int32 × Sg)} (hr16 : ∀ {σ : Sg} {x1 : Int64} {x3 : Int32} {x4 : Int32} {H : Heap} {locs : List Loc} {ls : Array Slot}, z16 σ x1 x3 x4 = some rr → lv_has ls 5 [(0, .ref b), (1, .long x1), (3, .int x3), (4, .int x4)] → CW D κ b σ H → va_S (sg_A b 892) H0 H locs → W p l e rm_X7_feed s m args below meth c H locs 0 0 Q (F0 m 16 ls [])) : ∀ {σ : Sg} {x1 : Int64} {x3 : Int32} {x4 : Int32} {H : Heap} {locs : List Loc} {ls : Array Slot}, fn_X7_feed_B16b b z16 σ x1 x3 x4 = some rr → lv_has ls 5 [(0, .ref b), (1, .long x1), (3, .int x3), (4, .int x4)] → CW D κ b σ H → va_S (sg_A b 892) H0 H locs → W p l e rm_X7_feed s m args below meth c H locs 0 0 Q (F0 m 16 ls []) := by
  obtain ⟨hx, hb, hml, hown, hts, hK⟩ := hZ
  intro σ x1 x3 x4 H locs ls h hl hC hS
  unfold fn_X7_feed_B16b at h
  refine lv_iload hx hb dX7_feed_16 (lv_at hl 3 rfl) ?_
  refine lv_iload_n hx hb dX7_feed_18 rfl (lv_at hl 2 rfl) ?_
  refine lv_icmp_ge (tgt := 42) hx hb dX7_feed_19 (by decide) (fun hc => ?_) (fun hc => ?_)
  · replace h := (if_pos hc).symm.trans h
    refine lv_aload_n hx hb dX7_feed_42 rfl (lv_at hl 0 rfl) ?_
    refine va_get (D := D) (ci := 7) (v := .ref (b + 2)) (C := RX7) (T := TX7) (N := 6) hx hb hts (wqs inW_X7) hown hK.1 hC.1 (b - b) sg_gShelf rfl 1 (by decide) (hts _ (wq wt_193)) (fun _ h9 => h9) rfl dX7_feed_43 ?_
    refine va_getN (D := D) (ci := 6) (v := .int (σ.1 (b + 2) 1)) (C := RX6) (T := TX6) (N := 2) hx hb hts (wqs inW_X6) hown hK.1 hC.1 ((b + 2) - b) sg_gText rfl 1 (by decide) (nf_1 hK) (fun _ h9 => h9) rfl dX7_feed_46 ?_
    refine lv_iload_n hx hb dX7_feed_49 rfl (lv_at hl 2 rfl) ?_
    refine lv_iadd hx hb dX7_feed_50 ?_
    refine lv_sipush (v := 600) hx hb dX7_feed_51 (by decide) ?_
    refine lv_icmp_le (tgt := 60) hx hb dX7_feed_54 (by decide) (fun hc => ?_) (fun hc => ?_)
    · replace h := (if_pos hc).symm.trans h
      refine lv_iload_n hx hb dX7_feed_60 rfl (lv_at hl 2 rfl) ?_
      refine lv_iconst (v := 1) hx hb dX7_feed_61 (by decide) ?_
      refine lv_isub hx hb dX7_feed_62 ?_
      obtain ⟨v1, ev1, h⟩ := sg_lte h
      refine sg_topi ev1 ?_
      refine lv_istore (lv' := [(4, .int v1), (0, .ref b), (1, .long x1), (3, .int x3)]) hx hb dX7_feed_63 hl (by decide) rfl (fun ls hl => ?_)
      exact w_X7_feed_B65 ⟨hx, hb, hml, hown, hts, hK⟩ hret  sg_N h (lv_sub hl [1, 2, 0] rfl) hC hS
    · replace h := (if_neg hc).symm.trans h
      refine lv_bipush (v := (-2)) hx hb dX7_feed_57 (by decide) ?_
      exact hret _ _ _ _ _ _ h hC hS dX7_feed_59
  · replace h := (if_neg hc).symm.trans h
    refine lv_lload_n hx hb dX7_feed_22 rfl (lv_at hl 1 rfl) ?_
    refine lv_iload hx hb dX7_feed_23 (lv_at hl 3 rfl) ?_
    obtain ⟨r2, er2, h⟩ := Option.bind_eq_some_iff.mp h
    refine va_calli (va_runS (As := [.long x1, .int x4]) (rest := []) ⟨hx, hb, hml, hown, hts⟩ (c_X7_byteOf l D κ b σ x1 x4 _ er2) (va_cwS 2 hts (gwS wt_215 wt_216 wt_1 wt_217) rfl rfl rfl (by decide +kernel) ⟨Nat.le_of_ble_eq_true rfl, Nat.le_of_ble_eq_true rfl⟩) (CW_preS hK hC) rfl rfl hl.1 rfl (lv_room (Nat.le_of_ble_eq_true rfl)) dX7_feed_25 ⟨Nat.zero_le _, Nat.zero_le _⟩) hS (fun _ _ h => h) (fun _ h => h) (fun r u t H locs ht _ hp hB _ _ hS => ?_)
    refine sg_topi hp.1 ?_
    have hC : CW D κ b σ H := CW_b hB ht hp.2
    obtain ⟨r3, er3, h⟩ := Option.bind_eq_some_iff.mp h
    refine va_calli (va_runS (As := [.int r2]) (rest := []) ⟨hx, hb, hml, hown, hts⟩ (c_X7_isSign l D κ b σ r2 _ er3) (va_cwS 1 hts (gwS wt_218 wt_219 wt_1 wt_220) rfl rfl rfl (by decide +kernel) ⟨Nat.le_of_ble_eq_true rfl, Nat.le_of_ble_eq_true rfl⟩) (CW_preS hK hC) rfl rfl hl.1 rfl (lv_room (Nat.le_of_ble_eq_true rfl)) dX7_feed_28 ⟨Nat.zero_le _, Nat.zero_le _⟩) hS (fun _ _ h => h) (fun _ h => h) (fun r u t H locs ht _ hp hB _ _ hS => ?_)
    refine sg_topi hp.1 ?_
    have hC : CW D κ b σ H := CW_b hB ht hp.2
    refine lv_if_ne (tgt := 36) hx hb dX7_feed_31 (by decide) (fun hc => ?_) (fun hc => ?_)
    · replace h := (if_neg hc).symm.trans h
      obtain ⟨v4, ev4, h⟩ := sg_lte h
      refine lv_iinc (v := v4) (lv' := [(4, .int v4), (0, .ref b), (1, .long x1), (3, .int x3)]) (k := 3) hx hb dX7_feed_36 hl rfl (sg_inc (by decide) ev4) (by decide) rfl (fun ls hl => ?_)
      refine lv_goto (tgt := 16) hx hb dX7_feed_39 (by decide) ?_
      exact hr16 h (lv_sub hl [1, 2, 3, 0] rfl) hC hS
    · replace h := (if_pos hc).symm.trans h
      refine lv_iconst (v := (-1)) hx hb dX7_feed_34 (by decide) ?_
      exact hret _ _ _ _ _ _ h hC hS dX7_feed_35
set_option maxHeartbeats 4000000 in
theorem w_X7_feed_B16 {p : Program} {l : Launch} {e : Env} {s : State} {m : MethodId} {args : Array Value} {below : List Frame} {meth : Method} {c : Code} {Q : State → Prop} {D : va_G} {κ : Nat → ClassId} {b : Nat} {H0 : Heap} {rr : Int32 × Sg} (hZ : sg_Z p c s m args D κ cX7_feed 5 RX7 wsX7_feed) (hret : ∀ (v : Int32) (u : Sg) (H : Heap) (locs : List Loc) (pc : Nat) (ls : Array Slot), some (v, u) = some rr → CW D κ b u H → va_S (sg_A b 892) H0 H locs → decode cX7_feed pc = .ok (.ireturn, 1) → W p l e rm_X7_feed s m args below meth c H locs 0 0 Q (F0 m pc ls [.int v])) : ∀ n : Nat, ∀ {σ : Sg} {x1 : Int64} {x3 : Int32} {x4 : Int32} {H : Heap} {locs : List Loc} {ls : Array Slot}, fn_X7_feed_B16 b n σ x1 x3 x4 = some rr → lv_has ls 5 [(0, .ref b), (1, .long x1), (3, .int x3), (4, .int x4)] → CW D κ b σ H → va_S (sg_A b 892) H0 H locs → W p l e rm_X7_feed s m args below meth c H locs 0 0 Q (F0 m 16 ls []) := by
  intro n
  induction n with
  | zero => intro σ x1 x3 x4 H locs ls h hl hC hS; cases (show (none : Option (Int32 × Sg)) = some rr from h)
  | succ n ih =>
    intro σ x1 x3 x4 H locs ls h hl hC hS
    exact w_X7_feed_B16b hZ hret ih (show fn_X7_feed_B16b b (fn_X7_feed_B16 b n) σ x1 x3 x4 = some rr from h)  hl hC hS
def fn_X7_feed (b : Nat) (σ : Sg) (x1 : Int64) (x3 : Int32) : Option (Int32 × Sg) :=
  (if x3 < 1 then
  some ((-1), σ)
  else (if x3 ≤ 8 then
  fn_X7_feed_B16 b sg_N σ x1 x3 0
  else some ((-1), σ)))
set_option maxHeartbeats 4000000 in
set_option maxRecDepth 100000 in
theorem w_X7_feed_B0 {p : Program} {l : Launch} {e : Env} {s : State} {m : MethodId} {args : Array Value} {below : List Frame} {meth : Method} {c : Code} {Q : State → Prop} {D : va_G} {κ : Nat → ClassId} {b : Nat} {H0 : Heap} {rr : Int32 × Sg} (hZ : sg_Z p c s m args D κ cX7_feed 5 RX7 wsX7_feed) (hret : ∀ (v : Int32) (u : Sg) (H : Heap) (locs : List Loc) (pc : Nat) (ls : Array Slot), some (v, u) = some rr → CW D κ b u H → va_S (sg_A b 892) H0 H locs → decode cX7_feed pc = .ok (.ireturn, 1) → W p l e rm_X7_feed s m args below meth c H locs 0 0 Q (F0 m pc ls [.int v])) : ∀ {σ : Sg} {x1 : Int64} {x3 : Int32} {H : Heap} {locs : List Loc} {ls : Array Slot}, fn_X7_feed b σ x1 x3 = some rr → lv_has ls 5 [(0, .ref b), (1, .long x1), (3, .int x3)] → CW D κ b σ H → va_S (sg_A b 892) H0 H locs → W p l e rm_X7_feed s m args below meth c H locs 0 0 Q (F0 m 0 ls []) := by
  obtain ⟨hx, hb, hml, hown, hts, hK⟩ := hZ
  intro σ x1 x3 H locs ls h hl hC hS
  unfold fn_X7_feed at h
  refine lv_iload_n hx hb dX7_feed_0 rfl (lv_at hl 2 rfl) ?_
  refine lv_iconst (v := 1) hx hb dX7_feed_1 (by decide) ?_
  refine lv_icmp_lt (tgt := 11) hx hb dX7_feed_2 (by decide) (fun hc => ?_) (fun hc => ?_)
  · replace h := (if_pos hc).symm.trans h
    refine lv_iconst (v := (-1)) hx hb dX7_feed_11 (by decide) ?_
    exact hret _ _ _ _ _ _ h hC hS dX7_feed_12
  · replace h := (if_neg hc).symm.trans h
    refine lv_iload_n hx hb dX7_feed_5 rfl (lv_at hl 2 rfl) ?_
    refine lv_bipush (v := 8) hx hb dX7_feed_6 (by decide) ?_
    refine lv_icmp_le (tgt := 13) hx hb dX7_feed_8 (by decide) (fun hc => ?_) (fun hc => ?_)
    · replace h := (if_pos hc).symm.trans h
      refine lv_iconst (v := 0) hx hb dX7_feed_13 (by decide) ?_
      refine lv_istore (lv' := [(4, .int 0), (0, .ref b), (1, .long x1), (3, .int x3)]) hx hb dX7_feed_14 hl (by decide) rfl (fun ls hl => ?_)
      exact w_X7_feed_B16 ⟨hx, hb, hml, hown, hts, hK⟩ hret  sg_N h (lv_sub hl [1, 2, 3, 0] rfl) hC hS
    · replace h := (if_neg hc).symm.trans h
      refine lv_iconst (v := (-1)) hx hb dX7_feed_11 (by decide) ?_
      exact hret _ _ _ _ _ _ h hC hS dX7_feed_12
set_option maxHeartbeats 4000000 in
set_option maxRecDepth 100000 in
theorem c_X7_feed (l : Launch) (D : va_G) (κ : Nat → ClassId) (b : Nat) (σ : Sg) (x1 : Int64) (x3 : Int32) (rr : Int32 × Sg)  (h : fn_X7_feed b σ x1 x3 = some rr) : Met l yX7_feed wsX7_feed rm_X7_feed (va_Pc [.ref b, .long x1, .int x3] (fun U => KK D κ U ∧ CW D κ b σ U.heap)) (va_Qi (fun (r : Int32) (u : Sg) => r = rr.1 ∧ u = rr.2) (fun u t => CW D κ b u t.heap) (sg_A b 892)) 0 0 (sg_A b 892) := by
  refine Met.ofW (cc := cX7_feed) (maxL := 5) (ret := (some .int)) (by decide) rfl ?_
  intro p e s m args below meth c s₁ B hml hv
  obtain ⟨rfl, hK, hC⟩ := hv
  have hr := B.returns
  have hlocks := B.notSynchronized
  have hl := lv_entry ([.ref b, .long x1, .int x3]) (n := 5) (Nat.le_of_ble_eq_true rfl)
  rw [lg_entry_eq]
  generalize (lg_sl ([.ref b, .long x1, .int x3]) ++ List.replicate (5 - (lg_sl ([.ref b, .long x1, .int x3])).length) Slot.unset).toArray = ls at hl ⊢
  have hl : lv_has ls 5 [(0, .ref b), (1, .long x1), (3, .int x3)] := hl
  exact w_X7_feed_B0 ⟨B.exec, B.bytes, hml, findClass_of_methodNamed B.named, atoms_spec (ws := wsX7_feed) B.pre, hK⟩ (fun v u H locs pc ls hq hC hS hd => W.iret B.exec B.bytes hr (fun t ht hW => ⟨⟨v, _, rfl, ⟨congrArg Prod.fst (Option.some.inj hq), congrArg Prod.snd (Option.some.inj hq)⟩, CW_e ht hC⟩, hS.F ht⟩) hS.2.2 hd) h  hl hC va_S.rf

-- RecordShelf.cut(I)I
theorem dX7_cut_0 : decode cX7_cut 0 = .ok (.aload_n 0, 1) := by decide +kernel
theorem dX7_cut_1 : decode cX7_cut 1 = .ok (.getfield 20, 3) := by decide +kernel
theorem dX7_cut_4 : decode cX7_cut 4 = .ok (.iload_n 1, 1) := by decide +kernel
theorem dX7_cut_5 : decode cX7_cut 5 = .ok (.invokevirtual 62, 3) := by decide +kernel
theorem dX7_cut_8 : decode cX7_cut 8 = .ok (.aload_n 0, 1) := by decide +kernel
theorem dX7_cut_9 : decode cX7_cut 9 = .ok (.getfield 20, 3) := by decide +kernel
theorem dX7_cut_12 : decode cX7_cut 12 = .ok (.getfield 52, 3) := by decide +kernel
theorem dX7_cut_15 : decode cX7_cut 15 = .ok (.ireturn, 1) := by decide +kernel
def rm_X7_cut : Room := { frames := 2, cells := 0, slots := 0, locals := 42 }
def fn_X7_cut (b : Nat) (σ : Sg) (x1 : Int32) : Option (Int32 × Sg) :=
  ((fn_X6_keep b σ x1).bind fun r1 =>
  some ((r1.1 (b + 2) 1), r1))
set_option maxHeartbeats 4000000 in
set_option maxRecDepth 100000 in
theorem w_X7_cut_B0 {p : Program} {l : Launch} {e : Env} {s : State} {m : MethodId} {args : Array Value} {below : List Frame} {meth : Method} {c : Code} {Q : State → Prop} {D : va_G} {κ : Nat → ClassId} {b : Nat} {H0 : Heap} {rr : Int32 × Sg} (hZ : sg_Z p c s m args D κ cX7_cut 2 RX7 wsX7_cut) (hret : ∀ (v : Int32) (u : Sg) (H : Heap) (locs : List Loc) (pc : Nat) (ls : Array Slot), some (v, u) = some rr → CW D κ b u H → va_S (sg_A b 892) H0 H locs → decode cX7_cut pc = .ok (.ireturn, 1) → W p l e rm_X7_cut s m args below meth c H locs 0 0 Q (F0 m pc ls [.int v])) : ∀ {σ : Sg} {x1 : Int32} {H : Heap} {locs : List Loc} {ls : Array Slot}, fn_X7_cut b σ x1 = some rr → lv_has ls 2 [(0, .ref b), (1, .int x1)] → CW D κ b σ H → va_S (sg_A b 892) H0 H locs → W p l e rm_X7_cut s m args below meth c H locs 0 0 Q (F0 m 0 ls []) := by
  obtain ⟨hx, hb, hml, hown, hts, hK⟩ := hZ
  intro σ x1 H locs ls h hl hC hS
  unfold fn_X7_cut at h
  refine lv_aload_n hx hb dX7_cut_0 rfl (lv_at hl 0 rfl) ?_
  refine va_get (D := D) (ci := 7) (v := .ref (b + 2)) (C := RX7) (T := TX7) (N := 6) hx hb hts (wqs inW_X7) hown hK.1 hC.1 (b - b) sg_gShelf rfl 1 (by decide) (hts _ (wq wt_193)) (fun _ h9 => h9) rfl dX7_cut_1 ?_
  refine lv_iload_n hx hb dX7_cut_4 rfl (lv_at hl 1 rfl) ?_
  obtain ⟨r1, er1, h⟩ := Option.bind_eq_some_iff.mp h
  refine va_callv (va_runV (As := [.int x1]) (rest := []) ⟨hx, hb, hml, hown, hts⟩ (c_X6_keep l D κ b σ x1 _ er1) (cwV 1 hts (gwV wt_229 wt_230 wt_231 wt_3 wt_232) rfl rfl rfl (by decide +kernel) ⟨Nat.le_of_ble_eq_true rfl, Nat.le_of_ble_eq_true rfl⟩) (CW_preV hK hC sg_gText rfl) rfl rfl hl.1 rfl (lv_room (Nat.le_of_ble_eq_true rfl)) dX7_cut_5 ⟨Nat.zero_le _, Nat.zero_le _⟩) hS (fun _ _ h => h) (fun _ h => h) (fun u t H locs ht _ hp hB _ _ hS => ?_)
  have hC : CW D κ b r1 H := CW_b hB ht hp
  refine lv_aload_n hx hb dX7_cut_8 rfl (lv_at hl 0 rfl) ?_
  refine va_get (D := D) (ci := 7) (v := .ref (b + 2)) (C := RX7) (T := TX7) (N := 6) hx hb hts (wqs inW_X7) hown hK.1 hC.1 (b - b) sg_gShelf rfl 1 (by decide) (hts _ (wq wt_193)) (fun _ h9 => h9) rfl dX7_cut_9 ?_
  refine va_getN (D := D) (ci := 6) (v := .int (r1.1 (b + 2) 1)) (C := RX6) (T := TX6) (N := 2) hx hb hts (wqs inW_X6) hown hK.1 hC.1 ((b + 2) - b) sg_gText rfl 1 (by decide) (nf_1 hK) (fun _ h9 => h9) rfl dX7_cut_12 ?_
  exact hret _ _ _ _ _ _ h hC hS dX7_cut_15
set_option maxHeartbeats 4000000 in
set_option maxRecDepth 100000 in
theorem c_X7_cut (l : Launch) (D : va_G) (κ : Nat → ClassId) (b : Nat) (σ : Sg) (x1 : Int32) (rr : Int32 × Sg)  (h : fn_X7_cut b σ x1 = some rr) : Met l yX7_cut wsX7_cut rm_X7_cut (va_Pc [.ref b, .int x1] (fun U => KK D κ U ∧ CW D κ b σ U.heap)) (va_Qi (fun (r : Int32) (u : Sg) => r = rr.1 ∧ u = rr.2) (fun u t => CW D κ b u t.heap) (sg_A b 892)) 0 0 (sg_A b 892) := by
  refine Met.ofW (cc := cX7_cut) (maxL := 2) (ret := (some .int)) (by decide) rfl ?_
  intro p e s m args below meth c s₁ B hml hv
  obtain ⟨rfl, hK, hC⟩ := hv
  have hr := B.returns
  have hlocks := B.notSynchronized
  have hl := lv_entry ([.ref b, .int x1]) (n := 2) (Nat.le_of_ble_eq_true rfl)
  rw [lg_entry_eq]
  generalize (lg_sl ([.ref b, .int x1]) ++ List.replicate (2 - (lg_sl ([.ref b, .int x1])).length) Slot.unset).toArray = ls at hl ⊢
  have hl : lv_has ls 2 [(0, .ref b), (1, .int x1)] := hl
  exact w_X7_cut_B0 ⟨B.exec, B.bytes, hml, findClass_of_methodNamed B.named, atoms_spec (ws := wsX7_cut) B.pre, hK⟩ (fun v u H locs pc ls hq hC hS hd => W.iret B.exec B.bytes hr (fun t ht hW => ⟨⟨v, _, rfl, ⟨congrArg Prod.fst (Option.some.inj hq), congrArg Prod.snd (Option.some.inj hq)⟩, CW_e ht hC⟩, hS.F ht⟩) hS.2.2 hd) h  hl hC va_S.rf

-- RecordShelf.letter(I)I
theorem dX7_letter_0 : decode cX7_letter 0 = .ok (.aload_n 0, 1) := by decide +kernel
theorem dX7_letter_1 : decode cX7_letter 1 = .ok (.getfield 20, 3) := by decide +kernel
theorem dX7_letter_4 : decode cX7_letter 4 = .ok (.iload_n 1, 1) := by decide +kernel
theorem dX7_letter_5 : decode cX7_letter 5 = .ok (.invokevirtual 65, 3) := by decide +kernel
theorem dX7_letter_8 : decode cX7_letter 8 = .ok (.ireturn, 1) := by decide +kernel
def rm_X7_letter : Room := { frames := 1, cells := 0, slots := 0, locals := 21 }
def fn_X7_letter (b : Nat) (σ : Sg) (x1 : Int32) : Option (Int32) :=
  ((fn_X6_codeAt b σ x1).bind fun r1 =>
  some r1)
set_option maxHeartbeats 4000000 in
set_option maxRecDepth 100000 in
theorem w_X7_letter_B0 {p : Program} {l : Launch} {e : Env} {s : State} {m : MethodId} {args : Array Value} {below : List Frame} {meth : Method} {c : Code} {Q : State → Prop} {D : va_G} {κ : Nat → ClassId} {b : Nat} {H0 : Heap} {rr : Int32} {σ : Sg} (hZ : sg_Z p c s m args D κ cX7_letter 2 RX7 wsX7_letter) (hret : ∀ (v : Int32) (H : Heap) (locs : List Loc) (pc : Nat) (ls : Array Slot), some v = some rr → CW D κ b σ H → va_S (sg_A b 892) H0 H locs → decode cX7_letter pc = .ok (.ireturn, 1) → W p l e rm_X7_letter s m args below meth c H locs 0 0 Q (F0 m pc ls [.int v])) : ∀ {x1 : Int32} {H : Heap} {locs : List Loc} {ls : Array Slot}, fn_X7_letter b σ x1 = some rr → lv_has ls 2 [(0, .ref b), (1, .int x1)] → CW D κ b σ H → va_S (sg_A b 892) H0 H locs → W p l e rm_X7_letter s m args below meth c H locs 0 0 Q (F0 m 0 ls []) := by
  obtain ⟨hx, hb, hml, hown, hts, hK⟩ := hZ
  intro x1 H locs ls h hl hC hS
  unfold fn_X7_letter at h
  refine lv_aload_n hx hb dX7_letter_0 rfl (lv_at hl 0 rfl) ?_
  refine va_get (D := D) (ci := 7) (v := .ref (b + 2)) (C := RX7) (T := TX7) (N := 6) hx hb hts (wqs inW_X7) hown hK.1 hC.1 (b - b) sg_gShelf rfl 1 (by decide) (hts _ (wq wt_193)) (fun _ h9 => h9) rfl dX7_letter_1 ?_
  refine lv_iload_n hx hb dX7_letter_4 rfl (lv_at hl 1 rfl) ?_
  obtain ⟨r1, er1, h⟩ := Option.bind_eq_some_iff.mp h
  refine va_calli (va_runV (As := [.int x1]) (rest := []) ⟨hx, hb, hml, hown, hts⟩ (c_X6_codeAt l D κ b σ x1 _ er1) (cwV 1 hts (gwV wt_243 wt_244 wt_245 wt_3 wt_246) rfl rfl rfl (by decide +kernel) ⟨Nat.le_of_ble_eq_true rfl, Nat.le_of_ble_eq_true rfl⟩) (CW_preV hK hC sg_gText rfl) rfl rfl hl.1 rfl (lv_room (Nat.le_of_ble_eq_true rfl)) dX7_letter_5 ⟨Nat.zero_le _, Nat.zero_le _⟩) hS (fun _ _ h => h) (fun _ h => h) (fun r u t H locs ht _ hp hB _ _ hS => ?_)
  refine sg_topi hp.1 ?_
  have hC : CW D κ b σ H := CW_b hB ht hp.2
  exact hret _ _ _ _ _ h hC hS dX7_letter_8
set_option maxHeartbeats 4000000 in
set_option maxRecDepth 100000 in
theorem c_X7_letter (l : Launch) (D : va_G) (κ : Nat → ClassId) (b : Nat) (σ : Sg) (x1 : Int32) (rr : Int32)  (h : fn_X7_letter b σ x1 = some rr) : Met l yX7_letter wsX7_letter rm_X7_letter (va_Pc [.ref b, .int x1] (fun U => KK D κ U ∧ CW D κ b σ U.heap)) (va_Qi (fun (r : Int32) (u : Sg) => r = rr ∧ u = σ) (fun u t => CW D κ b u t.heap) (sg_A b 892)) 0 0 (sg_A b 892) := by
  refine Met.ofW (cc := cX7_letter) (maxL := 2) (ret := (some .int)) (by decide) rfl ?_
  intro p e s m args below meth c s₁ B hml hv
  obtain ⟨rfl, hK, hC⟩ := hv
  have hr := B.returns
  have hlocks := B.notSynchronized
  have hl := lv_entry ([.ref b, .int x1]) (n := 2) (Nat.le_of_ble_eq_true rfl)
  rw [lg_entry_eq]
  generalize (lg_sl ([.ref b, .int x1]) ++ List.replicate (2 - (lg_sl ([.ref b, .int x1])).length) Slot.unset).toArray = ls at hl ⊢
  have hl : lv_has ls 2 [(0, .ref b), (1, .int x1)] := hl
  exact w_X7_letter_B0 ⟨B.exec, B.bytes, hml, findClass_of_methodNamed B.named, atoms_spec (ws := wsX7_letter) B.pre, hK⟩ (fun v H locs pc ls hq hC hS hd => W.iret B.exec B.bytes hr (fun t ht hW => ⟨⟨v, _, rfl, ⟨Option.some.inj hq, rfl⟩, CW_e ht hC⟩, hS.F ht⟩) hS.2.2 hd) h  hl hC va_S.rf

-- RecordShelf.place()I
theorem dX7_place_0 : decode cX7_place 0 = .ok (.aload_n 0, 1) := by decide +kernel
theorem dX7_place_1 : decode cX7_place 1 = .ok (.getfield 12, 3) := by decide +kernel
theorem dX7_place_4 : decode cX7_place 4 = .ok (.getfield 82, 3) := by decide +kernel
theorem dX7_place_7 : decode cX7_place 7 = .ok (.ireturn, 1) := by decide +kernel
def rm_X7_place : Room := { frames := 0, cells := 0, slots := 0, locals := 0 }
def fn_X7_place (b : Nat) (σ : Sg) : Option (Int32) :=
  some (σ.1 (b + 1) 7)
set_option maxHeartbeats 4000000 in
set_option maxRecDepth 100000 in
theorem w_X7_place_B0 {p : Program} {l : Launch} {e : Env} {s : State} {m : MethodId} {args : Array Value} {below : List Frame} {meth : Method} {c : Code} {Q : State → Prop} {D : va_G} {κ : Nat → ClassId} {b : Nat} {H0 : Heap} {rr : Int32} {σ : Sg} (hZ : sg_Z p c s m args D κ cX7_place 1 RX7 wsX7_place) (hret : ∀ (v : Int32) (H : Heap) (locs : List Loc) (pc : Nat) (ls : Array Slot), some v = some rr → CW D κ b σ H → va_S (sg_A b 892) H0 H locs → decode cX7_place pc = .ok (.ireturn, 1) → W p l e rm_X7_place s m args below meth c H locs 0 0 Q (F0 m pc ls [.int v])) : ∀ {H : Heap} {locs : List Loc} {ls : Array Slot}, fn_X7_place b σ = some rr → lv_has ls 1 [(0, .ref b)] → CW D κ b σ H → va_S (sg_A b 892) H0 H locs → W p l e rm_X7_place s m args below meth c H locs 0 0 Q (F0 m 0 ls []) := by
  obtain ⟨hx, hb, hml, hown, hts, hK⟩ := hZ
  intro H locs ls h hl hC hS
  unfold fn_X7_place at h
  refine lv_aload_n hx hb dX7_place_0 rfl (lv_at hl 0 rfl) ?_
  refine va_get (D := D) (ci := 7) (v := .ref (b + 1)) (C := RX7) (T := TX7) (N := 6) hx hb hts (wqs inW_X7) hown hK.1 hC.1 (b - b) sg_gShelf rfl 0 (by decide) (hts _ (wq wt_192)) (fun _ h9 => h9) rfl dX7_place_1 ?_
  refine va_getN (D := D) (ci := 4) (v := .int (σ.1 (b + 1) 7)) (C := RX4) (T := TX4) (N := 8) hx hb hts (wqs inW_X4) hown hK.1 hC.1 ((b + 1) - b) sg_gReader rfl 7 (by decide) (nf_5 hK) (fun _ h9 => h9) rfl dX7_place_4 ?_
  exact hret _ _ _ _ _ h hC hS dX7_place_7
set_option maxHeartbeats 4000000 in
set_option maxRecDepth 100000 in
theorem c_X7_place (l : Launch) (D : va_G) (κ : Nat → ClassId) (b : Nat) (σ : Sg)  (rr : Int32)  (h : fn_X7_place b σ = some rr) : Met l yX7_place wsX7_place rm_X7_place (va_Pc [.ref b] (fun U => KK D κ U ∧ CW D κ b σ U.heap)) (va_Qi (fun (r : Int32) (u : Sg) => r = rr ∧ u = σ) (fun u t => CW D κ b u t.heap) (sg_A b 892)) 0 0 (sg_A b 892) := by
  refine Met.ofW (cc := cX7_place) (maxL := 1) (ret := (some .int)) (by decide) rfl ?_
  intro p e s m args below meth c s₁ B hml hv
  obtain ⟨rfl, hK, hC⟩ := hv
  have hr := B.returns
  have hlocks := B.notSynchronized
  have hl := lv_entry ([.ref b]) (n := 1) (Nat.le_of_ble_eq_true rfl)
  rw [lg_entry_eq]
  generalize (lg_sl ([.ref b]) ++ List.replicate (1 - (lg_sl ([.ref b])).length) Slot.unset).toArray = ls at hl ⊢
  have hl : lv_has ls 1 [(0, .ref b)] := hl
  exact w_X7_place_B0 ⟨B.exec, B.bytes, hml, findClass_of_methodNamed B.named, atoms_spec (ws := wsX7_place) B.pre, hK⟩ (fun v H locs pc ls hq hC hS hd => W.iret B.exec B.bytes hr (fun t ht hW => ⟨⟨v, _, rfl, ⟨Option.some.inj hq, rfl⟩, CW_e ht hC⟩, hS.F ht⟩) hS.2.2 hd) h  hl hC va_S.rf

-- RecordShelf.hasCard(I)Z
theorem dX7_hasCard_0 : decode cX7_hasCard 0 = .ok (.iload_n 1, 1) := by decide +kernel
theorem dX7_hasCard_1 : decode cX7_hasCard 1 = .ok (.ifCond .lt 15, 3) := by decide +kernel
theorem dX7_hasCard_4 : decode cX7_hasCard 4 = .ok (.iload_n 1, 1) := by decide +kernel
theorem dX7_hasCard_5 : decode cX7_hasCard 5 = .ok (.aload_n 0, 1) := by decide +kernel
theorem dX7_hasCard_6 : decode cX7_hasCard 6 = .ok (.getfield 72, 3) := by decide +kernel
theorem dX7_hasCard_9 : decode cX7_hasCard 9 = .ok (.if_icmp .ge 7, 3) := by decide +kernel
theorem dX7_hasCard_12 : decode cX7_hasCard 12 = .ok (.iconst 1, 1) := by decide +kernel
theorem dX7_hasCard_13 : decode cX7_hasCard 13 = .ok (.goto 4, 3) := by decide +kernel
theorem dX7_hasCard_16 : decode cX7_hasCard 16 = .ok (.iconst 0, 1) := by decide +kernel
theorem dX7_hasCard_17 : decode cX7_hasCard 17 = .ok (.ireturn, 1) := by decide +kernel
def rm_X7_hasCard : Room := { frames := 0, cells := 0, slots := 0, locals := 0 }
def fn_X7_hasCard (b : Nat) (σ : Sg) (x1 : Int32) : Option (Int32) :=
  (if x1 < 0 then
  some 0
  else (if ((σ.1 b 5) : Int32) ≤ x1 then
  some 0
  else some 1))
set_option maxHeartbeats 4000000 in
set_option maxRecDepth 100000 in
theorem w_X7_hasCard_B0 {p : Program} {l : Launch} {e : Env} {s : State} {m : MethodId} {args : Array Value} {below : List Frame} {meth : Method} {c : Code} {Q : State → Prop} {D : va_G} {κ : Nat → ClassId} {b : Nat} {H0 : Heap} {rr : Int32} {σ : Sg} (hZ : sg_Z p c s m args D κ cX7_hasCard 2 RX7 wsX7_hasCard) (hret : ∀ (v : Int32) (H : Heap) (locs : List Loc) (pc : Nat) (ls : Array Slot), some v = some rr → narrow .boolean (.int v) = .int v → CW D κ b σ H → va_S (sg_A b 892) H0 H locs → decode cX7_hasCard pc = .ok (.ireturn, 1) → W p l e rm_X7_hasCard s m args below meth c H locs 0 0 Q (F0 m pc ls [.int v])) : ∀ {x1 : Int32} {H : Heap} {locs : List Loc} {ls : Array Slot}, fn_X7_hasCard b σ x1 = some rr → lv_has ls 2 [(0, .ref b), (1, .int x1)] → CW D κ b σ H → va_S (sg_A b 892) H0 H locs → W p l e rm_X7_hasCard s m args below meth c H locs 0 0 Q (F0 m 0 ls []) := by
  obtain ⟨hx, hb, hml, hown, hts, hK⟩ := hZ
  intro x1 H locs ls h hl hC hS
  unfold fn_X7_hasCard at h
  refine lv_iload_n hx hb dX7_hasCard_0 rfl (lv_at hl 1 rfl) ?_
  refine lv_if_lt (tgt := 16) hx hb dX7_hasCard_1 (by decide) (fun hc => ?_) (fun hc => ?_)
  · replace h := (if_pos hc).symm.trans h
    refine lv_iconst (v := 0) hx hb dX7_hasCard_16 (by decide) ?_
    exact hret _ _ _ _ _ h (by decide) hC hS dX7_hasCard_17
  · replace h := (if_neg hc).symm.trans h
    refine lv_iload_n hx hb dX7_hasCard_4 rfl (lv_at hl 1 rfl) ?_
    refine lv_aload_n hx hb dX7_hasCard_5 rfl (lv_at hl 0 rfl) ?_
    refine va_get (D := D) (ci := 7) (v := .int (σ.1 b 5)) (C := RX7) (T := TX7) (N := 6) hx hb hts (wqs inW_X7) hown hK.1 hC.1 (b - b) sg_gShelf rfl 5 (by decide) (hts _ (wq wt_197)) (fun _ h9 => h9) rfl dX7_hasCard_6 ?_
    refine lv_icmp_ge (tgt := 16) hx hb dX7_hasCard_9 (by decide) (fun hc => ?_) (fun hc => ?_)
    · replace h := (if_pos hc).symm.trans h
      refine lv_iconst (v := 0) hx hb dX7_hasCard_16 (by decide) ?_
      exact hret _ _ _ _ _ h (by decide) hC hS dX7_hasCard_17
    · replace h := (if_neg hc).symm.trans h
      refine lv_iconst (v := 1) hx hb dX7_hasCard_12 (by decide) ?_
      refine lv_goto (tgt := 17) hx hb dX7_hasCard_13 (by decide) ?_
      exact hret _ _ _ _ _ h (by decide) hC hS dX7_hasCard_17
set_option maxHeartbeats 4000000 in
set_option maxRecDepth 100000 in
theorem c_X7_hasCard (l : Launch) (D : va_G) (κ : Nat → ClassId) (b : Nat) (σ : Sg) (x1 : Int32) (rr : Int32)  (h : fn_X7_hasCard b σ x1 = some rr) : Met l yX7_hasCard wsX7_hasCard rm_X7_hasCard (va_Pc [.ref b, .int x1] (fun U => KK D κ U ∧ CW D κ b σ U.heap)) (va_Qi (fun (r : Int32) (u : Sg) => r = rr ∧ u = σ) (fun u t => CW D κ b u t.heap) (sg_A b 892)) 0 0 (sg_A b 892) := by
  refine Met.ofW (cc := cX7_hasCard) (maxL := 2) (ret := (some .boolean)) (by decide) rfl ?_
  intro p e s m args below meth c s₁ B hml hv
  obtain ⟨rfl, hK, hC⟩ := hv
  have hr := B.returns
  have hlocks := B.notSynchronized
  have hl := lv_entry ([.ref b, .int x1]) (n := 2) (Nat.le_of_ble_eq_true rfl)
  rw [lg_entry_eq]
  generalize (lg_sl ([.ref b, .int x1]) ++ List.replicate (2 - (lg_sl ([.ref b, .int x1])).length) Slot.unset).toArray = ls at hl ⊢
  have hl : lv_has ls 2 [(0, .ref b), (1, .int x1)] := hl
  exact w_X7_hasCard_B0 ⟨B.exec, B.bytes, hml, findClass_of_methodNamed B.named, atoms_spec (ws := wsX7_hasCard) B.pre, hK⟩ (fun v H locs pc ls hq hbo hC hS hd => W.zret B.exec B.bytes hr hbo (fun t ht hW => ⟨⟨v, _, rfl, ⟨Option.some.inj hq, rfl⟩, CW_e ht hC⟩, hS.F ht⟩) hS.2.2 hd) h  hl hC va_S.rf

-- RecordShelf.field(IICC)I
theorem dX7_field_0 : decode cX7_field 0 = .ok (.aload_n 0, 1) := by decide +kernel
theorem dX7_field_1 : decode cX7_field 1 = .ok (.iload_n 1, 1) := by decide +kernel
theorem dX7_field_2 : decode cX7_field 2 = .ok (.invokevirtual 88, 3) := by decide +kernel
theorem dX7_field_5 : decode cX7_field 5 = .ok (.ifCond .eq 15, 3) := by decide +kernel
theorem dX7_field_8 : decode cX7_field 8 = .ok (.iload_n 2, 1) := by decide +kernel
theorem dX7_field_9 : decode cX7_field 9 = .ok (.iconst 1, 1) := by decide +kernel
theorem dX7_field_10 : decode cX7_field 10 = .ok (.if_icmp .lt 10, 3) := by decide +kernel
theorem dX7_field_13 : decode cX7_field 13 = .ok (.iload_n 2, 1) := by decide +kernel
theorem dX7_field_14 : decode cX7_field 14 = .ok (.sipush 999, 3) := by decide +kernel
theorem dX7_field_17 : decode cX7_field 17 = .ok (.if_icmp .le 5, 3) := by decide +kernel
theorem dX7_field_20 : decode cX7_field 20 = .ok (.iconst (-1), 1) := by decide +kernel
theorem dX7_field_21 : decode cX7_field 21 = .ok (.ireturn, 1) := by decide +kernel
theorem dX7_field_22 : decode cX7_field 22 = .ok (.iload_n 2, 1) := by decide +kernel
theorem dX7_field_23 : decode cX7_field 23 = .ok (.bipush 10, 2) := by decide +kernel
theorem dX7_field_25 : decode cX7_field 25 = .ok (.if_icmp .ge 7, 3) := by decide +kernel
theorem dX7_field_28 : decode cX7_field 28 = .ok (.iconst 1, 1) := by decide +kernel
theorem dX7_field_29 : decode cX7_field 29 = .ok (.goto 4, 3) := by decide +kernel
theorem dX7_field_32 : decode cX7_field 32 = .ok (.iconst 0, 1) := by decide +kernel
theorem dX7_field_33 : decode cX7_field 33 = .ok (.istore 5, 2) := by decide +kernel
theorem dX7_field_35 : decode cX7_field 35 = .ok (.iload 5, 2) := by decide +kernel
theorem dX7_field_37 : decode cX7_field 37 = .ok (.ifCond .ne 20, 3) := by decide +kernel
theorem dX7_field_40 : decode cX7_field 40 = .ok (.iload_n 3, 1) := by decide +kernel
theorem dX7_field_41 : decode cX7_field 41 = .ok (.invokestatic 91, 3) := by decide +kernel
theorem dX7_field_44 : decode cX7_field 44 = .ok (.ifCond .eq 11, 3) := by decide +kernel
theorem dX7_field_47 : decode cX7_field 47 = .ok (.iload 4, 2) := by decide +kernel
theorem dX7_field_49 : decode cX7_field 49 = .ok (.invokestatic 91, 3) := by decide +kernel
theorem dX7_field_52 : decode cX7_field 52 = .ok (.ifCond .ne 5, 3) := by decide +kernel
theorem dX7_field_55 : decode cX7_field 55 = .ok (.iconst (-1), 1) := by decide +kernel
theorem dX7_field_56 : decode cX7_field 56 = .ok (.ireturn, 1) := by decide +kernel
theorem dX7_field_57 : decode cX7_field 57 = .ok (.aload_n 0, 1) := by decide +kernel
theorem dX7_field_58 : decode cX7_field 58 = .ok (.getfield 23, 3) := by decide +kernel
theorem dX7_field_61 : decode cX7_field 61 = .ok (.iload_n 1, 1) := by decide +kernel
theorem dX7_field_62 : decode cX7_field 62 = .ok (.aaload, 1) := by decide +kernel
theorem dX7_field_63 : decode cX7_field 63 = .ok (.astore 6, 2) := by decide +kernel
theorem dX7_field_65 : decode cX7_field 65 = .ok (.aload 6, 2) := by decide +kernel
theorem dX7_field_67 : decode cX7_field 67 = .ok (.invokevirtual 94, 3) := by decide +kernel
theorem dX7_field_70 : decode cX7_field 70 = .ok (.ifCond .eq 6, 3) := by decide +kernel
theorem dX7_field_73 : decode cX7_field 73 = .ok (.bipush (-2), 2) := by decide +kernel
theorem dX7_field_75 : decode cX7_field 75 = .ok (.ireturn, 1) := by decide +kernel
theorem dX7_field_76 : decode cX7_field 76 = .ok (.aload 6, 2) := by decide +kernel
theorem dX7_field_78 : decode cX7_field 78 = .ok (.iload_n 2, 1) := by decide +kernel
theorem dX7_field_79 : decode cX7_field 79 = .ok (.invokevirtual 98, 3) := by decide +kernel
theorem dX7_field_82 : decode cX7_field 82 = .ok (.astore 7, 2) := by decide +kernel
theorem dX7_field_84 : decode cX7_field 84 = .ok (.iload 5, 2) := by decide +kernel
theorem dX7_field_86 : decode cX7_field 86 = .ok (.ifCond .ne 16, 3) := by decide +kernel
theorem dX7_field_89 : decode cX7_field 89 = .ok (.aload 7, 2) := by decide +kernel
theorem dX7_field_91 : decode cX7_field 91 = .ok (.iload_n 3, 1) := by decide +kernel
theorem dX7_field_92 : decode cX7_field 92 = .ok (.putfield 102, 3) := by decide +kernel
theorem dX7_field_95 : decode cX7_field 95 = .ok (.aload 7, 2) := by decide +kernel
theorem dX7_field_97 : decode cX7_field 97 = .ok (.iload 4, 2) := by decide +kernel
theorem dX7_field_99 : decode cX7_field 99 = .ok (.putfield 108, 3) := by decide +kernel
theorem dX7_field_102 : decode cX7_field 102 = .ok (.aload 7, 2) := by decide +kernel
theorem dX7_field_104 : decode cX7_field 104 = .ok (.iload 5, 2) := by decide +kernel
theorem dX7_field_106 : decode cX7_field 106 = .ok (.ifCond .eq 7, 3) := by decide +kernel
theorem dX7_field_109 : decode cX7_field 109 = .ok (.iconst 0, 1) := by decide +kernel
theorem dX7_field_110 : decode cX7_field 110 = .ok (.goto 5, 3) := by decide +kernel
theorem dX7_field_113 : decode cX7_field 113 = .ok (.bipush 97, 2) := by decide +kernel
theorem dX7_field_115 : decode cX7_field 115 = .ok (.invokevirtual 111, 3) := by decide +kernel
theorem dX7_field_118 : decode cX7_field 118 = .ok (.aload 6, 2) := by decide +kernel
theorem dX7_field_120 : decode cX7_field 120 = .ok (.getfield 114, 3) := by decide +kernel
theorem dX7_field_123 : decode cX7_field 123 = .ok (.iconst 1, 1) := by decide +kernel
theorem dX7_field_124 : decode cX7_field 124 = .ok (.isub, 1) := by decide +kernel
theorem dX7_field_125 : decode cX7_field 125 = .ok (.ireturn, 1) := by decide +kernel
def rm_X7_field : Room := { frames := 3, cells := 0, slots := 0, locals := 62 }
def fn_X7_field_B115 (b : Nat) (σ : Sg) (x6 : Nat) (y0 : Int32) (y1 : Nat) : Option (Int32 × Sg) :=
  ((fn_X1_addSubfield b σ y1 y0).bind fun r1 =>
  some (((r1.1 x6 2) - 1), r1))
set_option maxHeartbeats 4000000 in
set_option maxRecDepth 100000 in
theorem w_X7_field_B115 {p : Program} {l : Launch} {e : Env} {s : State} {m : MethodId} {args : Array Value} {below : List Frame} {meth : Method} {c : Code} {Q : State → Prop} {D : va_G} {κ : Nat → ClassId} {b : Nat} {H0 : Heap} {rr : Int32 × Sg} (hZ : sg_Z p c s m args D κ cX7_field 8 RX7 wsX7_field) (hret : ∀ (v : Int32) (u : Sg) (H : Heap) (locs : List Loc) (pc : Nat) (ls : Array Slot), some (v, u) = some rr → CW D κ b u H → va_S (sg_A b 892) H0 H locs → decode cX7_field pc = .ok (.ireturn, 1) → W p l e rm_X7_field s m args below meth c H locs 0 0 Q (F0 m pc ls [.int v])) : ∀ {σ : Sg} {x6 : Nat} {y0 : Int32} {y1 : Nat} {H : Heap} {locs : List Loc} {ls : Array Slot}, fn_X7_field_B115 b σ x6 y0 y1 = some rr → is_Card b x6 → is_Fld b y1 → lv_has ls 8 [(6, .ref x6)] → CW D κ b σ H → va_S (sg_A b 892) H0 H locs → W p l e rm_X7_field s m args below meth c H locs 0 0 Q (F0 m 115 ls [.int y0, .ref y1]) := by
  obtain ⟨hx, hb, hml, hown, hts, hK⟩ := hZ
  intro σ x6 y0 y1 H locs ls h hx6 hy1 hl hC hS
  unfold fn_X7_field_B115 at h
  obtain ⟨r1, er1, h⟩ := Option.bind_eq_some_iff.mp h
  refine va_callv (va_runV (As := [.int y0]) (rest := []) ⟨hx, hb, hml, hown, hts⟩ (c_X1_addSubfield l D κ b σ y1 y0 _ hy1 er1) (cwV 1 hts (gwV wt_456 wt_371 wt_372 wt_7 wt_373) rfl rfl rfl (by decide +kernel) ⟨Nat.le_of_ble_eq_true rfl, Nat.le_of_ble_eq_true rfl⟩) (CW_preV hK hC (sg_gField hy1) rfl) rfl rfl hl.1 rfl (lv_room (Nat.le_of_ble_eq_true rfl)) dX7_field_115 ⟨Nat.zero_le _, Nat.zero_le _⟩) hS (fun _ _ h => h) (fun _ h => h) (fun u t H locs ht _ hp hB _ _ hS => ?_)
  have hC : CW D κ b r1 H := CW_b hB ht hp
  refine lv_aload hx hb dX7_field_118 (lv_at hl 0 rfl) ?_
  refine va_getN (D := D) (ci := 0) (v := .int (r1.1 x6 2)) (C := RX0) (T := TX0) (N := 3) hx hb hts (wqs inW_X0) hown hK.1 hC.1 (x6 - b) (sg_gCard hx6) rfl 2 (by decide) (nf_29 hK) (fun _ h9 => h9) rfl dX7_field_120 ?_
  refine lv_iconst (v := 1) hx hb dX7_field_123 (by decide) ?_
  refine lv_isub hx hb dX7_field_124 ?_
  exact hret _ _ _ _ _ _ h hC hS dX7_field_125
def fn_X7_field_B102 (b : Nat) (σ : Sg) (x5 : Int32) (x6 : Nat) (x7 : Nat) : Option (Int32 × Sg) :=
  (if x5 = 0 then
  fn_X7_field_B115 b σ x6 97 x7
  else fn_X7_field_B115 b σ x6 0 x7)
set_option maxHeartbeats 4000000 in
set_option maxRecDepth 100000 in
theorem w_X7_field_B102 {p : Program} {l : Launch} {e : Env} {s : State} {m : MethodId} {args : Array Value} {below : List Frame} {meth : Method} {c : Code} {Q : State → Prop} {D : va_G} {κ : Nat → ClassId} {b : Nat} {H0 : Heap} {rr : Int32 × Sg} (hZ : sg_Z p c s m args D κ cX7_field 8 RX7 wsX7_field) (hret : ∀ (v : Int32) (u : Sg) (H : Heap) (locs : List Loc) (pc : Nat) (ls : Array Slot), some (v, u) = some rr → CW D κ b u H → va_S (sg_A b 892) H0 H locs → decode cX7_field pc = .ok (.ireturn, 1) → W p l e rm_X7_field s m args below meth c H locs 0 0 Q (F0 m pc ls [.int v])) : ∀ {σ : Sg} {x5 : Int32} {x6 : Nat} {x7 : Nat} {H : Heap} {locs : List Loc} {ls : Array Slot}, fn_X7_field_B102 b σ x5 x6 x7 = some rr → is_Card b x6 → is_Fld b x7 → lv_has ls 8 [(5, .int x5), (6, .ref x6), (7, .ref x7)] → CW D κ b σ H → va_S (sg_A b 892) H0 H locs → W p l e rm_X7_field s m args below meth c H locs 0 0 Q (F0 m 102 ls []) := by
  obtain ⟨hx, hb, hml, hown, hts, hK⟩ := hZ
  intro σ x5 x6 x7 H locs ls h hx6 hx7 hl hC hS
  unfold fn_X7_field_B102 at h
  refine lv_aload hx hb dX7_field_102 (lv_at hl 2 rfl) ?_
  refine lv_iload hx hb dX7_field_104 (lv_at hl 0 rfl) ?_
  refine lv_if_eq (tgt := 113) hx hb dX7_field_106 (by decide) (fun hc => ?_) (fun hc => ?_)
  · replace h := (if_pos hc).symm.trans h
    refine lv_bipush (v := 97) hx hb dX7_field_113 (by decide) ?_
    exact w_X7_field_B115 ⟨hx, hb, hml, hown, hts, hK⟩ hret  h hx6 hx7 (lv_sub hl [1] rfl) hC hS
  · replace h := (if_neg hc).symm.trans h
    refine lv_iconst (v := 0) hx hb dX7_field_109 (by decide) ?_
    refine lv_goto (tgt := 115) hx hb dX7_field_110 (by decide) ?_
    exact w_X7_field_B115 ⟨hx, hb, hml, hown, hts, hK⟩ hret  h hx6 hx7 (lv_sub hl [1] rfl) hC hS
def fn_X7_field_B57 (b : Nat) (σ : Sg) (x1 : Int32) (x2 : Int32) (x3 : Int32) (x4 : Int32) (x5 : Int32) : Option (Int32 × Sg) :=
  (if sg_ib x1 6 then
  (sg_lt ((b + 10 + 147 * sg_x x1) : Nat) fun a2 =>
  ((fn_X0_isFull b σ a2).bind fun r3 =>
  (if r3 = 0 then
  ((fn_X0_addField b σ a2 x2).bind fun r4 =>
  (if x5 = 0 then
  (if sg_ic x3 then
  (sg_lt (sg_w r4.2 r4.1 3 x3) fun σ6 =>
  (if sg_ic x4 then
  (sg_lt (sg_w σ6 r4.1 4 x4) fun σ7 =>
  fn_X7_field_B102 b σ7 x5 a2 r4.1)
  else none))
  else none)
  else fn_X7_field_B102 b r4.2 x5 a2 r4.1))
  else some ((-2), σ))))
  else none)
set_option maxHeartbeats 4000000 in
set_option maxRecDepth 100000 in
theorem w_X7_field_B57 {p : Program} {l : Launch} {e : Env} {s : State} {m : MethodId} {args : Array Value} {below : List Frame} {meth : Method} {c : Code} {Q : State → Prop} {D : va_G} {κ : Nat → ClassId} {b : Nat} {H0 : Heap} {rr : Int32 × Sg} (hZ : sg_Z p c s m args D κ cX7_field 8 RX7 wsX7_field) (hret : ∀ (v : Int32) (u : Sg) (H : Heap) (locs : List Loc) (pc : Nat) (ls : Array Slot), some (v, u) = some rr → CW D κ b u H → va_S (sg_A b 892) H0 H locs → decode cX7_field pc = .ok (.ireturn, 1) → W p l e rm_X7_field s m args below meth c H locs 0 0 Q (F0 m pc ls [.int v])) : ∀ {σ : Sg} {x1 : Int32} {x2 : Int32} {x3 : Int32} {x4 : Int32} {x5 : Int32} {H : Heap} {locs : List Loc} {ls : Array Slot}, fn_X7_field_B57 b σ x1 x2 x3 x4 x5 = some rr → lv_has ls 8 [(0, .ref b), (1, .int x1), (2, .int x2), (3, .int x3), (4, .int x4), (5, .int x5)] → CW D κ b σ H → va_S (sg_A b 892) H0 H locs → W p l e rm_X7_field s m args below meth c H locs 0 0 Q (F0 m 57 ls []) := by
  obtain ⟨hx, hb, hml, hown, hts, hK⟩ := hZ
  intro σ x1 x2 x3 x4 x5 H locs ls h hl hC hS
  unfold fn_X7_field_B57 at h
  refine lv_aload_n hx hb dX7_field_57 rfl (lv_at hl 0 rfl) ?_
  refine va_get (D := D) (ci := 7) (v := .ref (b + 5)) (C := RX7) (T := TX7) (N := 6) hx hb hts (wqs inW_X7) hown hK.1 hC.1 (b - b) sg_gShelf rfl 2 (by decide) (hts _ (wq wt_194)) (fun _ h9 => h9) rfl dX7_field_58 ?_
  refine lv_iload_n hx hb dX7_field_61 rfl (lv_at hl 1 rfl) ?_
  obtain ⟨hg, h⟩ := sg_gd h
  refine va_aldq (C := "RecordShelf$Card") hx hb hK.1 hC.1 ((b + 5) - b) 2 sg_gcards rfl (sg_in hg) dX7_field_62 ?_
  have hv1 := sg_vCard (b := b) hg
  refine W.eq (g2 := F0 m 63 ls [.ref (b + 10 + 147 * sg_x x1)]) rfl ?_
  obtain ⟨a2, ea2, h⟩ := sg_lte h
  have ha2 := ea2 ▸ hv1
  refine sg_topr ea2 ?_
  refine lv_astore (lv' := [(6, .ref a2), (0, .ref b), (1, .int x1), (2, .int x2), (3, .int x3), (4, .int x4), (5, .int x5)]) hx hb dX7_field_63 hl (by decide) rfl (fun ls hl => ?_)
  refine lv_aload hx hb dX7_field_65 (lv_at hl 0 rfl) ?_
  obtain ⟨r3, er3, h⟩ := Option.bind_eq_some_iff.mp h
  refine va_calli (va_runV (As := []) (rest := []) ⟨hx, hb, hml, hown, hts⟩ (c_X0_isFull l D κ b σ a2 _ ha2 er3) (cwV 0 hts (gwV wt_451 wt_452 wt_453 wt_6 wt_454) rfl rfl rfl (by decide +kernel) ⟨Nat.le_of_ble_eq_true rfl, Nat.le_of_ble_eq_true rfl⟩) (CW_preV hK hC (sg_gCard ha2) rfl) rfl rfl hl.1 rfl (lv_room (Nat.le_of_ble_eq_true rfl)) dX7_field_67 ⟨Nat.zero_le _, Nat.zero_le _⟩) hS (fun _ _ h => h) (fun _ h => h) (fun r u t H locs ht _ hp hB _ _ hS => ?_)
  refine sg_topi hp.1 ?_
  have hC : CW D κ b σ H := CW_b hB ht hp.2
  refine lv_if_eq (tgt := 76) hx hb dX7_field_70 (by decide) (fun hc => ?_) (fun hc => ?_)
  · replace h := (if_pos hc).symm.trans h
    refine lv_aload hx hb dX7_field_76 (lv_at hl 0 rfl) ?_
    refine lv_iload_n hx hb dX7_field_78 rfl (lv_at hl 3 rfl) ?_
    obtain ⟨r4, er4, h⟩ := Option.bind_eq_some_iff.mp h
    refine va_callr (va_runV (As := [.int x2]) (rest := []) ⟨hx, hb, hml, hown, hts⟩ (c_X0_addField l D κ b σ a2 x2 _ ha2 er4) (cwV 1 hts (gwV wt_455 wt_347 wt_348 wt_6 wt_349) rfl rfl rfl (by decide +kernel) ⟨Nat.le_of_ble_eq_true rfl, Nat.le_of_ble_eq_true rfl⟩) (CW_preV hK hC (sg_gCard ha2) rfl) rfl rfl hl.1 rfl (lv_room (Nat.le_of_ble_eq_true rfl)) dX7_field_79 ⟨Nat.zero_le _, Nat.zero_le _⟩) hS (fun _ _ h => h) (fun _ h => h) (fun u ra t H locs ht _ _ hB _ _ hS => ?_)
    obtain ⟨hp1, hp2, hv5, hB⟩ := hB
    refine sg_topr hp1 ?_
    have hC : CW D κ b r4.2 H := CW_b hB ht hp2
    refine lv_astore (lv' := [(7, .ref r4.1), (6, .ref a2), (0, .ref b), (1, .int x1), (2, .int x2), (3, .int x3), (4, .int x4), (5, .int x5)]) hx hb dX7_field_82 hl (by decide) rfl (fun ls hl => ?_)
    refine lv_iload hx hb dX7_field_84 (lv_at hl 7 rfl) ?_
    refine lv_if_ne (tgt := 102) hx hb dX7_field_86 (by decide) (fun hc => ?_) (fun hc => ?_)
    · replace h := (if_neg hc).symm.trans h
      exact w_X7_field_B102 ⟨hx, hb, hml, hown, hts, hK⟩ hret  h ha2 hv5 (lv_sub hl [7, 1, 0] rfl) hC hS
    · replace h := (if_pos hc).symm.trans h
      refine lv_aload hx hb dX7_field_89 (lv_at hl 0 rfl) ?_
      refine lv_iload_n hx hb dX7_field_91 rfl (lv_at hl 5 rfl) ?_
      obtain ⟨hg, h⟩ := sg_gd h
      refine va_putN (D := D) (ci := 1) (v := .int x3) (ty := .char) (C := RX1) (T := TX1) (N := 5) hx hb hts (wqs inW_X1) tyX1 tyX1_ok nmX1 hown hK.1 hC.1 sg_D hS (r4.1 - b) (sg_gField hv5) rfl 3 (by decide) (nf_21 hK) (fun _ h9 => h9) rfl (by decide +kernel) (sg_cn hg) (sg_cf hg) (Nat.le_of_ble_eq_true rfl) dX7_field_92 (fun H locs hP _ hS => ?_)
      obtain ⟨σ6, eσ6, h⟩ := sg_lte h
      have hC : CW D κ b σ6 H := eσ6 ▸ CW_put (k := 3) (v := x3) hC (sg_aField hv5) (sg_yField hv5 _ _) hP
      refine lv_aload hx hb dX7_field_95 (lv_at hl 0 rfl) ?_
      refine lv_iload hx hb dX7_field_97 (lv_at hl 6 rfl) ?_
      obtain ⟨hg, h⟩ := sg_gd h
      refine va_putN (D := D) (ci := 1) (v := .int x4) (ty := .char) (C := RX1) (T := TX1) (N := 5) hx hb hts (wqs inW_X1) tyX1 tyX1_ok nmX1 hown hK.1 hC.1 sg_D hS (r4.1 - b) (sg_gField hv5) rfl 4 (by decide) (nf_23 hK) (fun _ h9 => h9) rfl (by decide +kernel) (sg_cn hg) (sg_cf hg) (Nat.le_of_ble_eq_true rfl) dX7_field_99 (fun H locs hP _ hS => ?_)
      obtain ⟨σ7, eσ7, h⟩ := sg_lte h
      have hC : CW D κ b σ7 H := eσ7 ▸ CW_put (k := 4) (v := x4) hC (sg_aField hv5) (sg_yField hv5 _ _) hP
      exact w_X7_field_B102 ⟨hx, hb, hml, hown, hts, hK⟩ hret  h ha2 hv5 (lv_sub hl [7, 1, 0] rfl) hC hS
  · replace h := (if_neg hc).symm.trans h
    refine lv_bipush (v := (-2)) hx hb dX7_field_73 (by decide) ?_
    exact hret _ _ _ _ _ _ h hC hS dX7_field_75
def fn_X7_field_B33 (b : Nat) (σ : Sg) (x1 : Int32) (x2 : Int32) (x3 : Int32) (x4 : Int32) (y0 : Int32) : Option (Int32 × Sg) :=
  (if y0 = 0 then
  ((fn_X7_isIndicator x3).bind fun r1 =>
  (if r1 = 0 then
  some ((-1), σ)
  else ((fn_X7_isIndicator x4).bind fun r2 =>
  (if r2 = 0 then
  some ((-1), σ)
  else fn_X7_field_B57 b σ x1 x2 x3 x4 y0))))
  else fn_X7_field_B57 b σ x1 x2 x3 x4 y0)
set_option maxHeartbeats 4000000 in
set_option maxRecDepth 100000 in
theorem w_X7_field_B33 {p : Program} {l : Launch} {e : Env} {s : State} {m : MethodId} {args : Array Value} {below : List Frame} {meth : Method} {c : Code} {Q : State → Prop} {D : va_G} {κ : Nat → ClassId} {b : Nat} {H0 : Heap} {rr : Int32 × Sg} (hZ : sg_Z p c s m args D κ cX7_field 8 RX7 wsX7_field) (hret : ∀ (v : Int32) (u : Sg) (H : Heap) (locs : List Loc) (pc : Nat) (ls : Array Slot), some (v, u) = some rr → CW D κ b u H → va_S (sg_A b 892) H0 H locs → decode cX7_field pc = .ok (.ireturn, 1) → W p l e rm_X7_field s m args below meth c H locs 0 0 Q (F0 m pc ls [.int v])) : ∀ {σ : Sg} {x1 : Int32} {x2 : Int32} {x3 : Int32} {x4 : Int32} {y0 : Int32} {H : Heap} {locs : List Loc} {ls : Array Slot}, fn_X7_field_B33 b σ x1 x2 x3 x4 y0 = some rr → lv_has ls 8 [(0, .ref b), (1, .int x1), (2, .int x2), (3, .int x3), (4, .int x4)] → CW D κ b σ H → va_S (sg_A b 892) H0 H locs → W p l e rm_X7_field s m args below meth c H locs 0 0 Q (F0 m 33 ls [.int y0]) := by
  obtain ⟨hx, hb, hml, hown, hts, hK⟩ := hZ
  intro σ x1 x2 x3 x4 y0 H locs ls h hl hC hS
  unfold fn_X7_field_B33 at h
  refine lv_istore (lv' := [(5, .int y0), (0, .ref b), (1, .int x1), (2, .int x2), (3, .int x3), (4, .int x4)]) hx hb dX7_field_33 hl (by decide) rfl (fun ls hl => ?_)
  refine lv_iload hx hb dX7_field_35 (lv_at hl 0 rfl) ?_
  refine lv_if_ne (tgt := 57) hx hb dX7_field_37 (by decide) (fun hc => ?_) (fun hc => ?_)
  · replace h := (if_neg hc).symm.trans h
    exact w_X7_field_B57 ⟨hx, hb, hml, hown, hts, hK⟩ hret  h (lv_sub hl [1, 2, 3, 4, 5, 0] rfl) hC hS
  · replace h := (if_pos hc).symm.trans h
    refine lv_iload_n hx hb dX7_field_40 rfl (lv_at hl 4 rfl) ?_
    obtain ⟨r1, er1, h⟩ := Option.bind_eq_some_iff.mp h
    refine va_calli (va_runS (As := [.int x3]) (rest := []) ⟨hx, hb, hml, hown, hts⟩ (c_X7_isIndicator l D κ b σ x3 _ er1) (va_cwS 1 hts (gwS wt_450 wt_419 wt_1 wt_420) rfl rfl rfl (by decide +kernel) ⟨Nat.le_of_ble_eq_true rfl, Nat.le_of_ble_eq_true rfl⟩) (CW_preS hK hC) rfl rfl hl.1 rfl (lv_room (Nat.le_of_ble_eq_true rfl)) dX7_field_41 ⟨Nat.zero_le _, Nat.zero_le _⟩) hS (fun _ _ h => h) (fun _ h => h) (fun r u t H locs ht _ hp hB _ _ hS => ?_)
    refine sg_topi hp.1 ?_
    have hC : CW D κ b σ H := CW_b hB ht hp.2
    refine lv_if_eq (tgt := 55) hx hb dX7_field_44 (by decide) (fun hc => ?_) (fun hc => ?_)
    · replace h := (if_pos hc).symm.trans h
      refine lv_iconst (v := (-1)) hx hb dX7_field_55 (by decide) ?_
      exact hret _ _ _ _ _ _ h hC hS dX7_field_56
    · replace h := (if_neg hc).symm.trans h
      refine lv_iload hx hb dX7_field_47 (lv_at hl 5 rfl) ?_
      obtain ⟨r2, er2, h⟩ := Option.bind_eq_some_iff.mp h
      refine va_calli (va_runS (As := [.int x4]) (rest := []) ⟨hx, hb, hml, hown, hts⟩ (c_X7_isIndicator l D κ b σ x4 _ er2) (va_cwS 1 hts (gwS wt_450 wt_419 wt_1 wt_420) rfl rfl rfl (by decide +kernel) ⟨Nat.le_of_ble_eq_true rfl, Nat.le_of_ble_eq_true rfl⟩) (CW_preS hK hC) rfl rfl hl.1 rfl (lv_room (Nat.le_of_ble_eq_true rfl)) dX7_field_49 ⟨Nat.zero_le _, Nat.zero_le _⟩) hS (fun _ _ h => h) (fun _ h => h) (fun r u t H locs ht _ hp hB _ _ hS => ?_)
      refine sg_topi hp.1 ?_
      have hC : CW D κ b σ H := CW_b hB ht hp.2
      refine lv_if_ne (tgt := 57) hx hb dX7_field_52 (by decide) (fun hc => ?_) (fun hc => ?_)
      · replace h := (if_neg hc).symm.trans h
        exact w_X7_field_B57 ⟨hx, hb, hml, hown, hts, hK⟩ hret  h (lv_sub hl [1, 2, 3, 4, 5, 0] rfl) hC hS
      · replace h := (if_pos hc).symm.trans h
        refine lv_iconst (v := (-1)) hx hb dX7_field_55 (by decide) ?_
        exact hret _ _ _ _ _ _ h hC hS dX7_field_56
def fn_X7_field (b : Nat) (σ : Sg) (x1 : Int32) (x2 : Int32) (x3 : Int32) (x4 : Int32) : Option (Int32 × Sg) :=
  ((fn_X7_hasCard b σ x1).bind fun r1 =>
  (if r1 = 0 then
  some ((-1), σ)
  else (if x2 < 1 then
  some ((-1), σ)
  else (if x2 ≤ 999 then
  (if (10 : Int32) ≤ x2 then
  fn_X7_field_B33 b σ x1 x2 x3 x4 0
  else fn_X7_field_B33 b σ x1 x2 x3 x4 1)
  else some ((-1), σ)))))
set_option maxHeartbeats 4000000 in
set_option maxRecDepth 100000 in
theorem w_X7_field_B0 {p : Program} {l : Launch} {e : Env} {s : State} {m : MethodId} {args : Array Value} {below : List Frame} {meth : Method} {c : Code} {Q : State → Prop} {D : va_G} {κ : Nat → ClassId} {b : Nat} {H0 : Heap} {rr : Int32 × Sg} (hZ : sg_Z p c s m args D κ cX7_field 8 RX7 wsX7_field) (hret : ∀ (v : Int32) (u : Sg) (H : Heap) (locs : List Loc) (pc : Nat) (ls : Array Slot), some (v, u) = some rr → CW D κ b u H → va_S (sg_A b 892) H0 H locs → decode cX7_field pc = .ok (.ireturn, 1) → W p l e rm_X7_field s m args below meth c H locs 0 0 Q (F0 m pc ls [.int v])) : ∀ {σ : Sg} {x1 : Int32} {x2 : Int32} {x3 : Int32} {x4 : Int32} {H : Heap} {locs : List Loc} {ls : Array Slot}, fn_X7_field b σ x1 x2 x3 x4 = some rr → lv_has ls 8 [(0, .ref b), (1, .int x1), (2, .int x2), (3, .int x3), (4, .int x4)] → CW D κ b σ H → va_S (sg_A b 892) H0 H locs → W p l e rm_X7_field s m args below meth c H locs 0 0 Q (F0 m 0 ls []) := by
  obtain ⟨hx, hb, hml, hown, hts, hK⟩ := hZ
  intro σ x1 x2 x3 x4 H locs ls h hl hC hS
  unfold fn_X7_field at h
  refine lv_aload_n hx hb dX7_field_0 rfl (lv_at hl 0 rfl) ?_
  refine lv_iload_n hx hb dX7_field_1 rfl (lv_at hl 1 rfl) ?_
  obtain ⟨r1, er1, h⟩ := Option.bind_eq_some_iff.mp h
  refine va_calli (va_runV (As := [.int x1]) (rest := []) ⟨hx, hb, hml, hown, hts⟩ (c_X7_hasCard l D κ b σ x1 _ er1) (cwV 1 hts (gwV wt_446 wt_448 wp_17 wt_1 wt_449) rfl rfl rfl (by decide +kernel) ⟨Nat.le_of_ble_eq_true rfl, Nat.le_of_ble_eq_true rfl⟩) (CW_preV hK hC sg_gShelf rfl) rfl rfl hl.1 rfl (lv_room (Nat.le_of_ble_eq_true rfl)) dX7_field_2 ⟨Nat.zero_le _, Nat.zero_le _⟩) hS (fun _ _ h => h) (fun _ h => h) (fun r u t H locs ht _ hp hB _ _ hS => ?_)
  refine sg_topi hp.1 ?_
  have hC : CW D κ b σ H := CW_b hB ht hp.2
  refine lv_if_eq (tgt := 20) hx hb dX7_field_5 (by decide) (fun hc => ?_) (fun hc => ?_)
  · replace h := (if_pos hc).symm.trans h
    refine lv_iconst (v := (-1)) hx hb dX7_field_20 (by decide) ?_
    exact hret _ _ _ _ _ _ h hC hS dX7_field_21
  · replace h := (if_neg hc).symm.trans h
    refine lv_iload_n hx hb dX7_field_8 rfl (lv_at hl 2 rfl) ?_
    refine lv_iconst (v := 1) hx hb dX7_field_9 (by decide) ?_
    refine lv_icmp_lt (tgt := 20) hx hb dX7_field_10 (by decide) (fun hc => ?_) (fun hc => ?_)
    · replace h := (if_pos hc).symm.trans h
      refine lv_iconst (v := (-1)) hx hb dX7_field_20 (by decide) ?_
      exact hret _ _ _ _ _ _ h hC hS dX7_field_21
    · replace h := (if_neg hc).symm.trans h
      refine lv_iload_n hx hb dX7_field_13 rfl (lv_at hl 2 rfl) ?_
      refine lv_sipush (v := 999) hx hb dX7_field_14 (by decide) ?_
      refine lv_icmp_le (tgt := 22) hx hb dX7_field_17 (by decide) (fun hc => ?_) (fun hc => ?_)
      · replace h := (if_pos hc).symm.trans h
        refine lv_iload_n hx hb dX7_field_22 rfl (lv_at hl 2 rfl) ?_
        refine lv_bipush (v := 10) hx hb dX7_field_23 (by decide) ?_
        refine lv_icmp_ge (tgt := 32) hx hb dX7_field_25 (by decide) (fun hc => ?_) (fun hc => ?_)
        · replace h := (if_pos hc).symm.trans h
          refine lv_iconst (v := 0) hx hb dX7_field_32 (by decide) ?_
          exact w_X7_field_B33 ⟨hx, hb, hml, hown, hts, hK⟩ hret  h (lv_sub hl [0, 1, 2, 3, 4] rfl) hC hS
        · replace h := (if_neg hc).symm.trans h
          refine lv_iconst (v := 1) hx hb dX7_field_28 (by decide) ?_
          refine lv_goto (tgt := 33) hx hb dX7_field_29 (by decide) ?_
          exact w_X7_field_B33 ⟨hx, hb, hml, hown, hts, hK⟩ hret  h (lv_sub hl [0, 1, 2, 3, 4] rfl) hC hS
      · replace h := (if_neg hc).symm.trans h
        refine lv_iconst (v := (-1)) hx hb dX7_field_20 (by decide) ?_
        exact hret _ _ _ _ _ _ h hC hS dX7_field_21
set_option maxHeartbeats 4000000 in
set_option maxRecDepth 100000 in
theorem c_X7_field (l : Launch) (D : va_G) (κ : Nat → ClassId) (b : Nat) (σ : Sg) (x1 : Int32) (x2 : Int32) (x3 : Int32) (x4 : Int32) (rr : Int32 × Sg)  (h : fn_X7_field b σ x1 x2 x3 x4 = some rr) : Met l yX7_field wsX7_field rm_X7_field (va_Pc [.ref b, .int x1, .int x2, .int x3, .int x4] (fun U => KK D κ U ∧ CW D κ b σ U.heap)) (va_Qi (fun (r : Int32) (u : Sg) => r = rr.1 ∧ u = rr.2) (fun u t => CW D κ b u t.heap) (sg_A b 892)) 0 0 (sg_A b 892) := by
  refine Met.ofW (cc := cX7_field) (maxL := 8) (ret := (some .int)) (by decide) rfl ?_
  intro p e s m args below meth c s₁ B hml hv
  obtain ⟨rfl, hK, hC⟩ := hv
  have hr := B.returns
  have hlocks := B.notSynchronized
  have hl := lv_entry ([.ref b, .int x1, .int x2, .int x3, .int x4]) (n := 8) (Nat.le_of_ble_eq_true rfl)
  rw [lg_entry_eq]
  generalize (lg_sl ([.ref b, .int x1, .int x2, .int x3, .int x4]) ++ List.replicate (8 - (lg_sl ([.ref b, .int x1, .int x2, .int x3, .int x4])).length) Slot.unset).toArray = ls at hl ⊢
  have hl : lv_has ls 8 [(0, .ref b), (1, .int x1), (2, .int x2), (3, .int x3), (4, .int x4)] := hl
  exact w_X7_field_B0 ⟨B.exec, B.bytes, hml, findClass_of_methodNamed B.named, atoms_spec (ws := wsX7_field) B.pre, hK⟩ (fun v u H locs pc ls hq hC hS hd => W.iret B.exec B.bytes hr (fun t ht hW => ⟨⟨v, _, rfl, ⟨congrArg Prod.fst (Option.some.inj hq), congrArg Prod.snd (Option.some.inj hq)⟩, CW_e ht hC⟩, hS.F ht⟩) hS.2.2 hd) h  hl hC va_S.rf

-- RecordShelf.hasField(II)Z
theorem dX7_hasField_0 : decode cX7_hasField 0 = .ok (.aload_n 0, 1) := by decide +kernel
theorem dX7_hasField_1 : decode cX7_hasField 1 = .ok (.iload_n 1, 1) := by decide +kernel
theorem dX7_hasField_2 : decode cX7_hasField 2 = .ok (.invokevirtual 88, 3) := by decide +kernel
theorem dX7_hasField_5 : decode cX7_hasField 5 = .ok (.ifCond .eq 24, 3) := by decide +kernel
theorem dX7_hasField_8 : decode cX7_hasField 8 = .ok (.iload_n 2, 1) := by decide +kernel
theorem dX7_hasField_9 : decode cX7_hasField 9 = .ok (.ifCond .lt 20, 3) := by decide +kernel
theorem dX7_hasField_12 : decode cX7_hasField 12 = .ok (.iload_n 2, 1) := by decide +kernel
theorem dX7_hasField_13 : decode cX7_hasField 13 = .ok (.aload_n 0, 1) := by decide +kernel
theorem dX7_hasField_14 : decode cX7_hasField 14 = .ok (.getfield 23, 3) := by decide +kernel
theorem dX7_hasField_17 : decode cX7_hasField 17 = .ok (.iload_n 1, 1) := by decide +kernel
theorem dX7_hasField_18 : decode cX7_hasField 18 = .ok (.aaload, 1) := by decide +kernel
theorem dX7_hasField_19 : decode cX7_hasField 19 = .ok (.getfield 114, 3) := by decide +kernel
theorem dX7_hasField_22 : decode cX7_hasField 22 = .ok (.if_icmp .ge 7, 3) := by decide +kernel
theorem dX7_hasField_25 : decode cX7_hasField 25 = .ok (.iconst 1, 1) := by decide +kernel
theorem dX7_hasField_26 : decode cX7_hasField 26 = .ok (.goto 4, 3) := by decide +kernel
theorem dX7_hasField_29 : decode cX7_hasField 29 = .ok (.iconst 0, 1) := by decide +kernel
theorem dX7_hasField_30 : decode cX7_hasField 30 = .ok (.ireturn, 1) := by decide +kernel
def rm_X7_hasField : Room := { frames := 1, cells := 0, slots := 0, locals := 21 }
def fn_X7_hasField (b : Nat) (σ : Sg) (x1 : Int32) (x2 : Int32) : Option (Int32) :=
  ((fn_X7_hasCard b σ x1).bind fun r1 =>
  (if r1 = 0 then
  some 0
  else (if x2 < 0 then
  some 0
  else (if sg_ib x1 6 then
  (if ((σ.1 (b + 10 + 147 * sg_x x1) 2) : Int32) ≤ x2 then
  some 0
  else some 1)
  else none))))
set_option maxHeartbeats 4000000 in
set_option maxRecDepth 100000 in
theorem w_X7_hasField_B0 {p : Program} {l : Launch} {e : Env} {s : State} {m : MethodId} {args : Array Value} {below : List Frame} {meth : Method} {c : Code} {Q : State → Prop} {D : va_G} {κ : Nat → ClassId} {b : Nat} {H0 : Heap} {rr : Int32} {σ : Sg} (hZ : sg_Z p c s m args D κ cX7_hasField 3 RX7 wsX7_hasField) (hret : ∀ (v : Int32) (H : Heap) (locs : List Loc) (pc : Nat) (ls : Array Slot), some v = some rr → narrow .boolean (.int v) = .int v → CW D κ b σ H → va_S (sg_A b 892) H0 H locs → decode cX7_hasField pc = .ok (.ireturn, 1) → W p l e rm_X7_hasField s m args below meth c H locs 0 0 Q (F0 m pc ls [.int v])) : ∀ {x1 : Int32} {x2 : Int32} {H : Heap} {locs : List Loc} {ls : Array Slot}, fn_X7_hasField b σ x1 x2 = some rr → lv_has ls 3 [(0, .ref b), (1, .int x1), (2, .int x2)] → CW D κ b σ H → va_S (sg_A b 892) H0 H locs → W p l e rm_X7_hasField s m args below meth c H locs 0 0 Q (F0 m 0 ls []) := by
  obtain ⟨hx, hb, hml, hown, hts, hK⟩ := hZ
  intro x1 x2 H locs ls h hl hC hS
  unfold fn_X7_hasField at h
  refine lv_aload_n hx hb dX7_hasField_0 rfl (lv_at hl 0 rfl) ?_
  refine lv_iload_n hx hb dX7_hasField_1 rfl (lv_at hl 1 rfl) ?_
  obtain ⟨r1, er1, h⟩ := Option.bind_eq_some_iff.mp h
  refine va_calli (va_runV (As := [.int x1]) (rest := []) ⟨hx, hb, hml, hown, hts⟩ (c_X7_hasCard l D κ b σ x1 _ er1) (cwV 1 hts (gwV wt_446 wt_448 wp_17 wt_1 wt_449) rfl rfl rfl (by decide +kernel) ⟨Nat.le_of_ble_eq_true rfl, Nat.le_of_ble_eq_true rfl⟩) (CW_preV hK hC sg_gShelf rfl) rfl rfl hl.1 rfl (lv_room (Nat.le_of_ble_eq_true rfl)) dX7_hasField_2 ⟨Nat.zero_le _, Nat.zero_le _⟩) hS (fun _ _ h => h) (fun _ h => h) (fun r u t H locs ht _ hp hB _ _ hS => ?_)
  refine sg_topi hp.1 ?_
  have hC : CW D κ b σ H := CW_b hB ht hp.2
  refine lv_if_eq (tgt := 29) hx hb dX7_hasField_5 (by decide) (fun hc => ?_) (fun hc => ?_)
  · replace h := (if_pos hc).symm.trans h
    refine lv_iconst (v := 0) hx hb dX7_hasField_29 (by decide) ?_
    exact hret _ _ _ _ _ h (by decide) hC hS dX7_hasField_30
  · replace h := (if_neg hc).symm.trans h
    refine lv_iload_n hx hb dX7_hasField_8 rfl (lv_at hl 2 rfl) ?_
    refine lv_if_lt (tgt := 29) hx hb dX7_hasField_9 (by decide) (fun hc => ?_) (fun hc => ?_)
    · replace h := (if_pos hc).symm.trans h
      refine lv_iconst (v := 0) hx hb dX7_hasField_29 (by decide) ?_
      exact hret _ _ _ _ _ h (by decide) hC hS dX7_hasField_30
    · replace h := (if_neg hc).symm.trans h
      refine lv_iload_n hx hb dX7_hasField_12 rfl (lv_at hl 2 rfl) ?_
      refine lv_aload_n hx hb dX7_hasField_13 rfl (lv_at hl 0 rfl) ?_
      refine va_get (D := D) (ci := 7) (v := .ref (b + 5)) (C := RX7) (T := TX7) (N := 6) hx hb hts (wqs inW_X7) hown hK.1 hC.1 (b - b) sg_gShelf rfl 2 (by decide) (hts _ (wq wt_194)) (fun _ h9 => h9) rfl dX7_hasField_14 ?_
      refine lv_iload_n hx hb dX7_hasField_17 rfl (lv_at hl 1 rfl) ?_
      obtain ⟨hg, h⟩ := sg_gd h
      refine va_aldq (C := "RecordShelf$Card") hx hb hK.1 hC.1 ((b + 5) - b) 2 sg_gcards rfl (sg_in hg) dX7_hasField_18 ?_
      have hv2 := sg_vCard (b := b) hg
      refine W.eq (g2 := F0 m 19 ls [.ref (b + 10 + 147 * sg_x x1), .int x2]) rfl ?_
      refine va_getN (D := D) (ci := 0) (v := .int (σ.1 (b + 10 + 147 * sg_x x1) 2)) (C := RX0) (T := TX0) (N := 3) hx hb hts (wqs inW_X0) hown hK.1 hC.1 ((b + 10 + 147 * sg_x x1) - b) (sg_gCard hv2) rfl 2 (by decide) (nf_29 hK) (fun _ h9 => h9) rfl dX7_hasField_19 ?_
      refine lv_icmp_ge (tgt := 29) hx hb dX7_hasField_22 (by decide) (fun hc => ?_) (fun hc => ?_)
      · replace h := (if_pos hc).symm.trans h
        refine lv_iconst (v := 0) hx hb dX7_hasField_29 (by decide) ?_
        exact hret _ _ _ _ _ h (by decide) hC hS dX7_hasField_30
      · replace h := (if_neg hc).symm.trans h
        refine lv_iconst (v := 1) hx hb dX7_hasField_25 (by decide) ?_
        refine lv_goto (tgt := 30) hx hb dX7_hasField_26 (by decide) ?_
        exact hret _ _ _ _ _ h (by decide) hC hS dX7_hasField_30
set_option maxHeartbeats 4000000 in
set_option maxRecDepth 100000 in
theorem c_X7_hasField (l : Launch) (D : va_G) (κ : Nat → ClassId) (b : Nat) (σ : Sg) (x1 : Int32) (x2 : Int32) (rr : Int32)  (h : fn_X7_hasField b σ x1 x2 = some rr) : Met l yX7_hasField wsX7_hasField rm_X7_hasField (va_Pc [.ref b, .int x1, .int x2] (fun U => KK D κ U ∧ CW D κ b σ U.heap)) (va_Qi (fun (r : Int32) (u : Sg) => r = rr ∧ u = σ) (fun u t => CW D κ b u t.heap) (sg_A b 892)) 0 0 (sg_A b 892) := by
  refine Met.ofW (cc := cX7_hasField) (maxL := 3) (ret := (some .boolean)) (by decide) rfl ?_
  intro p e s m args below meth c s₁ B hml hv
  obtain ⟨rfl, hK, hC⟩ := hv
  have hr := B.returns
  have hlocks := B.notSynchronized
  have hl := lv_entry ([.ref b, .int x1, .int x2]) (n := 3) (Nat.le_of_ble_eq_true rfl)
  rw [lg_entry_eq]
  generalize (lg_sl ([.ref b, .int x1, .int x2]) ++ List.replicate (3 - (lg_sl ([.ref b, .int x1, .int x2])).length) Slot.unset).toArray = ls at hl ⊢
  have hl : lv_has ls 3 [(0, .ref b), (1, .int x1), (2, .int x2)] := hl
  exact w_X7_hasField_B0 ⟨B.exec, B.bytes, hml, findClass_of_methodNamed B.named, atoms_spec (ws := wsX7_hasField) B.pre, hK⟩ (fun v H locs pc ls hq hbo hC hS hd => W.zret B.exec B.bytes hr hbo (fun t ht hW => ⟨⟨v, _, rfl, ⟨Option.some.inj hq, rfl⟩, CW_e ht hC⟩, hS.F ht⟩) hS.2.2 hd) h  hl hC va_S.rf

-- RecordShelf.subfield(IIC)I
theorem dX7_subfield_0 : decode cX7_subfield 0 = .ok (.aload_n 0, 1) := by decide +kernel
theorem dX7_subfield_1 : decode cX7_subfield 1 = .ok (.iload_n 1, 1) := by decide +kernel
theorem dX7_subfield_2 : decode cX7_subfield 2 = .ok (.iload_n 2, 1) := by decide +kernel
theorem dX7_subfield_3 : decode cX7_subfield 3 = .ok (.invokevirtual 117, 3) := by decide +kernel
theorem dX7_subfield_6 : decode cX7_subfield 6 = .ok (.ifCond .eq 10, 3) := by decide +kernel
theorem dX7_subfield_9 : decode cX7_subfield 9 = .ok (.iload_n 3, 1) := by decide +kernel
theorem dX7_subfield_10 : decode cX7_subfield 10 = .ok (.invokestatic 121, 3) := by decide +kernel
theorem dX7_subfield_13 : decode cX7_subfield 13 = .ok (.ifCond .ne 5, 3) := by decide +kernel
theorem dX7_subfield_16 : decode cX7_subfield 16 = .ok (.iconst (-1), 1) := by decide +kernel
theorem dX7_subfield_17 : decode cX7_subfield 17 = .ok (.ireturn, 1) := by decide +kernel
theorem dX7_subfield_18 : decode cX7_subfield 18 = .ok (.aload_n 0, 1) := by decide +kernel
theorem dX7_subfield_19 : decode cX7_subfield 19 = .ok (.getfield 23, 3) := by decide +kernel
theorem dX7_subfield_22 : decode cX7_subfield 22 = .ok (.iload_n 1, 1) := by decide +kernel
theorem dX7_subfield_23 : decode cX7_subfield 23 = .ok (.aaload, 1) := by decide +kernel
theorem dX7_subfield_24 : decode cX7_subfield 24 = .ok (.getfield 124, 3) := by decide +kernel
theorem dX7_subfield_27 : decode cX7_subfield 27 = .ok (.iload_n 2, 1) := by decide +kernel
theorem dX7_subfield_28 : decode cX7_subfield 28 = .ok (.aaload, 1) := by decide +kernel
theorem dX7_subfield_29 : decode cX7_subfield 29 = .ok (.astore 4, 2) := by decide +kernel
theorem dX7_subfield_31 : decode cX7_subfield 31 = .ok (.aload 4, 2) := by decide +kernel
theorem dX7_subfield_33 : decode cX7_subfield 33 = .ok (.invokevirtual 128, 3) := by decide +kernel
theorem dX7_subfield_36 : decode cX7_subfield 36 = .ok (.ifCond .eq 5, 3) := by decide +kernel
theorem dX7_subfield_39 : decode cX7_subfield 39 = .ok (.iconst (-1), 1) := by decide +kernel
theorem dX7_subfield_40 : decode cX7_subfield 40 = .ok (.ireturn, 1) := by decide +kernel
theorem dX7_subfield_41 : decode cX7_subfield 41 = .ok (.aload 4, 2) := by decide +kernel
theorem dX7_subfield_43 : decode cX7_subfield 43 = .ok (.invokevirtual 131, 3) := by decide +kernel
theorem dX7_subfield_46 : decode cX7_subfield 46 = .ok (.ifCond .eq 6, 3) := by decide +kernel
theorem dX7_subfield_49 : decode cX7_subfield 49 = .ok (.bipush (-2), 2) := by decide +kernel
theorem dX7_subfield_51 : decode cX7_subfield 51 = .ok (.ireturn, 1) := by decide +kernel
theorem dX7_subfield_52 : decode cX7_subfield 52 = .ok (.aload 4, 2) := by decide +kernel
theorem dX7_subfield_54 : decode cX7_subfield 54 = .ok (.iload_n 3, 1) := by decide +kernel
theorem dX7_subfield_55 : decode cX7_subfield 55 = .ok (.invokevirtual 111, 3) := by decide +kernel
theorem dX7_subfield_58 : decode cX7_subfield 58 = .ok (.aload 4, 2) := by decide +kernel
theorem dX7_subfield_60 : decode cX7_subfield 60 = .ok (.getfield 132, 3) := by decide +kernel
theorem dX7_subfield_63 : decode cX7_subfield 63 = .ok (.iconst 1, 1) := by decide +kernel
theorem dX7_subfield_64 : decode cX7_subfield 64 = .ok (.isub, 1) := by decide +kernel
theorem dX7_subfield_65 : decode cX7_subfield 65 = .ok (.ireturn, 1) := by decide +kernel
def rm_X7_subfield : Room := { frames := 3, cells := 0, slots := 0, locals := 62 }
def fn_X7_subfield (b : Nat) (σ : Sg) (x1 : Int32) (x2 : Int32) (x3 : Int32) : Option (Int32 × Sg) :=
  ((fn_X7_hasField b σ x1 x2).bind fun r1 =>
  (if r1 = 0 then
  some ((-1), σ)
  else ((fn_X7_isCode x3).bind fun r2 =>
  (if r2 = 0 then
  some ((-1), σ)
  else (if sg_ib x1 6 then
  (if sg_ib x2 8 then
  (sg_lt ((σ.2 ((b + 10 + 147 * sg_x x1) + 2) (sg_x x2)) : Nat) fun a5 =>
  ((fn_X1_isSimple b σ a5).bind fun r6 =>
  (if r6 = 0 then
  ((fn_X1_isFull b σ a5).bind fun r7 =>
  (if r7 = 0 then
  ((fn_X1_addSubfield b σ a5 x3).bind fun r8 =>
  some (((r8.1 a5 1) - 1), r8))
  else some ((-2), σ)))
  else some ((-1), σ))))
  else none)
  else none)))))
set_option maxHeartbeats 4000000 in
set_option maxRecDepth 100000 in
theorem w_X7_subfield_B0 {p : Program} {l : Launch} {e : Env} {s : State} {m : MethodId} {args : Array Value} {below : List Frame} {meth : Method} {c : Code} {Q : State → Prop} {D : va_G} {κ : Nat → ClassId} {b : Nat} {H0 : Heap} {rr : Int32 × Sg} (hZ : sg_Z p c s m args D κ cX7_subfield 5 RX7 wsX7_subfield) (hret : ∀ (v : Int32) (u : Sg) (H : Heap) (locs : List Loc) (pc : Nat) (ls : Array Slot), some (v, u) = some rr → CW D κ b u H → va_S (sg_A b 892) H0 H locs → decode cX7_subfield pc = .ok (.ireturn, 1) → W p l e rm_X7_subfield s m args below meth c H locs 0 0 Q (F0 m pc ls [.int v])) : ∀ {σ : Sg} {x1 : Int32} {x2 : Int32} {x3 : Int32} {H : Heap} {locs : List Loc} {ls : Array Slot}, fn_X7_subfield b σ x1 x2 x3 = some rr → lv_has ls 5 [(0, .ref b), (1, .int x1), (2, .int x2), (3, .int x3)] → CW D κ b σ H → va_S (sg_A b 892) H0 H locs → W p l e rm_X7_subfield s m args below meth c H locs 0 0 Q (F0 m 0 ls []) := by
  obtain ⟨hx, hb, hml, hown, hts, hK⟩ := hZ
  intro σ x1 x2 x3 H locs ls h hl hC hS
  unfold fn_X7_subfield at h
  refine lv_aload_n hx hb dX7_subfield_0 rfl (lv_at hl 0 rfl) ?_
  refine lv_iload_n hx hb dX7_subfield_1 rfl (lv_at hl 1 rfl) ?_
  refine lv_iload_n hx hb dX7_subfield_2 rfl (lv_at hl 2 rfl) ?_
  obtain ⟨r1, er1, h⟩ := Option.bind_eq_some_iff.mp h
  refine va_calli (va_runV (As := [.int x1, .int x2]) (rest := []) ⟨hx, hb, hml, hown, hts⟩ (c_X7_hasField l D κ b σ x1 x2 _ er1) (cwV 2 hts (gwV wt_461 wt_463 wp_18 wt_1 wt_464) rfl rfl rfl (by decide +kernel) ⟨Nat.le_of_ble_eq_true rfl, Nat.le_of_ble_eq_true rfl⟩) (CW_preV hK hC sg_gShelf rfl) rfl rfl hl.1 rfl (lv_room (Nat.le_of_ble_eq_true rfl)) dX7_subfield_3 ⟨Nat.zero_le _, Nat.zero_le _⟩) hS (fun _ _ h => h) (fun _ h => h) (fun r u t H locs ht _ hp hB _ _ hS => ?_)
  refine sg_topi hp.1 ?_
  have hC : CW D κ b σ H := CW_b hB ht hp.2
  refine lv_if_eq (tgt := 16) hx hb dX7_subfield_6 (by decide) (fun hc => ?_) (fun hc => ?_)
  · replace h := (if_pos hc).symm.trans h
    refine lv_iconst (v := (-1)) hx hb dX7_subfield_16 (by decide) ?_
    exact hret _ _ _ _ _ _ h hC hS dX7_subfield_17
  · replace h := (if_neg hc).symm.trans h
    refine lv_iload_n hx hb dX7_subfield_9 rfl (lv_at hl 3 rfl) ?_
    obtain ⟨r2, er2, h⟩ := Option.bind_eq_some_iff.mp h
    refine va_calli (va_runS (As := [.int x3]) (rest := []) ⟨hx, hb, hml, hown, hts⟩ (c_X7_isCode l D κ b σ x3 _ er2) (va_cwS 1 hts (gwS wt_465 wt_404 wt_1 wt_405) rfl rfl rfl (by decide +kernel) ⟨Nat.le_of_ble_eq_true rfl, Nat.le_of_ble_eq_true rfl⟩) (CW_preS hK hC) rfl rfl hl.1 rfl (lv_room (Nat.le_of_ble_eq_true rfl)) dX7_subfield_10 ⟨Nat.zero_le _, Nat.zero_le _⟩) hS (fun _ _ h => h) (fun _ h => h) (fun r u t H locs ht _ hp hB _ _ hS => ?_)
    refine sg_topi hp.1 ?_
    have hC : CW D κ b σ H := CW_b hB ht hp.2
    refine lv_if_ne (tgt := 18) hx hb dX7_subfield_13 (by decide) (fun hc => ?_) (fun hc => ?_)
    · replace h := (if_neg hc).symm.trans h
      refine lv_aload_n hx hb dX7_subfield_18 rfl (lv_at hl 0 rfl) ?_
      refine va_get (D := D) (ci := 7) (v := .ref (b + 5)) (C := RX7) (T := TX7) (N := 6) hx hb hts (wqs inW_X7) hown hK.1 hC.1 (b - b) sg_gShelf rfl 2 (by decide) (hts _ (wq wt_194)) (fun _ h9 => h9) rfl dX7_subfield_19 ?_
      refine lv_iload_n hx hb dX7_subfield_22 rfl (lv_at hl 1 rfl) ?_
      obtain ⟨hg, h⟩ := sg_gd h
      refine va_aldq (C := "RecordShelf$Card") hx hb hK.1 hC.1 ((b + 5) - b) 2 sg_gcards rfl (sg_in hg) dX7_subfield_23 ?_
      have hv3 := sg_vCard (b := b) hg
      refine W.eq (g2 := F0 m 24 ls [.ref (b + 10 + 147 * sg_x x1)]) rfl ?_
      refine va_getN (D := D) (ci := 0) (v := .ref ((b + 10 + 147 * sg_x x1) + 2)) (C := RX0) (T := TX0) (N := 3) hx hb hts (wqs inW_X0) hown hK.1 hC.1 ((b + 10 + 147 * sg_x x1) - b) (sg_gCard hv3) rfl 1 (by decide) (nf_27 hK) (fun _ h9 => h9) rfl dX7_subfield_24 ?_
      refine lv_iload_n hx hb dX7_subfield_27 rfl (lv_at hl 2 rfl) ?_
      obtain ⟨hg, h⟩ := sg_gd h
      refine va_aldq (C := "RecordShelf$Field") hx hb hK.1 hC.1 (((b + 10 + 147 * sg_x x1) + 2) - b) 3 (sg_gfields hv3) rfl (sg_in hg) dX7_subfield_28 ?_
      have hv4 := hC.2 _ hv3 _ hg.2
      refine W.eq (g2 := F0 m 29 ls [.ref (σ.2 ((b + 10 + 147 * sg_x x1) + 2) (sg_x x2))]) rfl ?_
      obtain ⟨a5, ea5, h⟩ := sg_lte h
      have ha5 := ea5 ▸ hv4
      refine sg_topr ea5 ?_
      refine lv_astore (lv' := [(4, .ref a5), (0, .ref b), (1, .int x1), (2, .int x2), (3, .int x3)]) hx hb dX7_subfield_29 hl (by decide) rfl (fun ls hl => ?_)
      refine lv_aload hx hb dX7_subfield_31 (lv_at hl 0 rfl) ?_
      obtain ⟨r6, er6, h⟩ := Option.bind_eq_some_iff.mp h
      refine va_calli (va_runV (As := []) (rest := []) ⟨hx, hb, hml, hown, hts⟩ (c_X1_isSimple l D κ b σ a5 _ ha5 er6) (cwV 0 hts (gwV wt_466 wt_355 wt_356 wt_7 wt_357) rfl rfl rfl (by decide +kernel) ⟨Nat.le_of_ble_eq_true rfl, Nat.le_of_ble_eq_true rfl⟩) (CW_preV hK hC (sg_gField ha5) rfl) rfl rfl hl.1 rfl (lv_room (Nat.le_of_ble_eq_true rfl)) dX7_subfield_33 ⟨Nat.zero_le _, Nat.zero_le _⟩) hS (fun _ _ h => h) (fun _ h => h) (fun r u t H locs ht _ hp hB _ _ hS => ?_)
      refine sg_topi hp.1 ?_
      have hC : CW D κ b σ H := CW_b hB ht hp.2
      refine lv_if_eq (tgt := 41) hx hb dX7_subfield_36 (by decide) (fun hc => ?_) (fun hc => ?_)
      · replace h := (if_pos hc).symm.trans h
        refine lv_aload hx hb dX7_subfield_41 (lv_at hl 0 rfl) ?_
        obtain ⟨r7, er7, h⟩ := Option.bind_eq_some_iff.mp h
        refine va_calli (va_runV (As := []) (rest := []) ⟨hx, hb, hml, hown, hts⟩ (c_X1_isFull l D κ b σ a5 _ ha5 er7) (cwV 0 hts (gwV wt_467 wt_375 wt_376 wt_7 wt_377) rfl rfl rfl (by decide +kernel) ⟨Nat.le_of_ble_eq_true rfl, Nat.le_of_ble_eq_true rfl⟩) (CW_preV hK hC (sg_gField ha5) rfl) rfl rfl hl.1 rfl (lv_room (Nat.le_of_ble_eq_true rfl)) dX7_subfield_43 ⟨Nat.zero_le _, Nat.zero_le _⟩) hS (fun _ _ h => h) (fun _ h => h) (fun r u t H locs ht _ hp hB _ _ hS => ?_)
        refine sg_topi hp.1 ?_
        have hC : CW D κ b σ H := CW_b hB ht hp.2
        refine lv_if_eq (tgt := 52) hx hb dX7_subfield_46 (by decide) (fun hc => ?_) (fun hc => ?_)
        · replace h := (if_pos hc).symm.trans h
          refine lv_aload hx hb dX7_subfield_52 (lv_at hl 0 rfl) ?_
          refine lv_iload_n hx hb dX7_subfield_54 rfl (lv_at hl 4 rfl) ?_
          obtain ⟨r8, er8, h⟩ := Option.bind_eq_some_iff.mp h
          refine va_callv (va_runV (As := [.int x3]) (rest := []) ⟨hx, hb, hml, hown, hts⟩ (c_X1_addSubfield l D κ b σ a5 x3 _ ha5 er8) (cwV 1 hts (gwV wt_456 wt_371 wt_372 wt_7 wt_373) rfl rfl rfl (by decide +kernel) ⟨Nat.le_of_ble_eq_true rfl, Nat.le_of_ble_eq_true rfl⟩) (CW_preV hK hC (sg_gField ha5) rfl) rfl rfl hl.1 rfl (lv_room (Nat.le_of_ble_eq_true rfl)) dX7_subfield_55 ⟨Nat.zero_le _, Nat.zero_le _⟩) hS (fun _ _ h => h) (fun _ h => h) (fun u t H locs ht _ hp hB _ _ hS => ?_)
          have hC : CW D κ b r8 H := CW_b hB ht hp
          refine lv_aload hx hb dX7_subfield_58 (lv_at hl 0 rfl) ?_
          refine va_getN (D := D) (ci := 1) (v := .int (r8.1 a5 1)) (C := RX1) (T := TX1) (N := 5) hx hb hts (wqs inW_X1) hown hK.1 hC.1 (a5 - b) (sg_gField ha5) rfl 1 (by decide) (nf_17 hK) (fun _ h9 => h9) rfl dX7_subfield_60 ?_
          refine lv_iconst (v := 1) hx hb dX7_subfield_63 (by decide) ?_
          refine lv_isub hx hb dX7_subfield_64 ?_
          exact hret _ _ _ _ _ _ h hC hS dX7_subfield_65
        · replace h := (if_neg hc).symm.trans h
          refine lv_bipush (v := (-2)) hx hb dX7_subfield_49 (by decide) ?_
          exact hret _ _ _ _ _ _ h hC hS dX7_subfield_51
      · replace h := (if_neg hc).symm.trans h
        refine lv_iconst (v := (-1)) hx hb dX7_subfield_39 (by decide) ?_
        exact hret _ _ _ _ _ _ h hC hS dX7_subfield_40
    · replace h := (if_pos hc).symm.trans h
      refine lv_iconst (v := (-1)) hx hb dX7_subfield_16 (by decide) ?_
      exact hret _ _ _ _ _ _ h hC hS dX7_subfield_17
set_option maxHeartbeats 4000000 in
set_option maxRecDepth 100000 in
theorem c_X7_subfield (l : Launch) (D : va_G) (κ : Nat → ClassId) (b : Nat) (σ : Sg) (x1 : Int32) (x2 : Int32) (x3 : Int32) (rr : Int32 × Sg)  (h : fn_X7_subfield b σ x1 x2 x3 = some rr) : Met l yX7_subfield wsX7_subfield rm_X7_subfield (va_Pc [.ref b, .int x1, .int x2, .int x3] (fun U => KK D κ U ∧ CW D κ b σ U.heap)) (va_Qi (fun (r : Int32) (u : Sg) => r = rr.1 ∧ u = rr.2) (fun u t => CW D κ b u t.heap) (sg_A b 892)) 0 0 (sg_A b 892) := by
  refine Met.ofW (cc := cX7_subfield) (maxL := 5) (ret := (some .int)) (by decide) rfl ?_
  intro p e s m args below meth c s₁ B hml hv
  obtain ⟨rfl, hK, hC⟩ := hv
  have hr := B.returns
  have hlocks := B.notSynchronized
  have hl := lv_entry ([.ref b, .int x1, .int x2, .int x3]) (n := 5) (Nat.le_of_ble_eq_true rfl)
  rw [lg_entry_eq]
  generalize (lg_sl ([.ref b, .int x1, .int x2, .int x3]) ++ List.replicate (5 - (lg_sl ([.ref b, .int x1, .int x2, .int x3])).length) Slot.unset).toArray = ls at hl ⊢
  have hl : lv_has ls 5 [(0, .ref b), (1, .int x1), (2, .int x2), (3, .int x3)] := hl
  exact w_X7_subfield_B0 ⟨B.exec, B.bytes, hml, findClass_of_methodNamed B.named, atoms_spec (ws := wsX7_subfield) B.pre, hK⟩ (fun v u H locs pc ls hq hC hS hd => W.iret B.exec B.bytes hr (fun t ht hW => ⟨⟨v, _, rfl, ⟨congrArg Prod.fst (Option.some.inj hq), congrArg Prod.snd (Option.some.inj hq)⟩, CW_e ht hC⟩, hS.F ht⟩) hS.2.2 hd) h  hl hC va_S.rf

-- RecordShelf.hasSubfield(III)Z
theorem dX7_hasSubfield_0 : decode cX7_hasSubfield 0 = .ok (.aload_n 0, 1) := by decide +kernel
theorem dX7_hasSubfield_1 : decode cX7_hasSubfield 1 = .ok (.iload_n 1, 1) := by decide +kernel
theorem dX7_hasSubfield_2 : decode cX7_hasSubfield 2 = .ok (.iload_n 2, 1) := by decide +kernel
theorem dX7_hasSubfield_3 : decode cX7_hasSubfield 3 = .ok (.invokevirtual 117, 3) := by decide +kernel
theorem dX7_hasSubfield_6 : decode cX7_hasSubfield 6 = .ok (.ifCond .eq 29, 3) := by decide +kernel
theorem dX7_hasSubfield_9 : decode cX7_hasSubfield 9 = .ok (.iload_n 3, 1) := by decide +kernel
theorem dX7_hasSubfield_10 : decode cX7_hasSubfield 10 = .ok (.ifCond .lt 25, 3) := by decide +kernel
theorem dX7_hasSubfield_13 : decode cX7_hasSubfield 13 = .ok (.iload_n 3, 1) := by decide +kernel
theorem dX7_hasSubfield_14 : decode cX7_hasSubfield 14 = .ok (.aload_n 0, 1) := by decide +kernel
theorem dX7_hasSubfield_15 : decode cX7_hasSubfield 15 = .ok (.getfield 23, 3) := by decide +kernel
theorem dX7_hasSubfield_18 : decode cX7_hasSubfield 18 = .ok (.iload_n 1, 1) := by decide +kernel
theorem dX7_hasSubfield_19 : decode cX7_hasSubfield 19 = .ok (.aaload, 1) := by decide +kernel
theorem dX7_hasSubfield_20 : decode cX7_hasSubfield 20 = .ok (.getfield 124, 3) := by decide +kernel
theorem dX7_hasSubfield_23 : decode cX7_hasSubfield 23 = .ok (.iload_n 2, 1) := by decide +kernel
theorem dX7_hasSubfield_24 : decode cX7_hasSubfield 24 = .ok (.aaload, 1) := by decide +kernel
theorem dX7_hasSubfield_25 : decode cX7_hasSubfield 25 = .ok (.getfield 132, 3) := by decide +kernel
theorem dX7_hasSubfield_28 : decode cX7_hasSubfield 28 = .ok (.if_icmp .ge 7, 3) := by decide +kernel
theorem dX7_hasSubfield_31 : decode cX7_hasSubfield 31 = .ok (.iconst 1, 1) := by decide +kernel
theorem dX7_hasSubfield_32 : decode cX7_hasSubfield 32 = .ok (.goto 4, 3) := by decide +kernel
theorem dX7_hasSubfield_35 : decode cX7_hasSubfield 35 = .ok (.iconst 0, 1) := by decide +kernel
theorem dX7_hasSubfield_36 : decode cX7_hasSubfield 36 = .ok (.ireturn, 1) := by decide +kernel
def rm_X7_hasSubfield : Room := { frames := 2, cells := 0, slots := 0, locals := 43 }
def fn_X7_hasSubfield (b : Nat) (σ : Sg) (x1 : Int32) (x2 : Int32) (x3 : Int32) : Option (Int32) :=
  ((fn_X7_hasField b σ x1 x2).bind fun r1 =>
  (if r1 = 0 then
  some 0
  else (if x3 < 0 then
  some 0
  else (if sg_ib x1 6 then
  (if sg_ib x2 8 then
  (if ((σ.1 (σ.2 ((b + 10 + 147 * sg_x x1) + 2) (sg_x x2)) 1) : Int32) ≤ x3 then
  some 0
  else some 1)
  else none)
  else none))))
set_option maxHeartbeats 4000000 in
set_option maxRecDepth 100000 in
theorem w_X7_hasSubfield_B0 {p : Program} {l : Launch} {e : Env} {s : State} {m : MethodId} {args : Array Value} {below : List Frame} {meth : Method} {c : Code} {Q : State → Prop} {D : va_G} {κ : Nat → ClassId} {b : Nat} {H0 : Heap} {rr : Int32} {σ : Sg} (hZ : sg_Z p c s m args D κ cX7_hasSubfield 4 RX7 wsX7_hasSubfield) (hret : ∀ (v : Int32) (H : Heap) (locs : List Loc) (pc : Nat) (ls : Array Slot), some v = some rr → narrow .boolean (.int v) = .int v → CW D κ b σ H → va_S (sg_A b 892) H0 H locs → decode cX7_hasSubfield pc = .ok (.ireturn, 1) → W p l e rm_X7_hasSubfield s m args below meth c H locs 0 0 Q (F0 m pc ls [.int v])) : ∀ {x1 : Int32} {x2 : Int32} {x3 : Int32} {H : Heap} {locs : List Loc} {ls : Array Slot}, fn_X7_hasSubfield b σ x1 x2 x3 = some rr → lv_has ls 4 [(0, .ref b), (1, .int x1), (2, .int x2), (3, .int x3)] → CW D κ b σ H → va_S (sg_A b 892) H0 H locs → W p l e rm_X7_hasSubfield s m args below meth c H locs 0 0 Q (F0 m 0 ls []) := by
  obtain ⟨hx, hb, hml, hown, hts, hK⟩ := hZ
  intro x1 x2 x3 H locs ls h hl hC hS
  unfold fn_X7_hasSubfield at h
  refine lv_aload_n hx hb dX7_hasSubfield_0 rfl (lv_at hl 0 rfl) ?_
  refine lv_iload_n hx hb dX7_hasSubfield_1 rfl (lv_at hl 1 rfl) ?_
  refine lv_iload_n hx hb dX7_hasSubfield_2 rfl (lv_at hl 2 rfl) ?_
  obtain ⟨r1, er1, h⟩ := Option.bind_eq_some_iff.mp h
  refine va_calli (va_runV (As := [.int x1, .int x2]) (rest := []) ⟨hx, hb, hml, hown, hts⟩ (c_X7_hasField l D κ b σ x1 x2 _ er1) (cwV 2 hts (gwV wt_461 wt_463 wp_18 wt_1 wt_464) rfl rfl rfl (by decide +kernel) ⟨Nat.le_of_ble_eq_true rfl, Nat.le_of_ble_eq_true rfl⟩) (CW_preV hK hC sg_gShelf rfl) rfl rfl hl.1 rfl (lv_room (Nat.le_of_ble_eq_true rfl)) dX7_hasSubfield_3 ⟨Nat.zero_le _, Nat.zero_le _⟩) hS (fun _ _ h => h) (fun _ h => h) (fun r u t H locs ht _ hp hB _ _ hS => ?_)
  refine sg_topi hp.1 ?_
  have hC : CW D κ b σ H := CW_b hB ht hp.2
  refine lv_if_eq (tgt := 35) hx hb dX7_hasSubfield_6 (by decide) (fun hc => ?_) (fun hc => ?_)
  · replace h := (if_pos hc).symm.trans h
    refine lv_iconst (v := 0) hx hb dX7_hasSubfield_35 (by decide) ?_
    exact hret _ _ _ _ _ h (by decide) hC hS dX7_hasSubfield_36
  · replace h := (if_neg hc).symm.trans h
    refine lv_iload_n hx hb dX7_hasSubfield_9 rfl (lv_at hl 3 rfl) ?_
    refine lv_if_lt (tgt := 35) hx hb dX7_hasSubfield_10 (by decide) (fun hc => ?_) (fun hc => ?_)
    · replace h := (if_pos hc).symm.trans h
      refine lv_iconst (v := 0) hx hb dX7_hasSubfield_35 (by decide) ?_
      exact hret _ _ _ _ _ h (by decide) hC hS dX7_hasSubfield_36
    · replace h := (if_neg hc).symm.trans h
      refine lv_iload_n hx hb dX7_hasSubfield_13 rfl (lv_at hl 3 rfl) ?_
      refine lv_aload_n hx hb dX7_hasSubfield_14 rfl (lv_at hl 0 rfl) ?_
      refine va_get (D := D) (ci := 7) (v := .ref (b + 5)) (C := RX7) (T := TX7) (N := 6) hx hb hts (wqs inW_X7) hown hK.1 hC.1 (b - b) sg_gShelf rfl 2 (by decide) (hts _ (wq wt_194)) (fun _ h9 => h9) rfl dX7_hasSubfield_15 ?_
      refine lv_iload_n hx hb dX7_hasSubfield_18 rfl (lv_at hl 1 rfl) ?_
      obtain ⟨hg, h⟩ := sg_gd h
      refine va_aldq (C := "RecordShelf$Card") hx hb hK.1 hC.1 ((b + 5) - b) 2 sg_gcards rfl (sg_in hg) dX7_hasSubfield_19 ?_
      have hv2 := sg_vCard (b := b) hg
      refine W.eq (g2 := F0 m 20 ls [.ref (b + 10 + 147 * sg_x x1), .int x3]) rfl ?_
      refine va_getN (D := D) (ci := 0) (v := .ref ((b + 10 + 147 * sg_x x1) + 2)) (C := RX0) (T := TX0) (N := 3) hx hb hts (wqs inW_X0) hown hK.1 hC.1 ((b + 10 + 147 * sg_x x1) - b) (sg_gCard hv2) rfl 1 (by decide) (nf_27 hK) (fun _ h9 => h9) rfl dX7_hasSubfield_20 ?_
      refine lv_iload_n hx hb dX7_hasSubfield_23 rfl (lv_at hl 2 rfl) ?_
      obtain ⟨hg, h⟩ := sg_gd h
      refine va_aldq (C := "RecordShelf$Field") hx hb hK.1 hC.1 (((b + 10 + 147 * sg_x x1) + 2) - b) 3 (sg_gfields hv2) rfl (sg_in hg) dX7_hasSubfield_24 ?_
      have hv3 := hC.2 _ hv2 _ hg.2
      refine W.eq (g2 := F0 m 25 ls [.ref (σ.2 ((b + 10 + 147 * sg_x x1) + 2) (sg_x x2)), .int x3]) rfl ?_
      refine va_getN (D := D) (ci := 1) (v := .int (σ.1 (σ.2 ((b + 10 + 147 * sg_x x1) + 2) (sg_x x2)) 1)) (C := RX1) (T := TX1) (N := 5) hx hb hts (wqs inW_X1) hown hK.1 hC.1 ((σ.2 ((b + 10 + 147 * sg_x x1) + 2) (sg_x x2)) - b) (sg_gField hv3) rfl 1 (by decide) (nf_17 hK) (fun _ h9 => h9) rfl dX7_hasSubfield_25 ?_
      refine lv_icmp_ge (tgt := 35) hx hb dX7_hasSubfield_28 (by decide) (fun hc => ?_) (fun hc => ?_)
      · replace h := (if_pos hc).symm.trans h
        refine lv_iconst (v := 0) hx hb dX7_hasSubfield_35 (by decide) ?_
        exact hret _ _ _ _ _ h (by decide) hC hS dX7_hasSubfield_36
      · replace h := (if_neg hc).symm.trans h
        refine lv_iconst (v := 1) hx hb dX7_hasSubfield_31 (by decide) ?_
        refine lv_goto (tgt := 36) hx hb dX7_hasSubfield_32 (by decide) ?_
        exact hret _ _ _ _ _ h (by decide) hC hS dX7_hasSubfield_36
set_option maxHeartbeats 4000000 in
set_option maxRecDepth 100000 in
theorem c_X7_hasSubfield (l : Launch) (D : va_G) (κ : Nat → ClassId) (b : Nat) (σ : Sg) (x1 : Int32) (x2 : Int32) (x3 : Int32) (rr : Int32)  (h : fn_X7_hasSubfield b σ x1 x2 x3 = some rr) : Met l yX7_hasSubfield wsX7_hasSubfield rm_X7_hasSubfield (va_Pc [.ref b, .int x1, .int x2, .int x3] (fun U => KK D κ U ∧ CW D κ b σ U.heap)) (va_Qi (fun (r : Int32) (u : Sg) => r = rr ∧ u = σ) (fun u t => CW D κ b u t.heap) (sg_A b 892)) 0 0 (sg_A b 892) := by
  refine Met.ofW (cc := cX7_hasSubfield) (maxL := 4) (ret := (some .boolean)) (by decide) rfl ?_
  intro p e s m args below meth c s₁ B hml hv
  obtain ⟨rfl, hK, hC⟩ := hv
  have hr := B.returns
  have hlocks := B.notSynchronized
  have hl := lv_entry ([.ref b, .int x1, .int x2, .int x3]) (n := 4) (Nat.le_of_ble_eq_true rfl)
  rw [lg_entry_eq]
  generalize (lg_sl ([.ref b, .int x1, .int x2, .int x3]) ++ List.replicate (4 - (lg_sl ([.ref b, .int x1, .int x2, .int x3])).length) Slot.unset).toArray = ls at hl ⊢
  have hl : lv_has ls 4 [(0, .ref b), (1, .int x1), (2, .int x2), (3, .int x3)] := hl
  exact w_X7_hasSubfield_B0 ⟨B.exec, B.bytes, hml, findClass_of_methodNamed B.named, atoms_spec (ws := wsX7_hasSubfield) B.pre, hK⟩ (fun v H locs pc ls hq hbo hC hS hd => W.zret B.exec B.bytes hr hbo (fun t ht hW => ⟨⟨v, _, rfl, ⟨Option.some.inj hq, rfl⟩, CW_e ht hC⟩, hS.F ht⟩) hS.2.2 hd) h  hl hC va_S.rf

-- RecordShelf.append(IIIC)I
theorem dX7_append_0 : decode cX7_append 0 = .ok (.aload_n 0, 1) := by decide +kernel
theorem dX7_append_1 : decode cX7_append 1 = .ok (.iload_n 1, 1) := by decide +kernel
theorem dX7_append_2 : decode cX7_append 2 = .ok (.iload_n 2, 1) := by decide +kernel
theorem dX7_append_3 : decode cX7_append 3 = .ok (.iload_n 3, 1) := by decide +kernel
theorem dX7_append_4 : decode cX7_append 4 = .ok (.invokevirtual 133, 3) := by decide +kernel
theorem dX7_append_7 : decode cX7_append 7 = .ok (.ifCond .eq 11, 3) := by decide +kernel
theorem dX7_append_10 : decode cX7_append 10 = .ok (.iload 4, 2) := by decide +kernel
theorem dX7_append_12 : decode cX7_append 12 = .ok (.invokestatic 137, 3) := by decide +kernel
theorem dX7_append_15 : decode cX7_append 15 = .ok (.ifCond .ne 5, 3) := by decide +kernel
theorem dX7_append_18 : decode cX7_append 18 = .ok (.iconst (-1), 1) := by decide +kernel
theorem dX7_append_19 : decode cX7_append 19 = .ok (.ireturn, 1) := by decide +kernel
theorem dX7_append_20 : decode cX7_append 20 = .ok (.aload_n 0, 1) := by decide +kernel
theorem dX7_append_21 : decode cX7_append 21 = .ok (.getfield 23, 3) := by decide +kernel
theorem dX7_append_24 : decode cX7_append 24 = .ok (.iload_n 1, 1) := by decide +kernel
theorem dX7_append_25 : decode cX7_append 25 = .ok (.aaload, 1) := by decide +kernel
theorem dX7_append_26 : decode cX7_append 26 = .ok (.getfield 124, 3) := by decide +kernel
theorem dX7_append_29 : decode cX7_append 29 = .ok (.iload_n 2, 1) := by decide +kernel
theorem dX7_append_30 : decode cX7_append 30 = .ok (.aaload, 1) := by decide +kernel
theorem dX7_append_31 : decode cX7_append 31 = .ok (.getfield 140, 3) := by decide +kernel
theorem dX7_append_34 : decode cX7_append 34 = .ok (.iload_n 3, 1) := by decide +kernel
theorem dX7_append_35 : decode cX7_append 35 = .ok (.aaload, 1) := by decide +kernel
theorem dX7_append_36 : decode cX7_append 36 = .ok (.astore 5, 2) := by decide +kernel
theorem dX7_append_38 : decode cX7_append 38 = .ok (.aload 5, 2) := by decide +kernel
theorem dX7_append_40 : decode cX7_append 40 = .ok (.invokevirtual 144, 3) := by decide +kernel
theorem dX7_append_43 : decode cX7_append 43 = .ok (.ifCond .eq 6, 3) := by decide +kernel
theorem dX7_append_46 : decode cX7_append 46 = .ok (.bipush (-2), 2) := by decide +kernel
theorem dX7_append_48 : decode cX7_append 48 = .ok (.ireturn, 1) := by decide +kernel
theorem dX7_append_49 : decode cX7_append 49 = .ok (.aload 5, 2) := by decide +kernel
theorem dX7_append_51 : decode cX7_append 51 = .ok (.iload 4, 2) := by decide +kernel
theorem dX7_append_53 : decode cX7_append 53 = .ok (.invokevirtual 147, 3) := by decide +kernel
theorem dX7_append_56 : decode cX7_append 56 = .ok (.aload 5, 2) := by decide +kernel
theorem dX7_append_58 : decode cX7_append 58 = .ok (.getfield 148, 3) := by decide +kernel
theorem dX7_append_61 : decode cX7_append 61 = .ok (.ireturn, 1) := by decide +kernel
def rm_X7_append : Room := { frames := 3, cells := 0, slots := 0, locals := 66 }
def fn_X7_append (b : Nat) (σ : Sg) (x1 : Int32) (x2 : Int32) (x3 : Int32) (x4 : Int32) : Option (Int32 × Sg) :=
  ((fn_X7_hasSubfield b σ x1 x2 x3).bind fun r1 =>
  (if r1 = 0 then
  some ((-1), σ)
  else ((fn_X7_isPlain x4).bind fun r2 =>
  (if r2 = 0 then
  some ((-1), σ)
  else (if sg_ib x1 6 then
  (if sg_ib x2 8 then
  (if sg_ib x3 4 then
  (sg_lt (((σ.2 ((b + 10 + 147 * sg_x x1) + 2) (sg_x x2)) + 2 + 4 * sg_x x3) : Nat) fun a6 =>
  ((fn_X5_isFull b σ a6).bind fun r7 =>
  (if r7 = 0 then
  ((fn_X5_add b σ a6 x4).bind fun r8 =>
  some ((r8.1 a6 2), r8))
  else some ((-2), σ))))
  else none)
  else none)
  else none)))))
set_option maxHeartbeats 4000000 in
set_option maxRecDepth 100000 in
theorem w_X7_append_B0 {p : Program} {l : Launch} {e : Env} {s : State} {m : MethodId} {args : Array Value} {below : List Frame} {meth : Method} {c : Code} {Q : State → Prop} {D : va_G} {κ : Nat → ClassId} {b : Nat} {H0 : Heap} {rr : Int32 × Sg} (hZ : sg_Z p c s m args D κ cX7_append 6 RX7 wsX7_append) (hret : ∀ (v : Int32) (u : Sg) (H : Heap) (locs : List Loc) (pc : Nat) (ls : Array Slot), some (v, u) = some rr → CW D κ b u H → va_S (sg_A b 892) H0 H locs → decode cX7_append pc = .ok (.ireturn, 1) → W p l e rm_X7_append s m args below meth c H locs 0 0 Q (F0 m pc ls [.int v])) : ∀ {σ : Sg} {x1 : Int32} {x2 : Int32} {x3 : Int32} {x4 : Int32} {H : Heap} {locs : List Loc} {ls : Array Slot}, fn_X7_append b σ x1 x2 x3 x4 = some rr → lv_has ls 6 [(0, .ref b), (1, .int x1), (2, .int x2), (3, .int x3), (4, .int x4)] → CW D κ b σ H → va_S (sg_A b 892) H0 H locs → W p l e rm_X7_append s m args below meth c H locs 0 0 Q (F0 m 0 ls []) := by
  obtain ⟨hx, hb, hml, hown, hts, hK⟩ := hZ
  intro σ x1 x2 x3 x4 H locs ls h hl hC hS
  unfold fn_X7_append at h
  refine lv_aload_n hx hb dX7_append_0 rfl (lv_at hl 0 rfl) ?_
  refine lv_iload_n hx hb dX7_append_1 rfl (lv_at hl 1 rfl) ?_
  refine lv_iload_n hx hb dX7_append_2 rfl (lv_at hl 2 rfl) ?_
  refine lv_iload_n hx hb dX7_append_3 rfl (lv_at hl 3 rfl) ?_
  obtain ⟨r1, er1, h⟩ := Option.bind_eq_some_iff.mp h
  refine va_calli (va_runV (As := [.int x1, .int x2, .int x3]) (rest := []) ⟨hx, hb, hml, hown, hts⟩ (c_X7_hasSubfield l D κ b σ x1 x2 x3 _ er1) (cwV 3 hts (gwV wt_472 wt_474 wp_19 wt_1 wt_475) rfl rfl rfl (by decide +kernel) ⟨Nat.le_of_ble_eq_true rfl, Nat.le_of_ble_eq_true rfl⟩) (CW_preV hK hC sg_gShelf rfl) rfl rfl hl.1 rfl (lv_room (Nat.le_of_ble_eq_true rfl)) dX7_append_4 ⟨Nat.zero_le _, Nat.zero_le _⟩) hS (fun _ _ h => h) (fun _ h => h) (fun r u t H locs ht _ hp hB _ _ hS => ?_)
  refine sg_topi hp.1 ?_
  have hC : CW D κ b σ H := CW_b hB ht hp.2
  refine lv_if_eq (tgt := 18) hx hb dX7_append_7 (by decide) (fun hc => ?_) (fun hc => ?_)
  · replace h := (if_pos hc).symm.trans h
    refine lv_iconst (v := (-1)) hx hb dX7_append_18 (by decide) ?_
    exact hret _ _ _ _ _ _ h hC hS dX7_append_19
  · replace h := (if_neg hc).symm.trans h
    refine lv_iload hx hb dX7_append_10 (lv_at hl 4 rfl) ?_
    obtain ⟨r2, er2, h⟩ := Option.bind_eq_some_iff.mp h
    refine va_calli (va_runS (As := [.int x4]) (rest := []) ⟨hx, hb, hml, hown, hts⟩ (c_X7_isPlain l D κ b σ x4 _ er2) (va_cwS 1 hts (gwS wt_476 wt_325 wt_1 wt_326) rfl rfl rfl (by decide +kernel) ⟨Nat.le_of_ble_eq_true rfl, Nat.le_of_ble_eq_true rfl⟩) (CW_preS hK hC) rfl rfl hl.1 rfl (lv_room (Nat.le_of_ble_eq_true rfl)) dX7_append_12 ⟨Nat.zero_le _, Nat.zero_le _⟩) hS (fun _ _ h => h) (fun _ h => h) (fun r u t H locs ht _ hp hB _ _ hS => ?_)
    refine sg_topi hp.1 ?_
    have hC : CW D κ b σ H := CW_b hB ht hp.2
    refine lv_if_ne (tgt := 20) hx hb dX7_append_15 (by decide) (fun hc => ?_) (fun hc => ?_)
    · replace h := (if_neg hc).symm.trans h
      refine lv_aload_n hx hb dX7_append_20 rfl (lv_at hl 0 rfl) ?_
      refine va_get (D := D) (ci := 7) (v := .ref (b + 5)) (C := RX7) (T := TX7) (N := 6) hx hb hts (wqs inW_X7) hown hK.1 hC.1 (b - b) sg_gShelf rfl 2 (by decide) (hts _ (wq wt_194)) (fun _ h9 => h9) rfl dX7_append_21 ?_
      refine lv_iload_n hx hb dX7_append_24 rfl (lv_at hl 1 rfl) ?_
      obtain ⟨hg, h⟩ := sg_gd h
      refine va_aldq (C := "RecordShelf$Card") hx hb hK.1 hC.1 ((b + 5) - b) 2 sg_gcards rfl (sg_in hg) dX7_append_25 ?_
      have hv3 := sg_vCard (b := b) hg
      refine W.eq (g2 := F0 m 26 ls [.ref (b + 10 + 147 * sg_x x1)]) rfl ?_
      refine va_getN (D := D) (ci := 0) (v := .ref ((b + 10 + 147 * sg_x x1) + 2)) (C := RX0) (T := TX0) (N := 3) hx hb hts (wqs inW_X0) hown hK.1 hC.1 ((b + 10 + 147 * sg_x x1) - b) (sg_gCard hv3) rfl 1 (by decide) (nf_27 hK) (fun _ h9 => h9) rfl dX7_append_26 ?_
      refine lv_iload_n hx hb dX7_append_29 rfl (lv_at hl 2 rfl) ?_
      obtain ⟨hg, h⟩ := sg_gd h
      refine va_aldq (C := "RecordShelf$Field") hx hb hK.1 hC.1 (((b + 10 + 147 * sg_x x1) + 2) - b) 3 (sg_gfields hv3) rfl (sg_in hg) dX7_append_30 ?_
      have hv4 := hC.2 _ hv3 _ hg.2
      refine W.eq (g2 := F0 m 31 ls [.ref (σ.2 ((b + 10 + 147 * sg_x x1) + 2) (sg_x x2))]) rfl ?_
      refine va_getN (D := D) (ci := 1) (v := .ref ((σ.2 ((b + 10 + 147 * sg_x x1) + 2) (sg_x x2)) + 1)) (C := RX1) (T := TX1) (N := 5) hx hb hts (wqs inW_X1) hown hK.1 hC.1 ((σ.2 ((b + 10 + 147 * sg_x x1) + 2) (sg_x x2)) - b) (sg_gField hv4) rfl 0 (by decide) (nf_14 hK) (fun _ h9 => h9) rfl dX7_append_31 ?_
      refine lv_iload_n hx hb dX7_append_34 rfl (lv_at hl 3 rfl) ?_
      obtain ⟨hg, h⟩ := sg_gd h
      refine va_aldq (C := "RecordShelf$Subfield") hx hb hK.1 hC.1 (((σ.2 ((b + 10 + 147 * sg_x x1) + 2) (sg_x x2)) + 1) - b) 4 (sg_gsubs hv4) rfl (sg_in hg) dX7_append_35 ?_
      have hv5 := sg_vSub hv4 hg
      refine W.eq (g2 := F0 m 36 ls [.ref ((σ.2 ((b + 10 + 147 * sg_x x1) + 2) (sg_x x2)) + 2 + 4 * sg_x x3)]) rfl ?_
      obtain ⟨a6, ea6, h⟩ := sg_lte h
      have ha6 := ea6 ▸ hv5
      refine sg_topr ea6 ?_
      refine lv_astore (lv' := [(5, .ref a6), (0, .ref b), (1, .int x1), (2, .int x2), (3, .int x3), (4, .int x4)]) hx hb dX7_append_36 hl (by decide) rfl (fun ls hl => ?_)
      refine lv_aload hx hb dX7_append_38 (lv_at hl 0 rfl) ?_
      obtain ⟨r7, er7, h⟩ := Option.bind_eq_some_iff.mp h
      refine va_calli (va_runV (As := []) (rest := []) ⟨hx, hb, hml, hown, hts⟩ (c_X5_isFull l D κ b σ a6 _ ha6 er7) (cwV 0 hts (gwV wt_477 wt_391 wt_392 wt_8 wt_393) rfl rfl rfl (by decide +kernel) ⟨Nat.le_of_ble_eq_true rfl, Nat.le_of_ble_eq_true rfl⟩) (CW_preV hK hC (sg_gSub ha6) rfl) rfl rfl hl.1 rfl (lv_room (Nat.le_of_ble_eq_true rfl)) dX7_append_40 ⟨Nat.zero_le _, Nat.zero_le _⟩) hS (fun _ _ h => h) (fun _ h => h) (fun r u t H locs ht _ hp hB _ _ hS => ?_)
      refine sg_topi hp.1 ?_
      have hC : CW D κ b σ H := CW_b hB ht hp.2
      refine lv_if_eq (tgt := 49) hx hb dX7_append_43 (by decide) (fun hc => ?_) (fun hc => ?_)
      · replace h := (if_pos hc).symm.trans h
        refine lv_aload hx hb dX7_append_49 (lv_at hl 0 rfl) ?_
        refine lv_iload hx hb dX7_append_51 (lv_at hl 5 rfl) ?_
        obtain ⟨r8, er8, h⟩ := Option.bind_eq_some_iff.mp h
        refine va_callv (va_runV (As := [.int x4]) (rest := []) ⟨hx, hb, hml, hown, hts⟩ (c_X5_add l D κ b σ a6 x4 _ ha6 er8) (cwV 1 hts (gwV wt_478 wt_395 wt_396 wt_8 wt_397) rfl rfl rfl (by decide +kernel) ⟨Nat.le_of_ble_eq_true rfl, Nat.le_of_ble_eq_true rfl⟩) (CW_preV hK hC (sg_gSub ha6) rfl) rfl rfl hl.1 rfl (lv_room (Nat.le_of_ble_eq_true rfl)) dX7_append_53 ⟨Nat.zero_le _, Nat.zero_le _⟩) hS (fun _ _ h => h) (fun _ h => h) (fun u t H locs ht _ hp hB _ _ hS => ?_)
        have hC : CW D κ b r8 H := CW_b hB ht hp
        refine lv_aload hx hb dX7_append_56 (lv_at hl 0 rfl) ?_
        refine va_getN (D := D) (ci := 5) (v := .int (r8.1 a6 2)) (C := RX5) (T := TX5) (N := 4) hx hb hts (wqs inW_X5) hown hK.1 hC.1 (a6 - b) (sg_gSub ha6) rfl 2 (by decide) (nf_10 hK) (fun _ h9 => h9) rfl dX7_append_58 ?_
        exact hret _ _ _ _ _ _ h hC hS dX7_append_61
      · replace h := (if_neg hc).symm.trans h
        refine lv_bipush (v := (-2)) hx hb dX7_append_46 (by decide) ?_
        exact hret _ _ _ _ _ _ h hC hS dX7_append_48
    · replace h := (if_pos hc).symm.trans h
      refine lv_iconst (v := (-1)) hx hb dX7_append_18 (by decide) ?_
      exact hret _ _ _ _ _ _ h hC hS dX7_append_19
set_option maxHeartbeats 4000000 in
set_option maxRecDepth 100000 in
theorem c_X7_append (l : Launch) (D : va_G) (κ : Nat → ClassId) (b : Nat) (σ : Sg) (x1 : Int32) (x2 : Int32) (x3 : Int32) (x4 : Int32) (rr : Int32 × Sg)  (h : fn_X7_append b σ x1 x2 x3 x4 = some rr) : Met l yX7_append wsX7_append rm_X7_append (va_Pc [.ref b, .int x1, .int x2, .int x3, .int x4] (fun U => KK D κ U ∧ CW D κ b σ U.heap)) (va_Qi (fun (r : Int32) (u : Sg) => r = rr.1 ∧ u = rr.2) (fun u t => CW D κ b u t.heap) (sg_A b 892)) 0 0 (sg_A b 892) := by
  refine Met.ofW (cc := cX7_append) (maxL := 6) (ret := (some .int)) (by decide) rfl ?_
  intro p e s m args below meth c s₁ B hml hv
  obtain ⟨rfl, hK, hC⟩ := hv
  have hr := B.returns
  have hlocks := B.notSynchronized
  have hl := lv_entry ([.ref b, .int x1, .int x2, .int x3, .int x4]) (n := 6) (Nat.le_of_ble_eq_true rfl)
  rw [lg_entry_eq]
  generalize (lg_sl ([.ref b, .int x1, .int x2, .int x3, .int x4]) ++ List.replicate (6 - (lg_sl ([.ref b, .int x1, .int x2, .int x3, .int x4])).length) Slot.unset).toArray = ls at hl ⊢
  have hl : lv_has ls 6 [(0, .ref b), (1, .int x1), (2, .int x2), (3, .int x3), (4, .int x4)] := hl
  exact w_X7_append_B0 ⟨B.exec, B.bytes, hml, findClass_of_methodNamed B.named, atoms_spec (ws := wsX7_append) B.pre, hK⟩ (fun v u H locs pc ls hq hC hS hd => W.iret B.exec B.bytes hr (fun t ht hW => ⟨⟨v, _, rfl, ⟨congrArg Prod.fst (Option.some.inj hq), congrArg Prod.snd (Option.some.inj hq)⟩, CW_e ht hC⟩, hS.F ht⟩) hS.2.2 hd) h  hl hC va_S.rf

-- RecordShelf.drop(II)Z
theorem dX7_drop_0 : decode cX7_drop 0 = .ok (.aload_n 0, 1) := by decide +kernel
theorem dX7_drop_1 : decode cX7_drop 1 = .ok (.iload_n 1, 1) := by decide +kernel
theorem dX7_drop_2 : decode cX7_drop 2 = .ok (.iload_n 2, 1) := by decide +kernel
theorem dX7_drop_3 : decode cX7_drop 3 = .ok (.invokevirtual 117, 3) := by decide +kernel
theorem dX7_drop_6 : decode cX7_drop 6 = .ok (.ifCond .ne 5, 3) := by decide +kernel
theorem dX7_drop_9 : decode cX7_drop 9 = .ok (.iconst 0, 1) := by decide +kernel
theorem dX7_drop_10 : decode cX7_drop 10 = .ok (.ireturn, 1) := by decide +kernel
theorem dX7_drop_11 : decode cX7_drop 11 = .ok (.aload_n 0, 1) := by decide +kernel
theorem dX7_drop_12 : decode cX7_drop 12 = .ok (.getfield 23, 3) := by decide +kernel
theorem dX7_drop_15 : decode cX7_drop 15 = .ok (.iload_n 1, 1) := by decide +kernel
theorem dX7_drop_16 : decode cX7_drop 16 = .ok (.aaload, 1) := by decide +kernel
theorem dX7_drop_17 : decode cX7_drop 17 = .ok (.iload_n 2, 1) := by decide +kernel
theorem dX7_drop_18 : decode cX7_drop 18 = .ok (.invokevirtual 149, 3) := by decide +kernel
theorem dX7_drop_21 : decode cX7_drop 21 = .ok (.iconst 1, 1) := by decide +kernel
theorem dX7_drop_22 : decode cX7_drop 22 = .ok (.ireturn, 1) := by decide +kernel
def rm_X7_drop : Room := { frames := 2, cells := 0, slots := 0, locals := 43 }
def fn_X7_drop (b : Nat) (σ : Sg) (x1 : Int32) (x2 : Int32) : Option (Int32 × Sg) :=
  ((fn_X7_hasField b σ x1 x2).bind fun r1 =>
  (if r1 = 0 then
  some (0, σ)
  else (if sg_ib x1 6 then
  ((fn_X0_takeOut b σ (b + 10 + 147 * sg_x x1) x2).bind fun r3 =>
  some (1, r3))
  else none)))
set_option maxHeartbeats 4000000 in
set_option maxRecDepth 100000 in
theorem w_X7_drop_B0 {p : Program} {l : Launch} {e : Env} {s : State} {m : MethodId} {args : Array Value} {below : List Frame} {meth : Method} {c : Code} {Q : State → Prop} {D : va_G} {κ : Nat → ClassId} {b : Nat} {H0 : Heap} {rr : Int32 × Sg} (hZ : sg_Z p c s m args D κ cX7_drop 3 RX7 wsX7_drop) (hret : ∀ (v : Int32) (u : Sg) (H : Heap) (locs : List Loc) (pc : Nat) (ls : Array Slot), some (v, u) = some rr → narrow .boolean (.int v) = .int v → CW D κ b u H → va_S (sg_A b 892) H0 H locs → decode cX7_drop pc = .ok (.ireturn, 1) → W p l e rm_X7_drop s m args below meth c H locs 0 0 Q (F0 m pc ls [.int v])) : ∀ {σ : Sg} {x1 : Int32} {x2 : Int32} {H : Heap} {locs : List Loc} {ls : Array Slot}, fn_X7_drop b σ x1 x2 = some rr → lv_has ls 3 [(0, .ref b), (1, .int x1), (2, .int x2)] → CW D κ b σ H → va_S (sg_A b 892) H0 H locs → W p l e rm_X7_drop s m args below meth c H locs 0 0 Q (F0 m 0 ls []) := by
  obtain ⟨hx, hb, hml, hown, hts, hK⟩ := hZ
  intro σ x1 x2 H locs ls h hl hC hS
  unfold fn_X7_drop at h
  refine lv_aload_n hx hb dX7_drop_0 rfl (lv_at hl 0 rfl) ?_
  refine lv_iload_n hx hb dX7_drop_1 rfl (lv_at hl 1 rfl) ?_
  refine lv_iload_n hx hb dX7_drop_2 rfl (lv_at hl 2 rfl) ?_
  obtain ⟨r1, er1, h⟩ := Option.bind_eq_some_iff.mp h
  refine va_calli (va_runV (As := [.int x1, .int x2]) (rest := []) ⟨hx, hb, hml, hown, hts⟩ (c_X7_hasField l D κ b σ x1 x2 _ er1) (cwV 2 hts (gwV wt_461 wt_463 wp_18 wt_1 wt_464) rfl rfl rfl (by decide +kernel) ⟨Nat.le_of_ble_eq_true rfl, Nat.le_of_ble_eq_true rfl⟩) (CW_preV hK hC sg_gShelf rfl) rfl rfl hl.1 rfl (lv_room (Nat.le_of_ble_eq_true rfl)) dX7_drop_3 ⟨Nat.zero_le _, Nat.zero_le _⟩) hS (fun _ _ h => h) (fun _ h => h) (fun r u t H locs ht _ hp hB _ _ hS => ?_)
  refine sg_topi hp.1 ?_
  have hC : CW D κ b σ H := CW_b hB ht hp.2
  refine lv_if_ne (tgt := 11) hx hb dX7_drop_6 (by decide) (fun hc => ?_) (fun hc => ?_)
  · replace h := (if_neg hc).symm.trans h
    refine lv_aload_n hx hb dX7_drop_11 rfl (lv_at hl 0 rfl) ?_
    refine va_get (D := D) (ci := 7) (v := .ref (b + 5)) (C := RX7) (T := TX7) (N := 6) hx hb hts (wqs inW_X7) hown hK.1 hC.1 (b - b) sg_gShelf rfl 2 (by decide) (hts _ (wq wt_194)) (fun _ h9 => h9) rfl dX7_drop_12 ?_
    refine lv_iload_n hx hb dX7_drop_15 rfl (lv_at hl 1 rfl) ?_
    obtain ⟨hg, h⟩ := sg_gd h
    refine va_aldq (C := "RecordShelf$Card") hx hb hK.1 hC.1 ((b + 5) - b) 2 sg_gcards rfl (sg_in hg) dX7_drop_16 ?_
    have hv2 := sg_vCard (b := b) hg
    refine W.eq (g2 := F0 m 17 ls [.ref (b + 10 + 147 * sg_x x1)]) rfl ?_
    refine lv_iload_n hx hb dX7_drop_17 rfl (lv_at hl 2 rfl) ?_
    obtain ⟨r3, er3, h⟩ := Option.bind_eq_some_iff.mp h
    refine va_callv (va_runV (As := [.int x2]) (rest := []) ⟨hx, hb, hml, hown, hts⟩ (c_X0_takeOut l D κ b σ (b + 10 + 147 * sg_x x1) x2 _ hv2 er3) (cwV 1 hts (gwV wt_483 wt_484 wt_485 wt_6 wt_486) rfl rfl rfl (by decide +kernel) ⟨Nat.le_of_ble_eq_true rfl, Nat.le_of_ble_eq_true rfl⟩) (CW_preV hK hC (sg_gCard hv2) rfl) rfl rfl hl.1 rfl (lv_room (Nat.le_of_ble_eq_true rfl)) dX7_drop_18 ⟨Nat.zero_le _, Nat.zero_le _⟩) hS (fun _ _ h => h) (fun _ h => h) (fun u t H locs ht _ hp hB _ _ hS => ?_)
    have hC : CW D κ b r3 H := CW_b hB ht hp
    refine lv_iconst (v := 1) hx hb dX7_drop_21 (by decide) ?_
    exact hret _ _ _ _ _ _ h (by decide) hC hS dX7_drop_22
  · replace h := (if_pos hc).symm.trans h
    refine lv_iconst (v := 0) hx hb dX7_drop_9 (by decide) ?_
    exact hret _ _ _ _ _ _ h (by decide) hC hS dX7_drop_10
set_option maxHeartbeats 4000000 in
set_option maxRecDepth 100000 in
theorem c_X7_drop (l : Launch) (D : va_G) (κ : Nat → ClassId) (b : Nat) (σ : Sg) (x1 : Int32) (x2 : Int32) (rr : Int32 × Sg)  (h : fn_X7_drop b σ x1 x2 = some rr) : Met l yX7_drop wsX7_drop rm_X7_drop (va_Pc [.ref b, .int x1, .int x2] (fun U => KK D κ U ∧ CW D κ b σ U.heap)) (va_Qi (fun (r : Int32) (u : Sg) => r = rr.1 ∧ u = rr.2) (fun u t => CW D κ b u t.heap) (sg_A b 892)) 0 0 (sg_A b 892) := by
  refine Met.ofW (cc := cX7_drop) (maxL := 3) (ret := (some .boolean)) (by decide) rfl ?_
  intro p e s m args below meth c s₁ B hml hv
  obtain ⟨rfl, hK, hC⟩ := hv
  have hr := B.returns
  have hlocks := B.notSynchronized
  have hl := lv_entry ([.ref b, .int x1, .int x2]) (n := 3) (Nat.le_of_ble_eq_true rfl)
  rw [lg_entry_eq]
  generalize (lg_sl ([.ref b, .int x1, .int x2]) ++ List.replicate (3 - (lg_sl ([.ref b, .int x1, .int x2])).length) Slot.unset).toArray = ls at hl ⊢
  have hl : lv_has ls 3 [(0, .ref b), (1, .int x1), (2, .int x2)] := hl
  exact w_X7_drop_B0 ⟨B.exec, B.bytes, hml, findClass_of_methodNamed B.named, atoms_spec (ws := wsX7_drop) B.pre, hK⟩ (fun v u H locs pc ls hq hbo hC hS hd => W.zret B.exec B.bytes hr hbo (fun t ht hW => ⟨⟨v, _, rfl, ⟨congrArg Prod.fst (Option.some.inj hq), congrArg Prod.snd (Option.some.inj hq)⟩, CW_e ht hC⟩, hS.F ht⟩) hS.2.2 hd) h  hl hC va_S.rf

-- RecordShelf.write(I)I
theorem dX7_write_0 : decode cX7_write 0 = .ok (.aload_n 0, 1) := by decide +kernel
theorem dX7_write_1 : decode cX7_write 1 = .ok (.iload_n 1, 1) := by decide +kernel
theorem dX7_write_2 : decode cX7_write 2 = .ok (.invokevirtual 88, 3) := by decide +kernel
theorem dX7_write_5 : decode cX7_write 5 = .ok (.ifCond .ne 5, 3) := by decide +kernel
theorem dX7_write_8 : decode cX7_write 8 = .ok (.iconst (-1), 1) := by decide +kernel
theorem dX7_write_9 : decode cX7_write 9 = .ok (.ireturn, 1) := by decide +kernel
theorem dX7_write_10 : decode cX7_write 10 = .ok (.aload_n 0, 1) := by decide +kernel
theorem dX7_write_11 : decode cX7_write 11 = .ok (.getfield 23, 3) := by decide +kernel
theorem dX7_write_14 : decode cX7_write 14 = .ok (.iload_n 1, 1) := by decide +kernel
theorem dX7_write_15 : decode cX7_write 15 = .ok (.aaload, 1) := by decide +kernel
theorem dX7_write_16 : decode cX7_write 16 = .ok (.invokevirtual 152, 3) := by decide +kernel
theorem dX7_write_19 : decode cX7_write 19 = .ok (.sipush 600, 3) := by decide +kernel
theorem dX7_write_22 : decode cX7_write 22 = .ok (.if_icmp .le 6, 3) := by decide +kernel
theorem dX7_write_25 : decode cX7_write 25 = .ok (.bipush (-2), 2) := by decide +kernel
theorem dX7_write_27 : decode cX7_write 27 = .ok (.ireturn, 1) := by decide +kernel
theorem dX7_write_28 : decode cX7_write 28 = .ok (.aload_n 0, 1) := by decide +kernel
theorem dX7_write_29 : decode cX7_write 29 = .ok (.getfield 20, 3) := by decide +kernel
theorem dX7_write_32 : decode cX7_write 32 = .ok (.iconst 0, 1) := by decide +kernel
theorem dX7_write_33 : decode cX7_write 33 = .ok (.invokevirtual 62, 3) := by decide +kernel
theorem dX7_write_36 : decode cX7_write 36 = .ok (.aload_n 0, 1) := by decide +kernel
theorem dX7_write_37 : decode cX7_write 37 = .ok (.getfield 23, 3) := by decide +kernel
theorem dX7_write_40 : decode cX7_write 40 = .ok (.iload_n 1, 1) := by decide +kernel
theorem dX7_write_41 : decode cX7_write 41 = .ok (.aaload, 1) := by decide +kernel
theorem dX7_write_42 : decode cX7_write 42 = .ok (.aload_n 0, 1) := by decide +kernel
theorem dX7_write_43 : decode cX7_write 43 = .ok (.getfield 20, 3) := by decide +kernel
theorem dX7_write_46 : decode cX7_write 46 = .ok (.invokevirtual 156, 3) := by decide +kernel
theorem dX7_write_49 : decode cX7_write 49 = .ok (.aload_n 0, 1) := by decide +kernel
theorem dX7_write_50 : decode cX7_write 50 = .ok (.getfield 20, 3) := by decide +kernel
theorem dX7_write_53 : decode cX7_write 53 = .ok (.getfield 52, 3) := by decide +kernel
theorem dX7_write_56 : decode cX7_write 56 = .ok (.ireturn, 1) := by decide +kernel
def rm_X7_write : Room := { frames := 5, cells := 0, slots := 0, locals := 108 }
def fn_X7_write (b : Nat) (σ : Sg) (x1 : Int32) : Option (Int32 × Sg) :=
  ((fn_X7_hasCard b σ x1).bind fun r1 =>
  (if r1 = 0 then
  some ((-1), σ)
  else (if sg_ib x1 6 then
  ((fn_X0_size b σ (b + 10 + 147 * sg_x x1)).bind fun r3 =>
  (if r3 ≤ 600 then
  ((fn_X6_keep b σ 0).bind fun r4 =>
  (if sg_ib x1 6 then
  ((fn_X0_putInto b r4 (b + 10 + 147 * sg_x x1)).bind fun r6 =>
  some ((r6.1 (b + 2) 1), r6))
  else none))
  else some ((-2), σ)))
  else none)))
set_option maxHeartbeats 4000000 in
set_option maxRecDepth 100000 in
theorem w_X7_write_B0 {p : Program} {l : Launch} {e : Env} {s : State} {m : MethodId} {args : Array Value} {below : List Frame} {meth : Method} {c : Code} {Q : State → Prop} {D : va_G} {κ : Nat → ClassId} {b : Nat} {H0 : Heap} {rr : Int32 × Sg} (hZ : sg_Z p c s m args D κ cX7_write 2 RX7 wsX7_write) (hret : ∀ (v : Int32) (u : Sg) (H : Heap) (locs : List Loc) (pc : Nat) (ls : Array Slot), some (v, u) = some rr → CW D κ b u H → va_S (sg_A b 892) H0 H locs → decode cX7_write pc = .ok (.ireturn, 1) → W p l e rm_X7_write s m args below meth c H locs 0 0 Q (F0 m pc ls [.int v])) : ∀ {σ : Sg} {x1 : Int32} {H : Heap} {locs : List Loc} {ls : Array Slot}, fn_X7_write b σ x1 = some rr → lv_has ls 2 [(0, .ref b), (1, .int x1)] → CW D κ b σ H → va_S (sg_A b 892) H0 H locs → W p l e rm_X7_write s m args below meth c H locs 0 0 Q (F0 m 0 ls []) := by
  obtain ⟨hx, hb, hml, hown, hts, hK⟩ := hZ
  intro σ x1 H locs ls h hl hC hS
  unfold fn_X7_write at h
  refine lv_aload_n hx hb dX7_write_0 rfl (lv_at hl 0 rfl) ?_
  refine lv_iload_n hx hb dX7_write_1 rfl (lv_at hl 1 rfl) ?_
  obtain ⟨r1, er1, h⟩ := Option.bind_eq_some_iff.mp h
  refine va_calli (va_runV (As := [.int x1]) (rest := []) ⟨hx, hb, hml, hown, hts⟩ (c_X7_hasCard l D κ b σ x1 _ er1) (cwV 1 hts (gwV wt_446 wt_448 wp_17 wt_1 wt_449) rfl rfl rfl (by decide +kernel) ⟨Nat.le_of_ble_eq_true rfl, Nat.le_of_ble_eq_true rfl⟩) (CW_preV hK hC sg_gShelf rfl) rfl rfl hl.1 rfl (lv_room (Nat.le_of_ble_eq_true rfl)) dX7_write_2 ⟨Nat.zero_le _, Nat.zero_le _⟩) hS (fun _ _ h => h) (fun _ h => h) (fun r u t H locs ht _ hp hB _ _ hS => ?_)
  refine sg_topi hp.1 ?_
  have hC : CW D κ b σ H := CW_b hB ht hp.2
  refine lv_if_ne (tgt := 10) hx hb dX7_write_5 (by decide) (fun hc => ?_) (fun hc => ?_)
  · replace h := (if_neg hc).symm.trans h
    refine lv_aload_n hx hb dX7_write_10 rfl (lv_at hl 0 rfl) ?_
    refine va_get (D := D) (ci := 7) (v := .ref (b + 5)) (C := RX7) (T := TX7) (N := 6) hx hb hts (wqs inW_X7) hown hK.1 hC.1 (b - b) sg_gShelf rfl 2 (by decide) (hts _ (wq wt_194)) (fun _ h9 => h9) rfl dX7_write_11 ?_
    refine lv_iload_n hx hb dX7_write_14 rfl (lv_at hl 1 rfl) ?_
    obtain ⟨hg, h⟩ := sg_gd h
    refine va_aldq (C := "RecordShelf$Card") hx hb hK.1 hC.1 ((b + 5) - b) 2 sg_gcards rfl (sg_in hg) dX7_write_15 ?_
    have hv2 := sg_vCard (b := b) hg
    refine W.eq (g2 := F0 m 16 ls [.ref (b + 10 + 147 * sg_x x1)]) rfl ?_
    obtain ⟨r3, er3, h⟩ := Option.bind_eq_some_iff.mp h
    refine va_calli (va_runV (As := []) (rest := []) ⟨hx, hb, hml, hown, hts⟩ (c_X0_size l D κ b σ (b + 10 + 147 * sg_x x1) _ hv2 er3) (cwV 0 hts (gwV wt_491 wt_492 wt_493 wt_6 wt_494) rfl rfl rfl (by decide +kernel) ⟨Nat.le_of_ble_eq_true rfl, Nat.le_of_ble_eq_true rfl⟩) (CW_preV hK hC (sg_gCard hv2) rfl) rfl rfl hl.1 rfl (lv_room (Nat.le_of_ble_eq_true rfl)) dX7_write_16 ⟨Nat.zero_le _, Nat.zero_le _⟩) hS (fun _ _ h => h) (fun _ h => h) (fun r u t H locs ht _ hp hB _ _ hS => ?_)
    refine sg_topi hp.1 ?_
    have hC : CW D κ b σ H := CW_b hB ht hp.2
    refine lv_sipush (v := 600) hx hb dX7_write_19 (by decide) ?_
    refine lv_icmp_le (tgt := 28) hx hb dX7_write_22 (by decide) (fun hc => ?_) (fun hc => ?_)
    · replace h := (if_pos hc).symm.trans h
      refine lv_aload_n hx hb dX7_write_28 rfl (lv_at hl 0 rfl) ?_
      refine va_get (D := D) (ci := 7) (v := .ref (b + 2)) (C := RX7) (T := TX7) (N := 6) hx hb hts (wqs inW_X7) hown hK.1 hC.1 (b - b) sg_gShelf rfl 1 (by decide) (hts _ (wq wt_193)) (fun _ h9 => h9) rfl dX7_write_29 ?_
      refine lv_iconst (v := 0) hx hb dX7_write_32 (by decide) ?_
      obtain ⟨r4, er4, h⟩ := Option.bind_eq_some_iff.mp h
      refine va_callv (va_runV (As := [.int 0]) (rest := []) ⟨hx, hb, hml, hown, hts⟩ (c_X6_keep l D κ b σ 0 _ er4) (cwV 1 hts (gwV wt_229 wt_230 wt_231 wt_3 wt_232) rfl rfl rfl (by decide +kernel) ⟨Nat.le_of_ble_eq_true rfl, Nat.le_of_ble_eq_true rfl⟩) (CW_preV hK hC sg_gText rfl) rfl rfl hl.1 rfl (lv_room (Nat.le_of_ble_eq_true rfl)) dX7_write_33 ⟨Nat.zero_le _, Nat.zero_le _⟩) hS (fun _ _ h => h) (fun _ h => h) (fun u t H locs ht _ hp hB _ _ hS => ?_)
      have hC : CW D κ b r4 H := CW_b hB ht hp
      refine lv_aload_n hx hb dX7_write_36 rfl (lv_at hl 0 rfl) ?_
      refine va_get (D := D) (ci := 7) (v := .ref (b + 5)) (C := RX7) (T := TX7) (N := 6) hx hb hts (wqs inW_X7) hown hK.1 hC.1 (b - b) sg_gShelf rfl 2 (by decide) (hts _ (wq wt_194)) (fun _ h9 => h9) rfl dX7_write_37 ?_
      refine lv_iload_n hx hb dX7_write_40 rfl (lv_at hl 1 rfl) ?_
      obtain ⟨hg, h⟩ := sg_gd h
      refine va_aldq (C := "RecordShelf$Card") hx hb hK.1 hC.1 ((b + 5) - b) 2 sg_gcards rfl (sg_in hg) dX7_write_41 ?_
      have hv5 := sg_vCard (b := b) hg
      refine W.eq (g2 := F0 m 42 ls [.ref (b + 10 + 147 * sg_x x1)]) rfl ?_
      refine lv_aload_n hx hb dX7_write_42 rfl (lv_at hl 0 rfl) ?_
      refine va_get (D := D) (ci := 7) (v := .ref (b + 2)) (C := RX7) (T := TX7) (N := 6) hx hb hts (wqs inW_X7) hown hK.1 hC.1 (b - b) sg_gShelf rfl 1 (by decide) (hts _ (wq wt_193)) (fun _ h9 => h9) rfl dX7_write_43 ?_
      obtain ⟨r6, er6, h⟩ := Option.bind_eq_some_iff.mp h
      refine va_callv (va_runV (As := [.ref (b + 2)]) (rest := []) ⟨hx, hb, hml, hown, hts⟩ (c_X0_putInto l D κ b r4 (b + 10 + 147 * sg_x x1) _ hv5 er6) (cwV 1 hts (gwV wt_504 wt_505 wt_506 wt_6 wt_507) rfl rfl rfl (by decide +kernel) ⟨Nat.le_of_ble_eq_true rfl, Nat.le_of_ble_eq_true rfl⟩) (CW_preV hK hC (sg_gCard hv5) rfl) rfl rfl hl.1 rfl (lv_room (Nat.le_of_ble_eq_true rfl)) dX7_write_46 ⟨Nat.zero_le _, Nat.zero_le _⟩) hS (fun _ _ h => h) (fun _ h => h) (fun u t H locs ht _ hp hB _ _ hS => ?_)
      have hC : CW D κ b r6 H := CW_b hB ht hp
      refine lv_aload_n hx hb dX7_write_49 rfl (lv_at hl 0 rfl) ?_
      refine va_get (D := D) (ci := 7) (v := .ref (b + 2)) (C := RX7) (T := TX7) (N := 6) hx hb hts (wqs inW_X7) hown hK.1 hC.1 (b - b) sg_gShelf rfl 1 (by decide) (hts _ (wq wt_193)) (fun _ h9 => h9) rfl dX7_write_50 ?_
      refine va_getN (D := D) (ci := 6) (v := .int (r6.1 (b + 2) 1)) (C := RX6) (T := TX6) (N := 2) hx hb hts (wqs inW_X6) hown hK.1 hC.1 ((b + 2) - b) sg_gText rfl 1 (by decide) (nf_1 hK) (fun _ h9 => h9) rfl dX7_write_53 ?_
      exact hret _ _ _ _ _ _ h hC hS dX7_write_56
    · replace h := (if_neg hc).symm.trans h
      refine lv_bipush (v := (-2)) hx hb dX7_write_25 (by decide) ?_
      exact hret _ _ _ _ _ _ h hC hS dX7_write_27
  · replace h := (if_pos hc).symm.trans h
    refine lv_iconst (v := (-1)) hx hb dX7_write_8 (by decide) ?_
    exact hret _ _ _ _ _ _ h hC hS dX7_write_9
set_option maxHeartbeats 4000000 in
set_option maxRecDepth 100000 in
theorem c_X7_write (l : Launch) (D : va_G) (κ : Nat → ClassId) (b : Nat) (σ : Sg) (x1 : Int32) (rr : Int32 × Sg)  (h : fn_X7_write b σ x1 = some rr) : Met l yX7_write wsX7_write rm_X7_write (va_Pc [.ref b, .int x1] (fun U => KK D κ U ∧ CW D κ b σ U.heap)) (va_Qi (fun (r : Int32) (u : Sg) => r = rr.1 ∧ u = rr.2) (fun u t => CW D κ b u t.heap) (sg_A b 892)) 0 0 (sg_A b 892) := by
  refine Met.ofW (cc := cX7_write) (maxL := 2) (ret := (some .int)) (by decide) rfl ?_
  intro p e s m args below meth c s₁ B hml hv
  obtain ⟨rfl, hK, hC⟩ := hv
  have hr := B.returns
  have hlocks := B.notSynchronized
  have hl := lv_entry ([.ref b, .int x1]) (n := 2) (Nat.le_of_ble_eq_true rfl)
  rw [lg_entry_eq]
  generalize (lg_sl ([.ref b, .int x1]) ++ List.replicate (2 - (lg_sl ([.ref b, .int x1])).length) Slot.unset).toArray = ls at hl ⊢
  have hl : lv_has ls 2 [(0, .ref b), (1, .int x1)] := hl
  exact w_X7_write_B0 ⟨B.exec, B.bytes, hml, findClass_of_methodNamed B.named, atoms_spec (ws := wsX7_write) B.pre, hK⟩ (fun v u H locs pc ls hq hC hS hd => W.iret B.exec B.bytes hr (fun t ht hW => ⟨⟨v, _, rfl, ⟨congrArg Prod.fst (Option.some.inj hq), congrArg Prod.snd (Option.some.inj hq)⟩, CW_e ht hC⟩, hS.F ht⟩) hS.2.2 hd) h  hl hC va_S.rf

-- RecordShelf.many(II)I
theorem dX7_many_0 : decode cX7_many 0 = .ok (.iload_n 2, 1) := by decide +kernel
theorem dX7_many_1 : decode cX7_many 1 = .ok (.ifCond .ge 25, 3) := by decide +kernel
theorem dX7_many_4 : decode cX7_many 4 = .ok (.aload_n 0, 1) := by decide +kernel
theorem dX7_many_5 : decode cX7_many 5 = .ok (.iload_n 1, 1) := by decide +kernel
theorem dX7_many_6 : decode cX7_many 6 = .ok (.invokevirtual 88, 3) := by decide +kernel
theorem dX7_many_9 : decode cX7_many 9 = .ok (.ifCond .eq 15, 3) := by decide +kernel
theorem dX7_many_12 : decode cX7_many 12 = .ok (.aload_n 0, 1) := by decide +kernel
theorem dX7_many_13 : decode cX7_many 13 = .ok (.getfield 23, 3) := by decide +kernel
theorem dX7_many_16 : decode cX7_many 16 = .ok (.iload_n 1, 1) := by decide +kernel
theorem dX7_many_17 : decode cX7_many 17 = .ok (.aaload, 1) := by decide +kernel
theorem dX7_many_18 : decode cX7_many 18 = .ok (.getfield 114, 3) := by decide +kernel
theorem dX7_many_21 : decode cX7_many 21 = .ok (.goto 4, 3) := by decide +kernel
theorem dX7_many_24 : decode cX7_many 24 = .ok (.iconst (-1), 1) := by decide +kernel
theorem dX7_many_25 : decode cX7_many 25 = .ok (.ireturn, 1) := by decide +kernel
theorem dX7_many_26 : decode cX7_many 26 = .ok (.aload_n 0, 1) := by decide +kernel
theorem dX7_many_27 : decode cX7_many 27 = .ok (.iload_n 1, 1) := by decide +kernel
theorem dX7_many_28 : decode cX7_many 28 = .ok (.iload_n 2, 1) := by decide +kernel
theorem dX7_many_29 : decode cX7_many 29 = .ok (.invokevirtual 117, 3) := by decide +kernel
theorem dX7_many_32 : decode cX7_many 32 = .ok (.ifCond .eq 20, 3) := by decide +kernel
theorem dX7_many_35 : decode cX7_many 35 = .ok (.aload_n 0, 1) := by decide +kernel
theorem dX7_many_36 : decode cX7_many 36 = .ok (.getfield 23, 3) := by decide +kernel
theorem dX7_many_39 : decode cX7_many 39 = .ok (.iload_n 1, 1) := by decide +kernel
theorem dX7_many_40 : decode cX7_many 40 = .ok (.aaload, 1) := by decide +kernel
theorem dX7_many_41 : decode cX7_many 41 = .ok (.getfield 124, 3) := by decide +kernel
theorem dX7_many_44 : decode cX7_many 44 = .ok (.iload_n 2, 1) := by decide +kernel
theorem dX7_many_45 : decode cX7_many 45 = .ok (.aaload, 1) := by decide +kernel
theorem dX7_many_46 : decode cX7_many 46 = .ok (.getfield 132, 3) := by decide +kernel
theorem dX7_many_49 : decode cX7_many 49 = .ok (.goto 4, 3) := by decide +kernel
theorem dX7_many_52 : decode cX7_many 52 = .ok (.iconst (-1), 1) := by decide +kernel
theorem dX7_many_53 : decode cX7_many 53 = .ok (.ireturn, 1) := by decide +kernel
def rm_X7_many : Room := { frames := 2, cells := 0, slots := 0, locals := 43 }
def fn_X7_many (b : Nat) (σ : Sg) (x1 : Int32) (x2 : Int32) : Option (Int32) :=
  (if (0 : Int32) ≤ x2 then
  ((fn_X7_hasField b σ x1 x2).bind fun r1 =>
  (if r1 = 0 then
  some (-1)
  else (if sg_ib x1 6 then
  (if sg_ib x2 8 then
  some (σ.1 (σ.2 ((b + 10 + 147 * sg_x x1) + 2) (sg_x x2)) 1)
  else none)
  else none)))
  else ((fn_X7_hasCard b σ x1).bind fun r4 =>
  (if r4 = 0 then
  some (-1)
  else (if sg_ib x1 6 then
  some (σ.1 (b + 10 + 147 * sg_x x1) 2)
  else none))))
set_option maxHeartbeats 4000000 in
set_option maxRecDepth 100000 in
theorem w_X7_many_B0 {p : Program} {l : Launch} {e : Env} {s : State} {m : MethodId} {args : Array Value} {below : List Frame} {meth : Method} {c : Code} {Q : State → Prop} {D : va_G} {κ : Nat → ClassId} {b : Nat} {H0 : Heap} {rr : Int32} {σ : Sg} (hZ : sg_Z p c s m args D κ cX7_many 3 RX7 wsX7_many) (hret : ∀ (v : Int32) (H : Heap) (locs : List Loc) (pc : Nat) (ls : Array Slot), some v = some rr → CW D κ b σ H → va_S (sg_A b 892) H0 H locs → decode cX7_many pc = .ok (.ireturn, 1) → W p l e rm_X7_many s m args below meth c H locs 0 0 Q (F0 m pc ls [.int v])) : ∀ {x1 : Int32} {x2 : Int32} {H : Heap} {locs : List Loc} {ls : Array Slot}, fn_X7_many b σ x1 x2 = some rr → lv_has ls 3 [(0, .ref b), (1, .int x1), (2, .int x2)] → CW D κ b σ H → va_S (sg_A b 892) H0 H locs → W p l e rm_X7_many s m args below meth c H locs 0 0 Q (F0 m 0 ls []) := by
  obtain ⟨hx, hb, hml, hown, hts, hK⟩ := hZ
  intro x1 x2 H locs ls h hl hC hS
  unfold fn_X7_many at h
  refine lv_iload_n hx hb dX7_many_0 rfl (lv_at hl 2 rfl) ?_
  refine lv_if_ge (tgt := 26) hx hb dX7_many_1 (by decide) (fun hc => ?_) (fun hc => ?_)
  · replace h := (if_pos hc).symm.trans h
    refine lv_aload_n hx hb dX7_many_26 rfl (lv_at hl 0 rfl) ?_
    refine lv_iload_n hx hb dX7_many_27 rfl (lv_at hl 1 rfl) ?_
    refine lv_iload_n hx hb dX7_many_28 rfl (lv_at hl 2 rfl) ?_
    obtain ⟨r1, er1, h⟩ := Option.bind_eq_some_iff.mp h
    refine va_calli (va_runV (As := [.int x1, .int x2]) (rest := []) ⟨hx, hb, hml, hown, hts⟩ (c_X7_hasField l D κ b σ x1 x2 _ er1) (cwV 2 hts (gwV wt_461 wt_463 wp_18 wt_1 wt_464) rfl rfl rfl (by decide +kernel) ⟨Nat.le_of_ble_eq_true rfl, Nat.le_of_ble_eq_true rfl⟩) (CW_preV hK hC sg_gShelf rfl) rfl rfl hl.1 rfl (lv_room (Nat.le_of_ble_eq_true rfl)) dX7_many_29 ⟨Nat.zero_le _, Nat.zero_le _⟩) hS (fun _ _ h => h) (fun _ h => h) (fun r u t H locs ht _ hp hB _ _ hS => ?_)
    refine sg_topi hp.1 ?_
    have hC : CW D κ b σ H := CW_b hB ht hp.2
    refine lv_if_eq (tgt := 52) hx hb dX7_many_32 (by decide) (fun hc => ?_) (fun hc => ?_)
    · replace h := (if_pos hc).symm.trans h
      refine lv_iconst (v := (-1)) hx hb dX7_many_52 (by decide) ?_
      exact hret _ _ _ _ _ h hC hS dX7_many_53
    · replace h := (if_neg hc).symm.trans h
      refine lv_aload_n hx hb dX7_many_35 rfl (lv_at hl 0 rfl) ?_
      refine va_get (D := D) (ci := 7) (v := .ref (b + 5)) (C := RX7) (T := TX7) (N := 6) hx hb hts (wqs inW_X7) hown hK.1 hC.1 (b - b) sg_gShelf rfl 2 (by decide) (hts _ (wq wt_194)) (fun _ h9 => h9) rfl dX7_many_36 ?_
      refine lv_iload_n hx hb dX7_many_39 rfl (lv_at hl 1 rfl) ?_
      obtain ⟨hg, h⟩ := sg_gd h
      refine va_aldq (C := "RecordShelf$Card") hx hb hK.1 hC.1 ((b + 5) - b) 2 sg_gcards rfl (sg_in hg) dX7_many_40 ?_
      have hv2 := sg_vCard (b := b) hg
      refine W.eq (g2 := F0 m 41 ls [.ref (b + 10 + 147 * sg_x x1)]) rfl ?_
      refine va_getN (D := D) (ci := 0) (v := .ref ((b + 10 + 147 * sg_x x1) + 2)) (C := RX0) (T := TX0) (N := 3) hx hb hts (wqs inW_X0) hown hK.1 hC.1 ((b + 10 + 147 * sg_x x1) - b) (sg_gCard hv2) rfl 1 (by decide) (nf_27 hK) (fun _ h9 => h9) rfl dX7_many_41 ?_
      refine lv_iload_n hx hb dX7_many_44 rfl (lv_at hl 2 rfl) ?_
      obtain ⟨hg, h⟩ := sg_gd h
      refine va_aldq (C := "RecordShelf$Field") hx hb hK.1 hC.1 (((b + 10 + 147 * sg_x x1) + 2) - b) 3 (sg_gfields hv2) rfl (sg_in hg) dX7_many_45 ?_
      have hv3 := hC.2 _ hv2 _ hg.2
      refine W.eq (g2 := F0 m 46 ls [.ref (σ.2 ((b + 10 + 147 * sg_x x1) + 2) (sg_x x2))]) rfl ?_
      refine va_getN (D := D) (ci := 1) (v := .int (σ.1 (σ.2 ((b + 10 + 147 * sg_x x1) + 2) (sg_x x2)) 1)) (C := RX1) (T := TX1) (N := 5) hx hb hts (wqs inW_X1) hown hK.1 hC.1 ((σ.2 ((b + 10 + 147 * sg_x x1) + 2) (sg_x x2)) - b) (sg_gField hv3) rfl 1 (by decide) (nf_17 hK) (fun _ h9 => h9) rfl dX7_many_46 ?_
      refine lv_goto (tgt := 53) hx hb dX7_many_49 (by decide) ?_
      exact hret _ _ _ _ _ h hC hS dX7_many_53
  · replace h := (if_neg hc).symm.trans h
    refine lv_aload_n hx hb dX7_many_4 rfl (lv_at hl 0 rfl) ?_
    refine lv_iload_n hx hb dX7_many_5 rfl (lv_at hl 1 rfl) ?_
    obtain ⟨r4, er4, h⟩ := Option.bind_eq_some_iff.mp h
    refine va_calli (va_runV (As := [.int x1]) (rest := []) ⟨hx, hb, hml, hown, hts⟩ (c_X7_hasCard l D κ b σ x1 _ er4) (cwV 1 hts (gwV wt_446 wt_448 wp_17 wt_1 wt_449) rfl rfl rfl (by decide +kernel) ⟨Nat.le_of_ble_eq_true rfl, Nat.le_of_ble_eq_true rfl⟩) (CW_preV hK hC sg_gShelf rfl) rfl rfl hl.1 rfl (lv_room (Nat.le_of_ble_eq_true rfl)) dX7_many_6 ⟨Nat.zero_le _, Nat.zero_le _⟩) hS (fun _ _ h => h) (fun _ h => h) (fun r u t H locs ht _ hp hB _ _ hS => ?_)
    refine sg_topi hp.1 ?_
    have hC : CW D κ b σ H := CW_b hB ht hp.2
    refine lv_if_eq (tgt := 24) hx hb dX7_many_9 (by decide) (fun hc => ?_) (fun hc => ?_)
    · replace h := (if_pos hc).symm.trans h
      refine lv_iconst (v := (-1)) hx hb dX7_many_24 (by decide) ?_
      exact hret _ _ _ _ _ h hC hS dX7_many_25
    · replace h := (if_neg hc).symm.trans h
      refine lv_aload_n hx hb dX7_many_12 rfl (lv_at hl 0 rfl) ?_
      refine va_get (D := D) (ci := 7) (v := .ref (b + 5)) (C := RX7) (T := TX7) (N := 6) hx hb hts (wqs inW_X7) hown hK.1 hC.1 (b - b) sg_gShelf rfl 2 (by decide) (hts _ (wq wt_194)) (fun _ h9 => h9) rfl dX7_many_13 ?_
      refine lv_iload_n hx hb dX7_many_16 rfl (lv_at hl 1 rfl) ?_
      obtain ⟨hg, h⟩ := sg_gd h
      refine va_aldq (C := "RecordShelf$Card") hx hb hK.1 hC.1 ((b + 5) - b) 2 sg_gcards rfl (sg_in hg) dX7_many_17 ?_
      have hv5 := sg_vCard (b := b) hg
      refine W.eq (g2 := F0 m 18 ls [.ref (b + 10 + 147 * sg_x x1)]) rfl ?_
      refine va_getN (D := D) (ci := 0) (v := .int (σ.1 (b + 10 + 147 * sg_x x1) 2)) (C := RX0) (T := TX0) (N := 3) hx hb hts (wqs inW_X0) hown hK.1 hC.1 ((b + 10 + 147 * sg_x x1) - b) (sg_gCard hv5) rfl 2 (by decide) (nf_29 hK) (fun _ h9 => h9) rfl dX7_many_18 ?_
      refine lv_goto (tgt := 25) hx hb dX7_many_21 (by decide) ?_
      exact hret _ _ _ _ _ h hC hS dX7_many_25
set_option maxHeartbeats 4000000 in
set_option maxRecDepth 100000 in
theorem c_X7_many (l : Launch) (D : va_G) (κ : Nat → ClassId) (b : Nat) (σ : Sg) (x1 : Int32) (x2 : Int32) (rr : Int32)  (h : fn_X7_many b σ x1 x2 = some rr) : Met l yX7_many wsX7_many rm_X7_many (va_Pc [.ref b, .int x1, .int x2] (fun U => KK D κ U ∧ CW D κ b σ U.heap)) (va_Qi (fun (r : Int32) (u : Sg) => r = rr ∧ u = σ) (fun u t => CW D κ b u t.heap) (sg_A b 892)) 0 0 (sg_A b 892) := by
  refine Met.ofW (cc := cX7_many) (maxL := 3) (ret := (some .int)) (by decide) rfl ?_
  intro p e s m args below meth c s₁ B hml hv
  obtain ⟨rfl, hK, hC⟩ := hv
  have hr := B.returns
  have hlocks := B.notSynchronized
  have hl := lv_entry ([.ref b, .int x1, .int x2]) (n := 3) (Nat.le_of_ble_eq_true rfl)
  rw [lg_entry_eq]
  generalize (lg_sl ([.ref b, .int x1, .int x2]) ++ List.replicate (3 - (lg_sl ([.ref b, .int x1, .int x2])).length) Slot.unset).toArray = ls at hl ⊢
  have hl : lv_has ls 3 [(0, .ref b), (1, .int x1), (2, .int x2)] := hl
  exact w_X7_many_B0 ⟨B.exec, B.bytes, hml, findClass_of_methodNamed B.named, atoms_spec (ws := wsX7_many) B.pre, hK⟩ (fun v H locs pc ls hq hC hS hd => W.iret B.exec B.bytes hr (fun t ht hW => ⟨⟨v, _, rfl, ⟨Option.some.inj hq, rfl⟩, CW_e ht hC⟩, hS.F ht⟩) hS.2.2 hd) h  hl hC va_S.rf

-- RecordShelf.mark(III)I
theorem dX7_mark_0 : decode cX7_mark 0 = .ok (.aload_n 0, 1) := by decide +kernel
theorem dX7_mark_1 : decode cX7_mark 1 = .ok (.iload_n 1, 1) := by decide +kernel
theorem dX7_mark_2 : decode cX7_mark 2 = .ok (.iload_n 2, 1) := by decide +kernel
theorem dX7_mark_3 : decode cX7_mark 3 = .ok (.invokevirtual 117, 3) := by decide +kernel
theorem dX7_mark_6 : decode cX7_mark 6 = .ok (.ifCond .ne 5, 3) := by decide +kernel
theorem dX7_mark_9 : decode cX7_mark 9 = .ok (.iconst (-1), 1) := by decide +kernel
theorem dX7_mark_10 : decode cX7_mark 10 = .ok (.ireturn, 1) := by decide +kernel
theorem dX7_mark_11 : decode cX7_mark 11 = .ok (.aload_n 0, 1) := by decide +kernel
theorem dX7_mark_12 : decode cX7_mark 12 = .ok (.getfield 23, 3) := by decide +kernel
theorem dX7_mark_15 : decode cX7_mark 15 = .ok (.iload_n 1, 1) := by decide +kernel
theorem dX7_mark_16 : decode cX7_mark 16 = .ok (.aaload, 1) := by decide +kernel
theorem dX7_mark_17 : decode cX7_mark 17 = .ok (.getfield 124, 3) := by decide +kernel
theorem dX7_mark_20 : decode cX7_mark 20 = .ok (.iload_n 2, 1) := by decide +kernel
theorem dX7_mark_21 : decode cX7_mark 21 = .ok (.aaload, 1) := by decide +kernel
theorem dX7_mark_22 : decode cX7_mark 22 = .ok (.astore 4, 2) := by decide +kernel
theorem dX7_mark_24 : decode cX7_mark 24 = .ok (.iload_n 3, 1) := by decide +kernel
theorem dX7_mark_25 : decode cX7_mark 25 = .ok (.tableswitch 45 0 2 #[27, 33, 39], 27) := by decide +kernel
theorem dX7_mark_52 : decode cX7_mark 52 = .ok (.aload 4, 2) := by decide +kernel
theorem dX7_mark_54 : decode cX7_mark 54 = .ok (.getfield 160, 3) := by decide +kernel
theorem dX7_mark_57 : decode cX7_mark 57 = .ok (.ireturn, 1) := by decide +kernel
theorem dX7_mark_58 : decode cX7_mark 58 = .ok (.aload 4, 2) := by decide +kernel
theorem dX7_mark_60 : decode cX7_mark 60 = .ok (.getfield 102, 3) := by decide +kernel
theorem dX7_mark_63 : decode cX7_mark 63 = .ok (.ireturn, 1) := by decide +kernel
theorem dX7_mark_64 : decode cX7_mark 64 = .ok (.aload 4, 2) := by decide +kernel
theorem dX7_mark_66 : decode cX7_mark 66 = .ok (.getfield 108, 3) := by decide +kernel
theorem dX7_mark_69 : decode cX7_mark 69 = .ok (.ireturn, 1) := by decide +kernel
theorem dX7_mark_70 : decode cX7_mark 70 = .ok (.iconst (-1), 1) := by decide +kernel
theorem dX7_mark_71 : decode cX7_mark 71 = .ok (.ireturn, 1) := by decide +kernel
def rm_X7_mark : Room := { frames := 2, cells := 0, slots := 0, locals := 43 }
def fn_X7_mark (b : Nat) (σ : Sg) (x1 : Int32) (x2 : Int32) (x3 : Int32) : Option (Int32) :=
  ((fn_X7_hasField b σ x1 x2).bind fun r1 =>
  (if r1 = 0 then
  some (-1)
  else (if sg_ib x1 6 then
  (if sg_ib x2 8 then
  (sg_lt ((σ.2 ((b + 10 + 147 * sg_x x1) + 2) (sg_x x2)) : Nat) fun a4 =>
  (if x3 = 0 then
  some (σ.1 a4 2)
  else (if x3 = 1 then
  some (σ.1 a4 3)
  else (if x3 = 2 then
  some (σ.1 a4 4)
  else some (-1)))))
  else none)
  else none)))
set_option maxHeartbeats 4000000 in
set_option maxRecDepth 100000 in
theorem w_X7_mark_B0 {p : Program} {l : Launch} {e : Env} {s : State} {m : MethodId} {args : Array Value} {below : List Frame} {meth : Method} {c : Code} {Q : State → Prop} {D : va_G} {κ : Nat → ClassId} {b : Nat} {H0 : Heap} {rr : Int32} {σ : Sg} (hZ : sg_Z p c s m args D κ cX7_mark 5 RX7 wsX7_mark) (hret : ∀ (v : Int32) (H : Heap) (locs : List Loc) (pc : Nat) (ls : Array Slot), some v = some rr → CW D κ b σ H → va_S (sg_A b 892) H0 H locs → decode cX7_mark pc = .ok (.ireturn, 1) → W p l e rm_X7_mark s m args below meth c H locs 0 0 Q (F0 m pc ls [.int v])) : ∀ {x1 : Int32} {x2 : Int32} {x3 : Int32} {H : Heap} {locs : List Loc} {ls : Array Slot}, fn_X7_mark b σ x1 x2 x3 = some rr → lv_has ls 5 [(0, .ref b), (1, .int x1), (2, .int x2), (3, .int x3)] → CW D κ b σ H → va_S (sg_A b 892) H0 H locs → W p l e rm_X7_mark s m args below meth c H locs 0 0 Q (F0 m 0 ls []) := by
  obtain ⟨hx, hb, hml, hown, hts, hK⟩ := hZ
  intro x1 x2 x3 H locs ls h hl hC hS
  unfold fn_X7_mark at h
  refine lv_aload_n hx hb dX7_mark_0 rfl (lv_at hl 0 rfl) ?_
  refine lv_iload_n hx hb dX7_mark_1 rfl (lv_at hl 1 rfl) ?_
  refine lv_iload_n hx hb dX7_mark_2 rfl (lv_at hl 2 rfl) ?_
  obtain ⟨r1, er1, h⟩ := Option.bind_eq_some_iff.mp h
  refine va_calli (va_runV (As := [.int x1, .int x2]) (rest := []) ⟨hx, hb, hml, hown, hts⟩ (c_X7_hasField l D κ b σ x1 x2 _ er1) (cwV 2 hts (gwV wt_461 wt_463 wp_18 wt_1 wt_464) rfl rfl rfl (by decide +kernel) ⟨Nat.le_of_ble_eq_true rfl, Nat.le_of_ble_eq_true rfl⟩) (CW_preV hK hC sg_gShelf rfl) rfl rfl hl.1 rfl (lv_room (Nat.le_of_ble_eq_true rfl)) dX7_mark_3 ⟨Nat.zero_le _, Nat.zero_le _⟩) hS (fun _ _ h => h) (fun _ h => h) (fun r u t H locs ht _ hp hB _ _ hS => ?_)
  refine sg_topi hp.1 ?_
  have hC : CW D κ b σ H := CW_b hB ht hp.2
  refine lv_if_ne (tgt := 11) hx hb dX7_mark_6 (by decide) (fun hc => ?_) (fun hc => ?_)
  · replace h := (if_neg hc).symm.trans h
    refine lv_aload_n hx hb dX7_mark_11 rfl (lv_at hl 0 rfl) ?_
    refine va_get (D := D) (ci := 7) (v := .ref (b + 5)) (C := RX7) (T := TX7) (N := 6) hx hb hts (wqs inW_X7) hown hK.1 hC.1 (b - b) sg_gShelf rfl 2 (by decide) (hts _ (wq wt_194)) (fun _ h9 => h9) rfl dX7_mark_12 ?_
    refine lv_iload_n hx hb dX7_mark_15 rfl (lv_at hl 1 rfl) ?_
    obtain ⟨hg, h⟩ := sg_gd h
    refine va_aldq (C := "RecordShelf$Card") hx hb hK.1 hC.1 ((b + 5) - b) 2 sg_gcards rfl (sg_in hg) dX7_mark_16 ?_
    have hv2 := sg_vCard (b := b) hg
    refine W.eq (g2 := F0 m 17 ls [.ref (b + 10 + 147 * sg_x x1)]) rfl ?_
    refine va_getN (D := D) (ci := 0) (v := .ref ((b + 10 + 147 * sg_x x1) + 2)) (C := RX0) (T := TX0) (N := 3) hx hb hts (wqs inW_X0) hown hK.1 hC.1 ((b + 10 + 147 * sg_x x1) - b) (sg_gCard hv2) rfl 1 (by decide) (nf_27 hK) (fun _ h9 => h9) rfl dX7_mark_17 ?_
    refine lv_iload_n hx hb dX7_mark_20 rfl (lv_at hl 2 rfl) ?_
    obtain ⟨hg, h⟩ := sg_gd h
    refine va_aldq (C := "RecordShelf$Field") hx hb hK.1 hC.1 (((b + 10 + 147 * sg_x x1) + 2) - b) 3 (sg_gfields hv2) rfl (sg_in hg) dX7_mark_21 ?_
    have hv3 := hC.2 _ hv2 _ hg.2
    refine W.eq (g2 := F0 m 22 ls [.ref (σ.2 ((b + 10 + 147 * sg_x x1) + 2) (sg_x x2))]) rfl ?_
    obtain ⟨a4, ea4, h⟩ := sg_lte h
    have ha4 := ea4 ▸ hv3
    refine sg_topr ea4 ?_
    refine lv_astore (lv' := [(4, .ref a4), (0, .ref b), (1, .int x1), (2, .int x2), (3, .int x3)]) hx hb dX7_mark_22 hl (by decide) rfl (fun ls hl => ?_)
    refine lv_iload_n hx hb dX7_mark_24 rfl (lv_at hl 4 rfl) ?_
    by_cases hs0 : x3 = 0
    · replace h := (if_pos hs0).symm.trans h
      refine lv_tableIn (tgt := 52) hx hb dX7_mark_25 (by rw [hs0]; decide) (by rw [hs0]; decide) (by rw [hs0] <;> rfl) (by decide) ?_
      refine lv_aload hx hb dX7_mark_52 (lv_at hl 0 rfl) ?_
      refine va_getN (D := D) (ci := 1) (v := .int (σ.1 a4 2)) (C := RX1) (T := TX1) (N := 5) hx hb hts (wqs inW_X1) hown hK.1 hC.1 (a4 - b) (sg_gField ha4) rfl 2 (by decide) (nf_20 hK) (fun _ h9 => h9) rfl dX7_mark_54 ?_
      exact hret _ _ _ _ _ h hC hS dX7_mark_57
    · replace h := (if_neg hs0).symm.trans h
      by_cases hs1 : x3 = 1
      · replace h := (if_pos hs1).symm.trans h
        refine lv_tableIn (tgt := 58) hx hb dX7_mark_25 (by rw [hs1]; decide) (by rw [hs1]; decide) (by rw [hs1] <;> rfl) (by decide) ?_
        refine lv_aload hx hb dX7_mark_58 (lv_at hl 0 rfl) ?_
        refine va_getN (D := D) (ci := 1) (v := .int (σ.1 a4 3)) (C := RX1) (T := TX1) (N := 5) hx hb hts (wqs inW_X1) hown hK.1 hC.1 (a4 - b) (sg_gField ha4) rfl 3 (by decide) (nf_21 hK) (fun _ h9 => h9) rfl dX7_mark_60 ?_
        exact hret _ _ _ _ _ h hC hS dX7_mark_63
      · replace h := (if_neg hs1).symm.trans h
        by_cases hs2 : x3 = 2
        · replace h := (if_pos hs2).symm.trans h
          refine lv_tableIn (tgt := 64) hx hb dX7_mark_25 (by rw [hs2]; decide) (by rw [hs2]; decide) (by rw [hs2] <;> rfl) (by decide) ?_
          refine lv_aload hx hb dX7_mark_64 (lv_at hl 0 rfl) ?_
          refine va_getN (D := D) (ci := 1) (v := .int (σ.1 a4 4)) (C := RX1) (T := TX1) (N := 5) hx hb hts (wqs inW_X1) hown hK.1 hC.1 (a4 - b) (sg_gField ha4) rfl 4 (by decide) (nf_23 hK) (fun _ h9 => h9) rfl dX7_mark_66 ?_
          exact hret _ _ _ _ _ h hC hS dX7_mark_69
        · replace h := (if_neg hs2).symm.trans h
          refine lv_tableOut (tgt := 70) hx hb dX7_mark_25 (sg_sw3t hs0 hs1 hs2) (by decide) ?_
          refine lv_iconst (v := (-1)) hx hb dX7_mark_70 (by decide) ?_
          exact hret _ _ _ _ _ h hC hS dX7_mark_71
  · replace h := (if_pos hc).symm.trans h
    refine lv_iconst (v := (-1)) hx hb dX7_mark_9 (by decide) ?_
    exact hret _ _ _ _ _ h hC hS dX7_mark_10
set_option maxHeartbeats 4000000 in
set_option maxRecDepth 100000 in
theorem c_X7_mark (l : Launch) (D : va_G) (κ : Nat → ClassId) (b : Nat) (σ : Sg) (x1 : Int32) (x2 : Int32) (x3 : Int32) (rr : Int32)  (h : fn_X7_mark b σ x1 x2 x3 = some rr) : Met l yX7_mark wsX7_mark rm_X7_mark (va_Pc [.ref b, .int x1, .int x2, .int x3] (fun U => KK D κ U ∧ CW D κ b σ U.heap)) (va_Qi (fun (r : Int32) (u : Sg) => r = rr ∧ u = σ) (fun u t => CW D κ b u t.heap) (sg_A b 892)) 0 0 (sg_A b 892) := by
  refine Met.ofW (cc := cX7_mark) (maxL := 5) (ret := (some .int)) (by decide) rfl ?_
  intro p e s m args below meth c s₁ B hml hv
  obtain ⟨rfl, hK, hC⟩ := hv
  have hr := B.returns
  have hlocks := B.notSynchronized
  have hl := lv_entry ([.ref b, .int x1, .int x2, .int x3]) (n := 5) (Nat.le_of_ble_eq_true rfl)
  rw [lg_entry_eq]
  generalize (lg_sl ([.ref b, .int x1, .int x2, .int x3]) ++ List.replicate (5 - (lg_sl ([.ref b, .int x1, .int x2, .int x3])).length) Slot.unset).toArray = ls at hl ⊢
  have hl : lv_has ls 5 [(0, .ref b), (1, .int x1), (2, .int x2), (3, .int x3)] := hl
  exact w_X7_mark_B0 ⟨B.exec, B.bytes, hml, findClass_of_methodNamed B.named, atoms_spec (ws := wsX7_mark) B.pre, hK⟩ (fun v H locs pc ls hq hC hS hd => W.iret B.exec B.bytes hr (fun t ht hW => ⟨⟨v, _, rfl, ⟨Option.some.inj hq, rfl⟩, CW_e ht hC⟩, hS.F ht⟩) hS.2.2 hd) h  hl hC va_S.rf

-- RecordShelf.shown(IIII)I
theorem dX7_shown_0 : decode cX7_shown 0 = .ok (.aload_n 0, 1) := by decide +kernel
theorem dX7_shown_1 : decode cX7_shown 1 = .ok (.iload_n 1, 1) := by decide +kernel
theorem dX7_shown_2 : decode cX7_shown 2 = .ok (.iload_n 2, 1) := by decide +kernel
theorem dX7_shown_3 : decode cX7_shown 3 = .ok (.iload_n 3, 1) := by decide +kernel
theorem dX7_shown_4 : decode cX7_shown 4 = .ok (.invokevirtual 133, 3) := by decide +kernel
theorem dX7_shown_7 : decode cX7_shown 7 = .ok (.ifCond .ne 5, 3) := by decide +kernel
theorem dX7_shown_10 : decode cX7_shown 10 = .ok (.iconst (-1), 1) := by decide +kernel
theorem dX7_shown_11 : decode cX7_shown 11 = .ok (.ireturn, 1) := by decide +kernel
theorem dX7_shown_12 : decode cX7_shown 12 = .ok (.aload_n 0, 1) := by decide +kernel
theorem dX7_shown_13 : decode cX7_shown 13 = .ok (.getfield 23, 3) := by decide +kernel
theorem dX7_shown_16 : decode cX7_shown 16 = .ok (.iload_n 1, 1) := by decide +kernel
theorem dX7_shown_17 : decode cX7_shown 17 = .ok (.aaload, 1) := by decide +kernel
theorem dX7_shown_18 : decode cX7_shown 18 = .ok (.getfield 124, 3) := by decide +kernel
theorem dX7_shown_21 : decode cX7_shown 21 = .ok (.iload_n 2, 1) := by decide +kernel
theorem dX7_shown_22 : decode cX7_shown 22 = .ok (.aaload, 1) := by decide +kernel
theorem dX7_shown_23 : decode cX7_shown 23 = .ok (.getfield 140, 3) := by decide +kernel
theorem dX7_shown_26 : decode cX7_shown 26 = .ok (.iload_n 3, 1) := by decide +kernel
theorem dX7_shown_27 : decode cX7_shown 27 = .ok (.aaload, 1) := by decide +kernel
theorem dX7_shown_28 : decode cX7_shown 28 = .ok (.astore 5, 2) := by decide +kernel
theorem dX7_shown_30 : decode cX7_shown 30 = .ok (.iload 4, 2) := by decide +kernel
theorem dX7_shown_32 : decode cX7_shown 32 = .ok (.iconst (-1), 1) := by decide +kernel
theorem dX7_shown_33 : decode cX7_shown 33 = .ok (.if_icmp .ne 11, 3) := by decide +kernel
theorem dX7_shown_36 : decode cX7_shown 36 = .ok (.aload 5, 2) := by decide +kernel
theorem dX7_shown_38 : decode cX7_shown 38 = .ok (.getfield 163, 3) := by decide +kernel
theorem dX7_shown_41 : decode cX7_shown 41 = .ok (.goto 10, 3) := by decide +kernel
theorem dX7_shown_44 : decode cX7_shown 44 = .ok (.aload 5, 2) := by decide +kernel
theorem dX7_shown_46 : decode cX7_shown 46 = .ok (.iload 4, 2) := by decide +kernel
theorem dX7_shown_48 : decode cX7_shown 48 = .ok (.invokevirtual 166, 3) := by decide +kernel
theorem dX7_shown_51 : decode cX7_shown 51 = .ok (.ireturn, 1) := by decide +kernel
def rm_X7_shown : Room := { frames := 3, cells := 0, slots := 0, locals := 66 }
def fn_X7_shown (b : Nat) (σ : Sg) (x1 : Int32) (x2 : Int32) (x3 : Int32) (x4 : Int32) : Option (Int32) :=
  ((fn_X7_hasSubfield b σ x1 x2 x3).bind fun r1 =>
  (if r1 = 0 then
  some (-1)
  else (if sg_ib x1 6 then
  (if sg_ib x2 8 then
  (if sg_ib x3 4 then
  (sg_lt (((σ.2 ((b + 10 + 147 * sg_x x1) + 2) (sg_x x2)) + 2 + 4 * sg_x x3) : Nat) fun a5 =>
  (if x4 = (-1) then
  some (σ.1 a5 3)
  else ((fn_X5_codeAt b σ a5 x4).bind fun r6 =>
  some r6)))
  else none)
  else none)
  else none)))
set_option maxHeartbeats 4000000 in
set_option maxRecDepth 100000 in
theorem w_X7_shown_B0 {p : Program} {l : Launch} {e : Env} {s : State} {m : MethodId} {args : Array Value} {below : List Frame} {meth : Method} {c : Code} {Q : State → Prop} {D : va_G} {κ : Nat → ClassId} {b : Nat} {H0 : Heap} {rr : Int32} {σ : Sg} (hZ : sg_Z p c s m args D κ cX7_shown 6 RX7 wsX7_shown) (hret : ∀ (v : Int32) (H : Heap) (locs : List Loc) (pc : Nat) (ls : Array Slot), some v = some rr → CW D κ b σ H → va_S (sg_A b 892) H0 H locs → decode cX7_shown pc = .ok (.ireturn, 1) → W p l e rm_X7_shown s m args below meth c H locs 0 0 Q (F0 m pc ls [.int v])) : ∀ {x1 : Int32} {x2 : Int32} {x3 : Int32} {x4 : Int32} {H : Heap} {locs : List Loc} {ls : Array Slot}, fn_X7_shown b σ x1 x2 x3 x4 = some rr → lv_has ls 6 [(0, .ref b), (1, .int x1), (2, .int x2), (3, .int x3), (4, .int x4)] → CW D κ b σ H → va_S (sg_A b 892) H0 H locs → W p l e rm_X7_shown s m args below meth c H locs 0 0 Q (F0 m 0 ls []) := by
  obtain ⟨hx, hb, hml, hown, hts, hK⟩ := hZ
  intro x1 x2 x3 x4 H locs ls h hl hC hS
  unfold fn_X7_shown at h
  refine lv_aload_n hx hb dX7_shown_0 rfl (lv_at hl 0 rfl) ?_
  refine lv_iload_n hx hb dX7_shown_1 rfl (lv_at hl 1 rfl) ?_
  refine lv_iload_n hx hb dX7_shown_2 rfl (lv_at hl 2 rfl) ?_
  refine lv_iload_n hx hb dX7_shown_3 rfl (lv_at hl 3 rfl) ?_
  obtain ⟨r1, er1, h⟩ := Option.bind_eq_some_iff.mp h
  refine va_calli (va_runV (As := [.int x1, .int x2, .int x3]) (rest := []) ⟨hx, hb, hml, hown, hts⟩ (c_X7_hasSubfield l D κ b σ x1 x2 x3 _ er1) (cwV 3 hts (gwV wt_472 wt_474 wp_19 wt_1 wt_475) rfl rfl rfl (by decide +kernel) ⟨Nat.le_of_ble_eq_true rfl, Nat.le_of_ble_eq_true rfl⟩) (CW_preV hK hC sg_gShelf rfl) rfl rfl hl.1 rfl (lv_room (Nat.le_of_ble_eq_true rfl)) dX7_shown_4 ⟨Nat.zero_le _, Nat.zero_le _⟩) hS (fun _ _ h => h) (fun _ h => h) (fun r u t H locs ht _ hp hB _ _ hS => ?_)
  refine sg_topi hp.1 ?_
  have hC : CW D κ b σ H := CW_b hB ht hp.2
  refine lv_if_ne (tgt := 12) hx hb dX7_shown_7 (by decide) (fun hc => ?_) (fun hc => ?_)
  · replace h := (if_neg hc).symm.trans h
    refine lv_aload_n hx hb dX7_shown_12 rfl (lv_at hl 0 rfl) ?_
    refine va_get (D := D) (ci := 7) (v := .ref (b + 5)) (C := RX7) (T := TX7) (N := 6) hx hb hts (wqs inW_X7) hown hK.1 hC.1 (b - b) sg_gShelf rfl 2 (by decide) (hts _ (wq wt_194)) (fun _ h9 => h9) rfl dX7_shown_13 ?_
    refine lv_iload_n hx hb dX7_shown_16 rfl (lv_at hl 1 rfl) ?_
    obtain ⟨hg, h⟩ := sg_gd h
    refine va_aldq (C := "RecordShelf$Card") hx hb hK.1 hC.1 ((b + 5) - b) 2 sg_gcards rfl (sg_in hg) dX7_shown_17 ?_
    have hv2 := sg_vCard (b := b) hg
    refine W.eq (g2 := F0 m 18 ls [.ref (b + 10 + 147 * sg_x x1)]) rfl ?_
    refine va_getN (D := D) (ci := 0) (v := .ref ((b + 10 + 147 * sg_x x1) + 2)) (C := RX0) (T := TX0) (N := 3) hx hb hts (wqs inW_X0) hown hK.1 hC.1 ((b + 10 + 147 * sg_x x1) - b) (sg_gCard hv2) rfl 1 (by decide) (nf_27 hK) (fun _ h9 => h9) rfl dX7_shown_18 ?_
    refine lv_iload_n hx hb dX7_shown_21 rfl (lv_at hl 2 rfl) ?_
    obtain ⟨hg, h⟩ := sg_gd h
    refine va_aldq (C := "RecordShelf$Field") hx hb hK.1 hC.1 (((b + 10 + 147 * sg_x x1) + 2) - b) 3 (sg_gfields hv2) rfl (sg_in hg) dX7_shown_22 ?_
    have hv3 := hC.2 _ hv2 _ hg.2
    refine W.eq (g2 := F0 m 23 ls [.ref (σ.2 ((b + 10 + 147 * sg_x x1) + 2) (sg_x x2))]) rfl ?_
    refine va_getN (D := D) (ci := 1) (v := .ref ((σ.2 ((b + 10 + 147 * sg_x x1) + 2) (sg_x x2)) + 1)) (C := RX1) (T := TX1) (N := 5) hx hb hts (wqs inW_X1) hown hK.1 hC.1 ((σ.2 ((b + 10 + 147 * sg_x x1) + 2) (sg_x x2)) - b) (sg_gField hv3) rfl 0 (by decide) (nf_14 hK) (fun _ h9 => h9) rfl dX7_shown_23 ?_
    refine lv_iload_n hx hb dX7_shown_26 rfl (lv_at hl 3 rfl) ?_
    obtain ⟨hg, h⟩ := sg_gd h
    refine va_aldq (C := "RecordShelf$Subfield") hx hb hK.1 hC.1 (((σ.2 ((b + 10 + 147 * sg_x x1) + 2) (sg_x x2)) + 1) - b) 4 (sg_gsubs hv3) rfl (sg_in hg) dX7_shown_27 ?_
    have hv4 := sg_vSub hv3 hg
    refine W.eq (g2 := F0 m 28 ls [.ref ((σ.2 ((b + 10 + 147 * sg_x x1) + 2) (sg_x x2)) + 2 + 4 * sg_x x3)]) rfl ?_
    obtain ⟨a5, ea5, h⟩ := sg_lte h
    have ha5 := ea5 ▸ hv4
    refine sg_topr ea5 ?_
    refine lv_astore (lv' := [(5, .ref a5), (0, .ref b), (1, .int x1), (2, .int x2), (3, .int x3), (4, .int x4)]) hx hb dX7_shown_28 hl (by decide) rfl (fun ls hl => ?_)
    refine lv_iload hx hb dX7_shown_30 (lv_at hl 5 rfl) ?_
    refine lv_iconst (v := (-1)) hx hb dX7_shown_32 (by decide) ?_
    refine lv_icmp_ne (tgt := 44) hx hb dX7_shown_33 (by decide) (fun hc => ?_) (fun hc => ?_)
    · replace h := (if_neg hc).symm.trans h
      refine lv_aload hx hb dX7_shown_44 (lv_at hl 0 rfl) ?_
      refine lv_iload hx hb dX7_shown_46 (lv_at hl 5 rfl) ?_
      obtain ⟨r6, er6, h⟩ := Option.bind_eq_some_iff.mp h
      refine va_calli (va_runV (As := [.int x4]) (rest := []) ⟨hx, hb, hml, hown, hts⟩ (c_X5_codeAt l D κ b σ a5 x4 _ ha5 er6) (cwV 1 hts (gwV wt_554 wt_555 wt_556 wt_8 wt_557) rfl rfl rfl (by decide +kernel) ⟨Nat.le_of_ble_eq_true rfl, Nat.le_of_ble_eq_true rfl⟩) (CW_preV hK hC (sg_gSub ha5) rfl) rfl rfl hl.1 rfl (lv_room (Nat.le_of_ble_eq_true rfl)) dX7_shown_48 ⟨Nat.zero_le _, Nat.zero_le _⟩) hS (fun _ _ h => h) (fun _ h => h) (fun r u t H locs ht _ hp hB _ _ hS => ?_)
      refine sg_topi hp.1 ?_
      have hC : CW D κ b σ H := CW_b hB ht hp.2
      exact hret _ _ _ _ _ h hC hS dX7_shown_51
    · replace h := (if_pos hc).symm.trans h
      refine lv_aload hx hb dX7_shown_36 (lv_at hl 0 rfl) ?_
      refine va_getN (D := D) (ci := 5) (v := .int (σ.1 a5 3)) (C := RX5) (T := TX5) (N := 4) hx hb hts (wqs inW_X5) hown hK.1 hC.1 (a5 - b) (sg_gSub ha5) rfl 3 (by decide) (nf_12 hK) (fun _ h9 => h9) rfl dX7_shown_38 ?_
      refine lv_goto (tgt := 51) hx hb dX7_shown_41 (by decide) ?_
      exact hret _ _ _ _ _ h hC hS dX7_shown_51
  · replace h := (if_pos hc).symm.trans h
    refine lv_iconst (v := (-1)) hx hb dX7_shown_10 (by decide) ?_
    exact hret _ _ _ _ _ h hC hS dX7_shown_11
set_option maxHeartbeats 4000000 in
set_option maxRecDepth 100000 in
theorem c_X7_shown (l : Launch) (D : va_G) (κ : Nat → ClassId) (b : Nat) (σ : Sg) (x1 : Int32) (x2 : Int32) (x3 : Int32) (x4 : Int32) (rr : Int32)  (h : fn_X7_shown b σ x1 x2 x3 x4 = some rr) : Met l yX7_shown wsX7_shown rm_X7_shown (va_Pc [.ref b, .int x1, .int x2, .int x3, .int x4] (fun U => KK D κ U ∧ CW D κ b σ U.heap)) (va_Qi (fun (r : Int32) (u : Sg) => r = rr ∧ u = σ) (fun u t => CW D κ b u t.heap) (sg_A b 892)) 0 0 (sg_A b 892) := by
  refine Met.ofW (cc := cX7_shown) (maxL := 6) (ret := (some .int)) (by decide) rfl ?_
  intro p e s m args below meth c s₁ B hml hv
  obtain ⟨rfl, hK, hC⟩ := hv
  have hr := B.returns
  have hlocks := B.notSynchronized
  have hl := lv_entry ([.ref b, .int x1, .int x2, .int x3, .int x4]) (n := 6) (Nat.le_of_ble_eq_true rfl)
  rw [lg_entry_eq]
  generalize (lg_sl ([.ref b, .int x1, .int x2, .int x3, .int x4]) ++ List.replicate (6 - (lg_sl ([.ref b, .int x1, .int x2, .int x3, .int x4])).length) Slot.unset).toArray = ls at hl ⊢
  have hl : lv_has ls 6 [(0, .ref b), (1, .int x1), (2, .int x2), (3, .int x3), (4, .int x4)] := hl
  exact w_X7_shown_B0 ⟨B.exec, B.bytes, hml, findClass_of_methodNamed B.named, atoms_spec (ws := wsX7_shown) B.pre, hK⟩ (fun v H locs pc ls hq hC hS hd => W.iret B.exec B.bytes hr (fun t ht hW => ⟨⟨v, _, rfl, ⟨Option.some.inj hq, rfl⟩, CW_e ht hC⟩, hS.F ht⟩) hS.2.2 hd) h  hl hC va_S.rf

-- RecordShelf.list(IC)I
theorem dX7_list_0 : decode cX7_list 0 = .ok (.aload_n 0, 1) := by decide +kernel
theorem dX7_list_1 : decode cX7_list 1 = .ok (.getfield 30, 3) := by decide +kernel
theorem dX7_list_4 : decode cX7_list 4 = .ok (.invokevirtual 167, 3) := by decide +kernel
theorem dX7_list_7 : decode cX7_list 7 = .ok (.iload_n 1, 1) := by decide +kernel
theorem dX7_list_8 : decode cX7_list 8 = .ok (.iconst 1, 1) := by decide +kernel
theorem dX7_list_9 : decode cX7_list 9 = .ok (.if_icmp .lt 10, 3) := by decide +kernel
theorem dX7_list_12 : decode cX7_list 12 = .ok (.iload_n 1, 1) := by decide +kernel
theorem dX7_list_13 : decode cX7_list 13 = .ok (.sipush 999, 3) := by decide +kernel
theorem dX7_list_16 : decode cX7_list 16 = .ok (.if_icmp .le 5, 3) := by decide +kernel
theorem dX7_list_19 : decode cX7_list 19 = .ok (.iconst (-1), 1) := by decide +kernel
theorem dX7_list_20 : decode cX7_list 20 = .ok (.ireturn, 1) := by decide +kernel
theorem dX7_list_21 : decode cX7_list 21 = .ok (.iconst 0, 1) := by decide +kernel
theorem dX7_list_22 : decode cX7_list 22 = .ok (.istore_n 3, 1) := by decide +kernel
theorem dX7_list_23 : decode cX7_list 23 = .ok (.iload_n 3, 1) := by decide +kernel
theorem dX7_list_24 : decode cX7_list 24 = .ok (.aload_n 0, 1) := by decide +kernel
theorem dX7_list_25 : decode cX7_list 25 = .ok (.getfield 72, 3) := by decide +kernel
theorem dX7_list_28 : decode cX7_list 28 = .ok (.if_icmp .ge 66, 3) := by decide +kernel
theorem dX7_list_31 : decode cX7_list 31 = .ok (.iconst 0, 1) := by decide +kernel
theorem dX7_list_32 : decode cX7_list 32 = .ok (.istore 4, 2) := by decide +kernel
theorem dX7_list_34 : decode cX7_list 34 = .ok (.iload 4, 2) := by decide +kernel
theorem dX7_list_36 : decode cX7_list 36 = .ok (.aload_n 0, 1) := by decide +kernel
theorem dX7_list_37 : decode cX7_list 37 = .ok (.getfield 23, 3) := by decide +kernel
theorem dX7_list_40 : decode cX7_list 40 = .ok (.iload_n 3, 1) := by decide +kernel
theorem dX7_list_41 : decode cX7_list 41 = .ok (.aaload, 1) := by decide +kernel
theorem dX7_list_42 : decode cX7_list 42 = .ok (.getfield 114, 3) := by decide +kernel
theorem dX7_list_45 : decode cX7_list 45 = .ok (.if_icmp .ge 43, 3) := by decide +kernel
theorem dX7_list_48 : decode cX7_list 48 = .ok (.aload_n 0, 1) := by decide +kernel
theorem dX7_list_49 : decode cX7_list 49 = .ok (.getfield 23, 3) := by decide +kernel
theorem dX7_list_52 : decode cX7_list 52 = .ok (.iload_n 3, 1) := by decide +kernel
theorem dX7_list_53 : decode cX7_list 53 = .ok (.aaload, 1) := by decide +kernel
theorem dX7_list_54 : decode cX7_list 54 = .ok (.getfield 124, 3) := by decide +kernel
theorem dX7_list_57 : decode cX7_list 57 = .ok (.iload 4, 2) := by decide +kernel
theorem dX7_list_59 : decode cX7_list 59 = .ok (.aaload, 1) := by decide +kernel
theorem dX7_list_60 : decode cX7_list 60 = .ok (.getfield 160, 3) := by decide +kernel
theorem dX7_list_63 : decode cX7_list 63 = .ok (.iload_n 1, 1) := by decide +kernel
theorem dX7_list_64 : decode cX7_list 64 = .ok (.if_icmp .ne 18, 3) := by decide +kernel
theorem dX7_list_67 : decode cX7_list 67 = .ok (.aload_n 0, 1) := by decide +kernel
theorem dX7_list_68 : decode cX7_list 68 = .ok (.getfield 30, 3) := by decide +kernel
theorem dX7_list_71 : decode cX7_list 71 = .ok (.aload_n 0, 1) := by decide +kernel
theorem dX7_list_72 : decode cX7_list 72 = .ok (.getfield 23, 3) := by decide +kernel
theorem dX7_list_75 : decode cX7_list 75 = .ok (.iload_n 3, 1) := by decide +kernel
theorem dX7_list_76 : decode cX7_list 76 = .ok (.iload 4, 2) := by decide +kernel
theorem dX7_list_78 : decode cX7_list 78 = .ok (.iload_n 2, 1) := by decide +kernel
theorem dX7_list_79 : decode cX7_list 79 = .ok (.invokevirtual 170, 3) := by decide +kernel
theorem dX7_list_82 : decode cX7_list 82 = .ok (.iinc 4 1, 3) := by decide +kernel
theorem dX7_list_85 : decode cX7_list 85 = .ok (.goto (-51), 3) := by decide +kernel
theorem dX7_list_88 : decode cX7_list 88 = .ok (.iinc 3 1, 3) := by decide +kernel
theorem dX7_list_91 : decode cX7_list 91 = .ok (.goto (-68), 3) := by decide +kernel
theorem dX7_list_94 : decode cX7_list 94 = .ok (.aload_n 0, 1) := by decide +kernel
theorem dX7_list_95 : decode cX7_list 95 = .ok (.getfield 30, 3) := by decide +kernel
theorem dX7_list_98 : decode cX7_list 98 = .ok (.getfield 174, 3) := by decide +kernel
theorem dX7_list_101 : decode cX7_list 101 = .ok (.ireturn, 1) := by decide +kernel
def rm_X7_list : Room := { frames := 5, cells := 0, slots := 0, locals := 118 }
def fn_X7_list_B82 (b : Nat) (z23 : Sg → Int32 → Int32 → Int32 → Option (Int32 × Sg)) (z34 : Sg → Int32 → Int32 → Int32 → Int32 → Option (Int32 × Sg)) (σ : Sg) (x1 : Int32) (x2 : Int32) (x3 : Int32) (x4 : Int32) : Option (Int32 × Sg) :=
  (sg_lt (x4 + 1 : Int32) fun v1 =>
  z34 σ x1 x2 x3 v1)
set_option maxHeartbeats 4000000 in
set_option maxRecDepth 100000 in
theorem w_X7_list_B82 {p : Program} {l : Launch} {e : Env} {s : State} {m : MethodId} {args : Array Value} {below : List Frame} {meth : Method} {c : Code} {Q : State → Prop} {D : va_G} {κ : Nat → ClassId} {b : Nat} {H0 : Heap} {rr : Int32 × Sg} (hZ : sg_Z p c s m args D κ cX7_list 5 RX7 wsX7_list) (hret : ∀ (v : Int32) (u : Sg) (H : Heap) (locs : List Loc) (pc : Nat) (ls : Array Slot), some (v, u) = some rr → CW D κ b u H → va_S (sg_A b 892) H0 H locs → decode cX7_list pc = .ok (.ireturn, 1) → W p l e rm_X7_list s m args below meth c H locs 0 0 Q (F0 m pc ls [.int v])) {z23 : Sg → Int32 → Int32 → Int32 → Option (Int32 × Sg)} (hr23 : ∀ {σ : Sg} {x1 : Int32} {x2 : Int32} {x3 : Int32} {H : Heap} {locs : List Loc} {ls : Array Slot}, z23 σ x1 x2 x3 = some rr → lv_has ls 5 [(0, .ref b), (1, .int x1), (2, .int x2), (3, .int x3)] → CW D κ b σ H → va_S (sg_A b 892) H0 H locs → W p l e rm_X7_list s m args below meth c H locs 0 0 Q (F0 m 23 ls [])) {z34 : Sg → Int32 → Int32 → Int32 → Int32 → Option (Int32 × Sg)} (hr34 : ∀ {σ : Sg} {x1 : Int32} {x2 : Int32} {x3 : Int32} {x4 : Int32} {H : Heap} {locs : List Loc} {ls : Array Slot}, z34 σ x1 x2 x3 x4 = some rr → lv_has ls 5 [(0, .ref b), (1, .int x1), (2, .int x2), (3, .int x3), (4, .int x4)] → CW D κ b σ H → va_S (sg_A b 892) H0 H locs → W p l e rm_X7_list s m args below meth c H locs 0 0 Q (F0 m 34 ls [])) : ∀ {σ : Sg} {x1 : Int32} {x2 : Int32} {x3 : Int32} {x4 : Int32} {H : Heap} {locs : List Loc} {ls : Array Slot}, fn_X7_list_B82 b z23 z34 σ x1 x2 x3 x4 = some rr → lv_has ls 5 [(0, .ref b), (1, .int x1), (2, .int x2), (3, .int x3), (4, .int x4)] → CW D κ b σ H → va_S (sg_A b 892) H0 H locs → W p l e rm_X7_list s m args below meth c H locs 0 0 Q (F0 m 82 ls []) := by
  obtain ⟨hx, hb, hml, hown, hts, hK⟩ := hZ
  intro σ x1 x2 x3 x4 H locs ls h hl hC hS
  unfold fn_X7_list_B82 at h
  obtain ⟨v1, ev1, h⟩ := sg_lte h
  refine lv_iinc (v := v1) (lv' := [(4, .int v1), (0, .ref b), (1, .int x1), (2, .int x2), (3, .int x3)]) (k := 4) hx hb dX7_list_82 hl rfl (sg_inc (by decide) ev1) (by decide) rfl (fun ls hl => ?_)
  refine lv_goto (tgt := 34) hx hb dX7_list_85 (by decide) ?_
  exact hr34 h (lv_sub hl [1, 2, 3, 4, 0] rfl) hC hS
def fn_X7_list_B34b (b : Nat) (z23 : Sg → Int32 → Int32 → Int32 → Option (Int32 × Sg)) (z34 : Sg → Int32 → Int32 → Int32 → Int32 → Option (Int32 × Sg)) (σ : Sg) (x1 : Int32) (x2 : Int32) (x3 : Int32) (x4 : Int32) : Option (Int32 × Sg) :=
  (if sg_ib x3 6 then
  (if ((σ.1 (b + 10 + 147 * sg_x x3) 2) : Int32) ≤ x4 then
  (sg_lt (x3 + 1 : Int32) fun v2 =>
  z23 σ x1 x2 v2)
  else (if sg_ib x3 6 then
  (if sg_ib x4 8 then
  (if (σ.1 (σ.2 ((b + 10 + 147 * sg_x x3) + 2) (sg_x x4)) 2) = x1 then
  ((fn_X2_addAll b σ x3 x4 x2).bind fun r5 =>
  fn_X7_list_B82 b z23 z34 r5 x1 x2 x3 x4)
  else fn_X7_list_B82 b z23 z34 σ x1 x2 x3 x4)
  else none)
  else none))
  else none)
def fn_X7_list_B34 (b : Nat) (z23 : Sg → Int32 → Int32 → Int32 → Option (Int32 × Sg)) : Nat → Sg → Int32 → Int32 → Int32 → Int32 → Option (Int32 × Sg)
  | 0 => fun _ _ _ _ _ => none
  | n + 1 => fun σ x1 x2 x3 x4 => fn_X7_list_B34b b z23 (fn_X7_list_B34 b z23 n) σ x1 x2 x3 x4
set_option maxHeartbeats 4000000 in
set_option maxRecDepth 100000 in
theorem w_X7_list_B34b {p : Program} {l : Launch} {e : Env} {s : State} {m : MethodId} {args : Array Value} {below : List Frame} {meth : Method} {c : Code} {Q : State → Prop} {D : va_G} {κ : Nat → ClassId} {b : Nat} {H0 : Heap} {rr : Int32 × Sg} (hZ : sg_Z p c s m args D κ cX7_list 5 RX7 wsX7_list) (hret : ∀ (v : Int32) (u : Sg) (H : Heap) (locs : List Loc) (pc : Nat) (ls : Array Slot), some (v, u) = some rr → CW D κ b u H → va_S (sg_A b 892) H0 H locs → decode cX7_list pc = .ok (.ireturn, 1) → W p l e rm_X7_list s m args below meth c H locs 0 0 Q (F0 m pc ls [.int v])) {z23 : Sg → Int32 → Int32 → Int32 → Option (Int32 × Sg)} (hr23 : ∀ {σ : Sg} {x1 : Int32} {x2 : Int32} {x3 : Int32} {H : Heap} {locs : List Loc} {ls : Array Slot}, z23 σ x1 x2 x3 = some rr → lv_has ls 5 [(0, .ref b), (1, .int x1), (2, .int x2), (3, .int x3)] → CW D κ b σ H → va_S (sg_A b 892) H0 H locs → W p l e rm_X7_list s m args below meth c H locs 0 0 Q (F0 m 23 ls [])) {z34 : Sg → Int32 → Int32 → Int32 → Int32 → Option (Int32 × Sg)} (hr34 : ∀ {σ : Sg} {x1 : Int32} {x2 : Int32} {x3 : Int32} {x4 : Int32} {H : Heap} {locs : List Loc} {ls : Array Slot}, z34 σ x1 x2 x3 x4 = some rr → lv_has ls 5 [(0, .ref b), (1, .int x1), (2, .int x2), (3, .int x3), (4, .int x4)] → CW D κ b σ H → va_S (sg_A b 892) H0 H locs → W p l e rm_X7_list s m args below meth c H locs 0 0 Q (F0 m 34 ls [])) : ∀ {σ : Sg} {x1 : Int32} {x2 : Int32} {x3 : Int32} {x4 : Int32} {H : Heap} {locs : List Loc} {ls : Array Slot}, fn_X7_list_B34b b z23 z34 σ x1 x2 x3 x4 = some rr → lv_has ls 5 [(0, .ref b), (1, .int x1), (2, .int x2), (3, .int x3), (4, .int x4)] → CW D κ b σ H → va_S (sg_A b 892) H0 H locs → W p l e rm_X7_list s m args below meth c H locs 0 0 Q (F0 m 34 ls []) := by
  obtain ⟨hx, hb, hml, hown, hts, hK⟩ := hZ
  intro σ x1 x2 x3 x4 H locs ls h hl hC hS
  unfold fn_X7_list_B34b at h
  refine lv_iload hx hb dX7_list_34 (lv_at hl 4 rfl) ?_
  refine lv_aload_n hx hb dX7_list_36 rfl (lv_at hl 0 rfl) ?_
  refine va_get (D := D) (ci := 7) (v := .ref (b + 5)) (C := RX7) (T := TX7) (N := 6) hx hb hts (wqs inW_X7) hown hK.1 hC.1 (b - b) sg_gShelf rfl 2 (by decide) (hts _ (wq wt_194)) (fun _ h9 => h9) rfl dX7_list_37 ?_
  refine lv_iload_n hx hb dX7_list_40 rfl (lv_at hl 3 rfl) ?_
  obtain ⟨hg, h⟩ := sg_gd h
  refine va_aldq (C := "RecordShelf$Card") hx hb hK.1 hC.1 ((b + 5) - b) 2 sg_gcards rfl (sg_in hg) dX7_list_41 ?_
  have hv1 := sg_vCard (b := b) hg
  refine W.eq (g2 := F0 m 42 ls [.ref (b + 10 + 147 * sg_x x3), .int x4]) rfl ?_
  refine va_getN (D := D) (ci := 0) (v := .int (σ.1 (b + 10 + 147 * sg_x x3) 2)) (C := RX0) (T := TX0) (N := 3) hx hb hts (wqs inW_X0) hown hK.1 hC.1 ((b + 10 + 147 * sg_x x3) - b) (sg_gCard hv1) rfl 2 (by decide) (nf_29 hK) (fun _ h9 => h9) rfl dX7_list_42 ?_
  refine lv_icmp_ge (tgt := 88) hx hb dX7_list_45 (by decide) (fun hc => ?_) (fun hc => ?_)
  · replace h := (if_pos hc).symm.trans h
    obtain ⟨v2, ev2, h⟩ := sg_lte h
    refine lv_iinc (v := v2) (lv' := [(3, .int v2), (0, .ref b), (1, .int x1), (2, .int x2), (4, .int x4)]) (k := 3) hx hb dX7_list_88 hl rfl (sg_inc (by decide) ev2) (by decide) rfl (fun ls hl => ?_)
    refine lv_goto (tgt := 23) hx hb dX7_list_91 (by decide) ?_
    exact hr23 h (lv_sub hl [1, 2, 3, 0] rfl) hC hS
  · replace h := (if_neg hc).symm.trans h
    refine lv_aload_n hx hb dX7_list_48 rfl (lv_at hl 0 rfl) ?_
    refine va_get (D := D) (ci := 7) (v := .ref (b + 5)) (C := RX7) (T := TX7) (N := 6) hx hb hts (wqs inW_X7) hown hK.1 hC.1 (b - b) sg_gShelf rfl 2 (by decide) (hts _ (wq wt_194)) (fun _ h9 => h9) rfl dX7_list_49 ?_
    refine lv_iload_n hx hb dX7_list_52 rfl (lv_at hl 3 rfl) ?_
    obtain ⟨hg, h⟩ := sg_gd h
    refine va_aldq (C := "RecordShelf$Card") hx hb hK.1 hC.1 ((b + 5) - b) 2 sg_gcards rfl (sg_in hg) dX7_list_53 ?_
    have hv3 := sg_vCard (b := b) hg
    refine W.eq (g2 := F0 m 54 ls [.ref (b + 10 + 147 * sg_x x3)]) rfl ?_
    refine va_getN (D := D) (ci := 0) (v := .ref ((b + 10 + 147 * sg_x x3) + 2)) (C := RX0) (T := TX0) (N := 3) hx hb hts (wqs inW_X0) hown hK.1 hC.1 ((b + 10 + 147 * sg_x x3) - b) (sg_gCard hv3) rfl 1 (by decide) (nf_27 hK) (fun _ h9 => h9) rfl dX7_list_54 ?_
    refine lv_iload hx hb dX7_list_57 (lv_at hl 4 rfl) ?_
    obtain ⟨hg, h⟩ := sg_gd h
    refine va_aldq (C := "RecordShelf$Field") hx hb hK.1 hC.1 (((b + 10 + 147 * sg_x x3) + 2) - b) 3 (sg_gfields hv3) rfl (sg_in hg) dX7_list_59 ?_
    have hv4 := hC.2 _ hv3 _ hg.2
    refine W.eq (g2 := F0 m 60 ls [.ref (σ.2 ((b + 10 + 147 * sg_x x3) + 2) (sg_x x4))]) rfl ?_
    refine va_getN (D := D) (ci := 1) (v := .int (σ.1 (σ.2 ((b + 10 + 147 * sg_x x3) + 2) (sg_x x4)) 2)) (C := RX1) (T := TX1) (N := 5) hx hb hts (wqs inW_X1) hown hK.1 hC.1 ((σ.2 ((b + 10 + 147 * sg_x x3) + 2) (sg_x x4)) - b) (sg_gField hv4) rfl 2 (by decide) (nf_20 hK) (fun _ h9 => h9) rfl dX7_list_60 ?_
    refine lv_iload_n hx hb dX7_list_63 rfl (lv_at hl 1 rfl) ?_
    refine lv_icmp_ne (tgt := 82) hx hb dX7_list_64 (by decide) (fun hc => ?_) (fun hc => ?_)
    · replace h := (if_neg hc).symm.trans h
      exact w_X7_list_B82 ⟨hx, hb, hml, hown, hts, hK⟩ hret hr23 hr34 h (lv_sub hl [0, 1, 2, 3, 4] rfl) hC hS
    · replace h := (if_pos hc).symm.trans h
      refine lv_aload_n hx hb dX7_list_67 rfl (lv_at hl 0 rfl) ?_
      refine va_get (D := D) (ci := 7) (v := .ref (b + 6)) (C := RX7) (T := TX7) (N := 6) hx hb hts (wqs inW_X7) hown hK.1 hC.1 (b - b) sg_gShelf rfl 3 (by decide) (hts _ (wq wt_195)) (fun _ h9 => h9) rfl dX7_list_68 ?_
      refine lv_aload_n hx hb dX7_list_71 rfl (lv_at hl 0 rfl) ?_
      refine va_get (D := D) (ci := 7) (v := .ref (b + 5)) (C := RX7) (T := TX7) (N := 6) hx hb hts (wqs inW_X7) hown hK.1 hC.1 (b - b) sg_gShelf rfl 2 (by decide) (hts _ (wq wt_194)) (fun _ h9 => h9) rfl dX7_list_72 ?_
      refine lv_iload_n hx hb dX7_list_75 rfl (lv_at hl 3 rfl) ?_
      refine lv_iload hx hb dX7_list_76 (lv_at hl 4 rfl) ?_
      refine lv_iload_n hx hb dX7_list_78 rfl (lv_at hl 2 rfl) ?_
      obtain ⟨r5, er5, h⟩ := Option.bind_eq_some_iff.mp h
      refine va_callv (va_runV (As := [.ref (b + 5), .int x3, .int x4, .int x2]) (rest := []) ⟨hx, hb, hml, hown, hts⟩ (c_X2_addAll l D κ b σ x3 x4 x2 _ er5) (cwV 4 hts (gwV wt_566 wt_567 wt_568 wt_4 wt_569) rfl rfl rfl (by decide +kernel) ⟨Nat.le_of_ble_eq_true rfl, Nat.le_of_ble_eq_true rfl⟩) (CW_preV hK hC sg_gHeadings rfl) rfl rfl hl.1 rfl (lv_room (Nat.le_of_ble_eq_true rfl)) dX7_list_79 ⟨Nat.zero_le _, Nat.zero_le _⟩) hS (fun _ _ h => h) (fun _ h => h) (fun u t H locs ht _ hp hB _ _ hS => ?_)
      have hC : CW D κ b r5 H := CW_b hB ht hp
      exact w_X7_list_B82 ⟨hx, hb, hml, hown, hts, hK⟩ hret hr23 hr34 h (lv_sub hl [0, 1, 2, 3, 4] rfl) hC hS
set_option maxHeartbeats 4000000 in
theorem w_X7_list_B34 {p : Program} {l : Launch} {e : Env} {s : State} {m : MethodId} {args : Array Value} {below : List Frame} {meth : Method} {c : Code} {Q : State → Prop} {D : va_G} {κ : Nat → ClassId} {b : Nat} {H0 : Heap} {rr : Int32 × Sg} (hZ : sg_Z p c s m args D κ cX7_list 5 RX7 wsX7_list) (hret : ∀ (v : Int32) (u : Sg) (H : Heap) (locs : List Loc) (pc : Nat) (ls : Array Slot), some (v, u) = some rr → CW D κ b u H → va_S (sg_A b 892) H0 H locs → decode cX7_list pc = .ok (.ireturn, 1) → W p l e rm_X7_list s m args below meth c H locs 0 0 Q (F0 m pc ls [.int v])) {z23 : Sg → Int32 → Int32 → Int32 → Option (Int32 × Sg)} (hr23 : ∀ {σ : Sg} {x1 : Int32} {x2 : Int32} {x3 : Int32} {H : Heap} {locs : List Loc} {ls : Array Slot}, z23 σ x1 x2 x3 = some rr → lv_has ls 5 [(0, .ref b), (1, .int x1), (2, .int x2), (3, .int x3)] → CW D κ b σ H → va_S (sg_A b 892) H0 H locs → W p l e rm_X7_list s m args below meth c H locs 0 0 Q (F0 m 23 ls [])) : ∀ n : Nat, ∀ {σ : Sg} {x1 : Int32} {x2 : Int32} {x3 : Int32} {x4 : Int32} {H : Heap} {locs : List Loc} {ls : Array Slot}, fn_X7_list_B34 b z23 n σ x1 x2 x3 x4 = some rr → lv_has ls 5 [(0, .ref b), (1, .int x1), (2, .int x2), (3, .int x3), (4, .int x4)] → CW D κ b σ H → va_S (sg_A b 892) H0 H locs → W p l e rm_X7_list s m args below meth c H locs 0 0 Q (F0 m 34 ls []) := by
  intro n
  induction n with
  | zero => intro σ x1 x2 x3 x4 H locs ls h hl hC hS; cases (show (none : Option (Int32 × Sg)) = some rr from h)
  | succ n ih =>
    intro σ x1 x2 x3 x4 H locs ls h hl hC hS
    exact w_X7_list_B34b hZ hret hr23 ih (show fn_X7_list_B34b b z23 (fn_X7_list_B34 b z23 n) σ x1 x2 x3 x4 = some rr from h)  hl hC hS
def fn_X7_list_B23b (b : Nat) (z23 : Sg → Int32 → Int32 → Int32 → Option (Int32 × Sg)) (σ : Sg) (x1 : Int32) (x2 : Int32) (x3 : Int32) : Option (Int32 × Sg) :=
  (if ((σ.1 b 5) : Int32) ≤ x3 then
  some ((σ.1 (b + 6) 1), σ)
  else fn_X7_list_B34 b z23 sg_N σ x1 x2 x3 0)
def fn_X7_list_B23 (b : Nat) : Nat → Sg → Int32 → Int32 → Int32 → Option (Int32 × Sg)
  | 0 => fun _ _ _ _ => none
  | n + 1 => fun σ x1 x2 x3 => fn_X7_list_B23b b (fn_X7_list_B23 b n) σ x1 x2 x3
set_option maxHeartbeats 4000000 in
set_option maxRecDepth 100000 in
theorem w_X7_list_B23b {p : Program} {l : Launch} {e : Env} {s : State} {m : MethodId} {args : Array Value} {below : List Frame} {meth : Method} {c : Code} {Q : State → Prop} {D : va_G} {κ : Nat → ClassId} {b : Nat} {H0 : Heap} {rr : Int32 × Sg} (hZ : sg_Z p c s m args D κ cX7_list 5 RX7 wsX7_list) (hret : ∀ (v : Int32) (u : Sg) (H : Heap) (locs : List Loc) (pc : Nat) (ls : Array Slot), some (v, u) = some rr → CW D κ b u H → va_S (sg_A b 892) H0 H locs → decode cX7_list pc = .ok (.ireturn, 1) → W p l e rm_X7_list s m args below meth c H locs 0 0 Q (F0 m pc ls [.int v])) {z23 : Sg → Int32 → Int32 → Int32 → Option (Int32 × Sg)} (hr23 : ∀ {σ : Sg} {x1 : Int32} {x2 : Int32} {x3 : Int32} {H : Heap} {locs : List Loc} {ls : Array Slot}, z23 σ x1 x2 x3 = some rr → lv_has ls 5 [(0, .ref b), (1, .int x1), (2, .int x2), (3, .int x3)] → CW D κ b σ H → va_S (sg_A b 892) H0 H locs → W p l e rm_X7_list s m args below meth c H locs 0 0 Q (F0 m 23 ls [])) : ∀ {σ : Sg} {x1 : Int32} {x2 : Int32} {x3 : Int32} {H : Heap} {locs : List Loc} {ls : Array Slot}, fn_X7_list_B23b b z23 σ x1 x2 x3 = some rr → lv_has ls 5 [(0, .ref b), (1, .int x1), (2, .int x2), (3, .int x3)] → CW D κ b σ H → va_S (sg_A b 892) H0 H locs → W p l e rm_X7_list s m args below meth c H locs 0 0 Q (F0 m 23 ls []) := by
  obtain ⟨hx, hb, hml, hown, hts, hK⟩ := hZ
  intro σ x1 x2 x3 H locs ls h hl hC hS
  unfold fn_X7_list_B23b at h
  refine lv_iload_n hx hb dX7_list_23 rfl (lv_at hl 3 rfl) ?_
  refine lv_aload_n hx hb dX7_list_24 rfl (lv_at hl 0 rfl) ?_
  refine va_get (D := D) (ci := 7) (v := .int (σ.1 b 5)) (C := RX7) (T := TX7) (N := 6) hx hb hts (wqs inW_X7) hown hK.1 hC.1 (b - b) sg_gShelf rfl 5 (by decide) (hts _ (wq wt_197)) (fun _ h9 => h9) rfl dX7_list_25 ?_
  refine lv_icmp_ge (tgt := 94) hx hb dX7_list_28 (by decide) (fun hc => ?_) (fun hc => ?_)
  · replace h := (if_pos hc).symm.trans h
    refine lv_aload_n hx hb dX7_list_94 rfl (lv_at hl 0 rfl) ?_
    refine va_get (D := D) (ci := 7) (v := .ref (b + 6)) (C := RX7) (T := TX7) (N := 6) hx hb hts (wqs inW_X7) hown hK.1 hC.1 (b - b) sg_gShelf rfl 3 (by decide) (hts _ (wq wt_195)) (fun _ h9 => h9) rfl dX7_list_95 ?_
    refine va_getN (D := D) (ci := 2) (v := .int (σ.1 (b + 6) 1)) (C := RX2) (T := TX2) (N := 2) hx hb hts (wqs inW_X2) hown hK.1 hC.1 ((b + 6) - b) sg_gHeadings rfl 1 (by decide) (nf_6 hK) (fun _ h9 => h9) rfl dX7_list_98 ?_
    exact hret _ _ _ _ _ _ h hC hS dX7_list_101
  · replace h := (if_neg hc).symm.trans h
    refine lv_iconst (v := 0) hx hb dX7_list_31 (by decide) ?_
    refine lv_istore (lv' := [(4, .int 0), (0, .ref b), (1, .int x1), (2, .int x2), (3, .int x3)]) hx hb dX7_list_32 hl (by decide) rfl (fun ls hl => ?_)
    exact w_X7_list_B34 ⟨hx, hb, hml, hown, hts, hK⟩ hret hr23 sg_N h (lv_sub hl [1, 2, 3, 4, 0] rfl) hC hS
set_option maxHeartbeats 4000000 in
theorem w_X7_list_B23 {p : Program} {l : Launch} {e : Env} {s : State} {m : MethodId} {args : Array Value} {below : List Frame} {meth : Method} {c : Code} {Q : State → Prop} {D : va_G} {κ : Nat → ClassId} {b : Nat} {H0 : Heap} {rr : Int32 × Sg} (hZ : sg_Z p c s m args D κ cX7_list 5 RX7 wsX7_list) (hret : ∀ (v : Int32) (u : Sg) (H : Heap) (locs : List Loc) (pc : Nat) (ls : Array Slot), some (v, u) = some rr → CW D κ b u H → va_S (sg_A b 892) H0 H locs → decode cX7_list pc = .ok (.ireturn, 1) → W p l e rm_X7_list s m args below meth c H locs 0 0 Q (F0 m pc ls [.int v])) : ∀ n : Nat, ∀ {σ : Sg} {x1 : Int32} {x2 : Int32} {x3 : Int32} {H : Heap} {locs : List Loc} {ls : Array Slot}, fn_X7_list_B23 b n σ x1 x2 x3 = some rr → lv_has ls 5 [(0, .ref b), (1, .int x1), (2, .int x2), (3, .int x3)] → CW D κ b σ H → va_S (sg_A b 892) H0 H locs → W p l e rm_X7_list s m args below meth c H locs 0 0 Q (F0 m 23 ls []) := by
  intro n
  induction n with
  | zero => intro σ x1 x2 x3 H locs ls h hl hC hS; cases (show (none : Option (Int32 × Sg)) = some rr from h)
  | succ n ih =>
    intro σ x1 x2 x3 H locs ls h hl hC hS
    exact w_X7_list_B23b hZ hret ih (show fn_X7_list_B23b b (fn_X7_list_B23 b n) σ x1 x2 x3 = some rr from h)  hl hC hS
def fn_X7_list (b : Nat) (σ : Sg) (x1 : Int32) (x2 : Int32) : Option (Int32 × Sg) :=
  ((fn_X2_clear b σ).bind fun r1 =>
  (if x1 < 1 then
  some ((-1), r1)
  else (if x1 ≤ 999 then
  fn_X7_list_B23 b sg_N r1 x1 x2 0
  else some ((-1), r1))))
set_option maxHeartbeats 4000000 in
set_option maxRecDepth 100000 in
theorem w_X7_list_B0 {p : Program} {l : Launch} {e : Env} {s : State} {m : MethodId} {args : Array Value} {below : List Frame} {meth : Method} {c : Code} {Q : State → Prop} {D : va_G} {κ : Nat → ClassId} {b : Nat} {H0 : Heap} {rr : Int32 × Sg} (hZ : sg_Z p c s m args D κ cX7_list 5 RX7 wsX7_list) (hret : ∀ (v : Int32) (u : Sg) (H : Heap) (locs : List Loc) (pc : Nat) (ls : Array Slot), some (v, u) = some rr → CW D κ b u H → va_S (sg_A b 892) H0 H locs → decode cX7_list pc = .ok (.ireturn, 1) → W p l e rm_X7_list s m args below meth c H locs 0 0 Q (F0 m pc ls [.int v])) : ∀ {σ : Sg} {x1 : Int32} {x2 : Int32} {H : Heap} {locs : List Loc} {ls : Array Slot}, fn_X7_list b σ x1 x2 = some rr → lv_has ls 5 [(0, .ref b), (1, .int x1), (2, .int x2)] → CW D κ b σ H → va_S (sg_A b 892) H0 H locs → W p l e rm_X7_list s m args below meth c H locs 0 0 Q (F0 m 0 ls []) := by
  obtain ⟨hx, hb, hml, hown, hts, hK⟩ := hZ
  intro σ x1 x2 H locs ls h hl hC hS
  unfold fn_X7_list at h
  refine lv_aload_n hx hb dX7_list_0 rfl (lv_at hl 0 rfl) ?_
  refine va_get (D := D) (ci := 7) (v := .ref (b + 6)) (C := RX7) (T := TX7) (N := 6) hx hb hts (wqs inW_X7) hown hK.1 hC.1 (b - b) sg_gShelf rfl 3 (by decide) (hts _ (wq wt_195)) (fun _ h9 => h9) rfl dX7_list_1 ?_
  obtain ⟨r1, er1, h⟩ := Option.bind_eq_some_iff.mp h
  refine va_callv (va_runV (As := []) (rest := []) ⟨hx, hb, hml, hown, hts⟩ (c_X2_clear l D κ b σ _ er1) (cwV 0 hts (gwV wt_562 wt_563 wt_564 wt_4 wt_565) rfl rfl rfl (by decide +kernel) ⟨Nat.le_of_ble_eq_true rfl, Nat.le_of_ble_eq_true rfl⟩) (CW_preV hK hC sg_gHeadings rfl) rfl rfl hl.1 rfl (lv_room (Nat.le_of_ble_eq_true rfl)) dX7_list_4 ⟨Nat.zero_le _, Nat.zero_le _⟩) hS (fun _ _ h => h) (fun _ h => h) (fun u t H locs ht _ hp hB _ _ hS => ?_)
  have hC : CW D κ b r1 H := CW_b hB ht hp
  refine lv_iload_n hx hb dX7_list_7 rfl (lv_at hl 1 rfl) ?_
  refine lv_iconst (v := 1) hx hb dX7_list_8 (by decide) ?_
  refine lv_icmp_lt (tgt := 19) hx hb dX7_list_9 (by decide) (fun hc => ?_) (fun hc => ?_)
  · replace h := (if_pos hc).symm.trans h
    refine lv_iconst (v := (-1)) hx hb dX7_list_19 (by decide) ?_
    exact hret _ _ _ _ _ _ h hC hS dX7_list_20
  · replace h := (if_neg hc).symm.trans h
    refine lv_iload_n hx hb dX7_list_12 rfl (lv_at hl 1 rfl) ?_
    refine lv_sipush (v := 999) hx hb dX7_list_13 (by decide) ?_
    refine lv_icmp_le (tgt := 21) hx hb dX7_list_16 (by decide) (fun hc => ?_) (fun hc => ?_)
    · replace h := (if_pos hc).symm.trans h
      refine lv_iconst (v := 0) hx hb dX7_list_21 (by decide) ?_
      refine lv_istore_n (lv' := [(3, .int 0), (0, .ref b), (1, .int x1), (2, .int x2)]) hx hb dX7_list_22 rfl hl (by decide) rfl (fun ls hl => ?_)
      exact w_X7_list_B23 ⟨hx, hb, hml, hown, hts, hK⟩ hret  sg_N h (lv_sub hl [1, 2, 3, 0] rfl) hC hS
    · replace h := (if_neg hc).symm.trans h
      refine lv_iconst (v := (-1)) hx hb dX7_list_19 (by decide) ?_
      exact hret _ _ _ _ _ _ h hC hS dX7_list_20
set_option maxHeartbeats 4000000 in
set_option maxRecDepth 100000 in
theorem c_X7_list (l : Launch) (D : va_G) (κ : Nat → ClassId) (b : Nat) (σ : Sg) (x1 : Int32) (x2 : Int32) (rr : Int32 × Sg)  (h : fn_X7_list b σ x1 x2 = some rr) : Met l yX7_list wsX7_list rm_X7_list (va_Pc [.ref b, .int x1, .int x2] (fun U => KK D κ U ∧ CW D κ b σ U.heap)) (va_Qi (fun (r : Int32) (u : Sg) => r = rr.1 ∧ u = rr.2) (fun u t => CW D κ b u t.heap) (sg_A b 892)) 0 0 (sg_A b 892) := by
  refine Met.ofW (cc := cX7_list) (maxL := 5) (ret := (some .int)) (by decide) rfl ?_
  intro p e s m args below meth c s₁ B hml hv
  obtain ⟨rfl, hK, hC⟩ := hv
  have hr := B.returns
  have hlocks := B.notSynchronized
  have hl := lv_entry ([.ref b, .int x1, .int x2]) (n := 5) (Nat.le_of_ble_eq_true rfl)
  rw [lg_entry_eq]
  generalize (lg_sl ([.ref b, .int x1, .int x2]) ++ List.replicate (5 - (lg_sl ([.ref b, .int x1, .int x2])).length) Slot.unset).toArray = ls at hl ⊢
  have hl : lv_has ls 5 [(0, .ref b), (1, .int x1), (2, .int x2)] := hl
  exact w_X7_list_B0 ⟨B.exec, B.bytes, hml, findClass_of_methodNamed B.named, atoms_spec (ws := wsX7_list) B.pre, hK⟩ (fun v u H locs pc ls hq hC hS hd => W.iret B.exec B.bytes hr (fun t ht hW => ⟨⟨v, _, rfl, ⟨congrArg Prod.fst (Option.some.inj hq), congrArg Prod.snd (Option.some.inj hq)⟩, CW_e ht hC⟩, hS.F ht⟩) hS.2.2 hd) h  hl hC va_S.rf

-- RecordShelf.heading(II)I
theorem dX7_heading_0 : decode cX7_heading 0 = .ok (.aload_n 0, 1) := by decide +kernel
theorem dX7_heading_1 : decode cX7_heading 1 = .ok (.getfield 30, 3) := by decide +kernel
theorem dX7_heading_4 : decode cX7_heading 4 = .ok (.iload_n 1, 1) := by decide +kernel
theorem dX7_heading_5 : decode cX7_heading 5 = .ok (.iload_n 2, 1) := by decide +kernel
theorem dX7_heading_6 : decode cX7_heading 6 = .ok (.invokevirtual 175, 3) := by decide +kernel
theorem dX7_heading_9 : decode cX7_heading 9 = .ok (.ireturn, 1) := by decide +kernel
def rm_X7_heading : Room := { frames := 2, cells := 0, slots := 0, locals := 42 }
def fn_X7_heading (b : Nat) (σ : Sg) (x1 : Int32) (x2 : Int32) : Option (Int32) :=
  ((fn_X2_part b σ x1 x2).bind fun r1 =>
  some r1)
set_option maxHeartbeats 4000000 in
set_option maxRecDepth 100000 in
theorem w_X7_heading_B0 {p : Program} {l : Launch} {e : Env} {s : State} {m : MethodId} {args : Array Value} {below : List Frame} {meth : Method} {c : Code} {Q : State → Prop} {D : va_G} {κ : Nat → ClassId} {b : Nat} {H0 : Heap} {rr : Int32} {σ : Sg} (hZ : sg_Z p c s m args D κ cX7_heading 3 RX7 wsX7_heading) (hret : ∀ (v : Int32) (H : Heap) (locs : List Loc) (pc : Nat) (ls : Array Slot), some v = some rr → CW D κ b σ H → va_S (sg_A b 892) H0 H locs → decode cX7_heading pc = .ok (.ireturn, 1) → W p l e rm_X7_heading s m args below meth c H locs 0 0 Q (F0 m pc ls [.int v])) : ∀ {x1 : Int32} {x2 : Int32} {H : Heap} {locs : List Loc} {ls : Array Slot}, fn_X7_heading b σ x1 x2 = some rr → lv_has ls 3 [(0, .ref b), (1, .int x1), (2, .int x2)] → CW D κ b σ H → va_S (sg_A b 892) H0 H locs → W p l e rm_X7_heading s m args below meth c H locs 0 0 Q (F0 m 0 ls []) := by
  obtain ⟨hx, hb, hml, hown, hts, hK⟩ := hZ
  intro x1 x2 H locs ls h hl hC hS
  unfold fn_X7_heading at h
  refine lv_aload_n hx hb dX7_heading_0 rfl (lv_at hl 0 rfl) ?_
  refine va_get (D := D) (ci := 7) (v := .ref (b + 6)) (C := RX7) (T := TX7) (N := 6) hx hb hts (wqs inW_X7) hown hK.1 hC.1 (b - b) sg_gShelf rfl 3 (by decide) (hts _ (wq wt_195)) (fun _ h9 => h9) rfl dX7_heading_1 ?_
  refine lv_iload_n hx hb dX7_heading_4 rfl (lv_at hl 1 rfl) ?_
  refine lv_iload_n hx hb dX7_heading_5 rfl (lv_at hl 2 rfl) ?_
  obtain ⟨r1, er1, h⟩ := Option.bind_eq_some_iff.mp h
  refine va_calli (va_runV (As := [.int x1, .int x2]) (rest := []) ⟨hx, hb, hml, hown, hts⟩ (c_X2_part l D κ b σ x1 x2 _ er1) (cwV 2 hts (gwV wt_606 wt_607 wt_608 wt_4 wt_609) rfl rfl rfl (by decide +kernel) ⟨Nat.le_of_ble_eq_true rfl, Nat.le_of_ble_eq_true rfl⟩) (CW_preV hK hC sg_gHeadings rfl) rfl rfl hl.1 rfl (lv_room (Nat.le_of_ble_eq_true rfl)) dX7_heading_6 ⟨Nat.zero_le _, Nat.zero_le _⟩) hS (fun _ _ h => h) (fun _ h => h) (fun r u t H locs ht _ hp hB _ _ hS => ?_)
  refine sg_topi hp.1 ?_
  have hC : CW D κ b σ H := CW_b hB ht hp.2
  exact hret _ _ _ _ _ h hC hS dX7_heading_9
set_option maxHeartbeats 4000000 in
set_option maxRecDepth 100000 in
theorem c_X7_heading (l : Launch) (D : va_G) (κ : Nat → ClassId) (b : Nat) (σ : Sg) (x1 : Int32) (x2 : Int32) (rr : Int32)  (h : fn_X7_heading b σ x1 x2 = some rr) : Met l yX7_heading wsX7_heading rm_X7_heading (va_Pc [.ref b, .int x1, .int x2] (fun U => KK D κ U ∧ CW D κ b σ U.heap)) (va_Qi (fun (r : Int32) (u : Sg) => r = rr ∧ u = σ) (fun u t => CW D κ b u t.heap) (sg_A b 892)) 0 0 (sg_A b 892) := by
  refine Met.ofW (cc := cX7_heading) (maxL := 3) (ret := (some .int)) (by decide) rfl ?_
  intro p e s m args below meth c s₁ B hml hv
  obtain ⟨rfl, hK, hC⟩ := hv
  have hr := B.returns
  have hlocks := B.notSynchronized
  have hl := lv_entry ([.ref b, .int x1, .int x2]) (n := 3) (Nat.le_of_ble_eq_true rfl)
  rw [lg_entry_eq]
  generalize (lg_sl ([.ref b, .int x1, .int x2]) ++ List.replicate (3 - (lg_sl ([.ref b, .int x1, .int x2])).length) Slot.unset).toArray = ls at hl ⊢
  have hl : lv_has ls 3 [(0, .ref b), (1, .int x1), (2, .int x2)] := hl
  exact w_X7_heading_B0 ⟨B.exec, B.bytes, hml, findClass_of_methodNamed B.named, atoms_spec (ws := wsX7_heading) B.pre, hK⟩ (fun v H locs pc ls hq hC hS hd => W.iret B.exec B.bytes hr (fun t ht hW => ⟨⟨v, _, rfl, ⟨Option.some.inj hq, rfl⟩, CW_e ht hC⟩, hS.F ht⟩) hS.2.2 hd) h  hl hC va_S.rf

-- RecordShelf.find(ICI)I
theorem dX7_find_0 : decode cX7_find 0 = .ok (.iload_n 1, 1) := by decide +kernel
theorem dX7_find_1 : decode cX7_find 1 = .ok (.ifCond .lt 19, 3) := by decide +kernel
theorem dX7_find_4 : decode cX7_find 4 = .ok (.iload_n 1, 1) := by decide +kernel
theorem dX7_find_5 : decode cX7_find 5 = .ok (.sipush 999, 3) := by decide +kernel
theorem dX7_find_8 : decode cX7_find 8 = .ok (.if_icmp .gt 12, 3) := by decide +kernel
theorem dX7_find_11 : decode cX7_find 11 = .ok (.iload_n 3, 1) := by decide +kernel
theorem dX7_find_12 : decode cX7_find 12 = .ok (.ifCond .lt 8, 3) := by decide +kernel
theorem dX7_find_15 : decode cX7_find 15 = .ok (.iload_n 3, 1) := by decide +kernel
theorem dX7_find_16 : decode cX7_find 16 = .ok (.iconst 2, 1) := by decide +kernel
theorem dX7_find_17 : decode cX7_find 17 = .ok (.if_icmp .le 5, 3) := by decide +kernel
theorem dX7_find_20 : decode cX7_find 20 = .ok (.iconst (-1), 1) := by decide +kernel
theorem dX7_find_21 : decode cX7_find 21 = .ok (.ireturn, 1) := by decide +kernel
theorem dX7_find_22 : decode cX7_find 22 = .ok (.aload_n 0, 1) := by decide +kernel
theorem dX7_find_23 : decode cX7_find 23 = .ok (.getfield 39, 3) := by decide +kernel
theorem dX7_find_26 : decode cX7_find 26 = .ok (.invokevirtual 179, 3) := by decide +kernel
theorem dX7_find_29 : decode cX7_find 29 = .ok (.iconst 0, 1) := by decide +kernel
theorem dX7_find_30 : decode cX7_find 30 = .ok (.istore 4, 2) := by decide +kernel
theorem dX7_find_32 : decode cX7_find 32 = .ok (.iload 4, 2) := by decide +kernel
theorem dX7_find_34 : decode cX7_find 34 = .ok (.aload_n 0, 1) := by decide +kernel
theorem dX7_find_35 : decode cX7_find 35 = .ok (.getfield 20, 3) := by decide +kernel
theorem dX7_find_38 : decode cX7_find 38 = .ok (.getfield 52, 3) := by decide +kernel
theorem dX7_find_41 : decode cX7_find 41 = .ok (.if_icmp .ge 26, 3) := by decide +kernel
theorem dX7_find_44 : decode cX7_find 44 = .ok (.aload_n 0, 1) := by decide +kernel
theorem dX7_find_45 : decode cX7_find 45 = .ok (.getfield 39, 3) := by decide +kernel
theorem dX7_find_48 : decode cX7_find 48 = .ok (.aload_n 0, 1) := by decide +kernel
theorem dX7_find_49 : decode cX7_find 49 = .ok (.getfield 20, 3) := by decide +kernel
theorem dX7_find_52 : decode cX7_find 52 = .ok (.getfield 180, 3) := by decide +kernel
theorem dX7_find_55 : decode cX7_find 55 = .ok (.iload 4, 2) := by decide +kernel
theorem dX7_find_57 : decode cX7_find 57 = .ok (.caload, 1) := by decide +kernel
theorem dX7_find_58 : decode cX7_find 58 = .ok (.invokevirtual 184, 3) := by decide +kernel
theorem dX7_find_61 : decode cX7_find 61 = .ok (.iinc 4 1, 3) := by decide +kernel
theorem dX7_find_64 : decode cX7_find 64 = .ok (.goto (-32), 3) := by decide +kernel
theorem dX7_find_67 : decode cX7_find 67 = .ok (.iconst 0, 1) := by decide +kernel
theorem dX7_find_68 : decode cX7_find 68 = .ok (.istore 4, 2) := by decide +kernel
theorem dX7_find_70 : decode cX7_find 70 = .ok (.iconst 0, 1) := by decide +kernel
theorem dX7_find_71 : decode cX7_find 71 = .ok (.istore 5, 2) := by decide +kernel
theorem dX7_find_73 : decode cX7_find 73 = .ok (.iload 5, 2) := by decide +kernel
theorem dX7_find_75 : decode cX7_find 75 = .ok (.aload_n 0, 1) := by decide +kernel
theorem dX7_find_76 : decode cX7_find 76 = .ok (.getfield 72, 3) := by decide +kernel
theorem dX7_find_79 : decode cX7_find 79 = .ok (.if_icmp .ge 38, 3) := by decide +kernel
theorem dX7_find_82 : decode cX7_find 82 = .ok (.aload_n 0, 1) := by decide +kernel
theorem dX7_find_83 : decode cX7_find 83 = .ok (.getfield 23, 3) := by decide +kernel
theorem dX7_find_86 : decode cX7_find 86 = .ok (.iload 5, 2) := by decide +kernel
theorem dX7_find_88 : decode cX7_find 88 = .ok (.aaload, 1) := by decide +kernel
theorem dX7_find_89 : decode cX7_find 89 = .ok (.iload_n 1, 1) := by decide +kernel
theorem dX7_find_90 : decode cX7_find 90 = .ok (.iload_n 2, 1) := by decide +kernel
theorem dX7_find_91 : decode cX7_find 91 = .ok (.aload_n 0, 1) := by decide +kernel
theorem dX7_find_92 : decode cX7_find 92 = .ok (.getfield 39, 3) := by decide +kernel
theorem dX7_find_95 : decode cX7_find 95 = .ok (.iload_n 3, 1) := by decide +kernel
theorem dX7_find_96 : decode cX7_find 96 = .ok (.invokevirtual 187, 3) := by decide +kernel
theorem dX7_find_99 : decode cX7_find 99 = .ok (.ifCond .eq 12, 3) := by decide +kernel
theorem dX7_find_102 : decode cX7_find 102 = .ok (.iload 4, 2) := by decide +kernel
theorem dX7_find_104 : decode cX7_find 104 = .ok (.iconst 1, 1) := by decide +kernel
theorem dX7_find_105 : decode cX7_find 105 = .ok (.iload 5, 2) := by decide +kernel
theorem dX7_find_107 : decode cX7_find 107 = .ok (.ishl, 1) := by decide +kernel
theorem dX7_find_108 : decode cX7_find 108 = .ok (.iadd, 1) := by decide +kernel
theorem dX7_find_109 : decode cX7_find 109 = .ok (.istore 4, 2) := by decide +kernel
theorem dX7_find_111 : decode cX7_find 111 = .ok (.iinc 5 1, 3) := by decide +kernel
theorem dX7_find_114 : decode cX7_find 114 = .ok (.goto (-41), 3) := by decide +kernel
theorem dX7_find_117 : decode cX7_find 117 = .ok (.iload 4, 2) := by decide +kernel
theorem dX7_find_119 : decode cX7_find 119 = .ok (.ireturn, 1) := by decide +kernel
def rm_X7_find : Room := { frames := 5, cells := 0, slots := 0, locals := 118 }
def fn_X7_find_B111 (b : Nat) (z73 : Sg → Int32 → Int32 → Int32 → Int32 → Int32 → Option (Int32 × Sg)) (σ : Sg) (x1 : Int32) (x2 : Int32) (x3 : Int32) (x4 : Int32) (x5 : Int32) : Option (Int32 × Sg) :=
  (sg_lt (x5 + 1 : Int32) fun v1 =>
  z73 σ x1 x2 x3 x4 v1)
set_option maxHeartbeats 4000000 in
set_option maxRecDepth 100000 in
theorem w_X7_find_B111 {p : Program} {l : Launch} {e : Env} {s : State} {m : MethodId} {args : Array Value} {below : List Frame} {meth : Method} {c : Code} {Q : State → Prop} {D : va_G} {κ : Nat → ClassId} {b : Nat} {H0 : Heap} {rr : Int32 × Sg} (hZ : sg_Z p c s m args D κ cX7_find 6 RX7 wsX7_find) (hret : ∀ (v : Int32) (u : Sg) (H : Heap) (locs : List Loc) (pc : Nat) (ls : Array Slot), some (v, u) = some rr → CW D κ b u H → va_S (sg_A b 892) H0 H locs → decode cX7_find pc = .ok (.ireturn, 1) → W p l e rm_X7_find s m args below meth c H locs 0 0 Q (F0 m pc ls [.int v])) {z73 : Sg → Int32 → Int32 → Int32 → Int32 → Int32 → Option (Int32 × Sg)} (hr73 : ∀ {σ : Sg} {x1 : Int32} {x2 : Int32} {x3 : Int32} {x4 : Int32} {x5 : Int32} {H : Heap} {locs : List Loc} {ls : Array Slot}, z73 σ x1 x2 x3 x4 x5 = some rr → lv_has ls 6 [(0, .ref b), (1, .int x1), (2, .int x2), (3, .int x3), (4, .int x4), (5, .int x5)] → CW D κ b σ H → va_S (sg_A b 892) H0 H locs → W p l e rm_X7_find s m args below meth c H locs 0 0 Q (F0 m 73 ls [])) : ∀ {σ : Sg} {x1 : Int32} {x2 : Int32} {x3 : Int32} {x4 : Int32} {x5 : Int32} {H : Heap} {locs : List Loc} {ls : Array Slot}, fn_X7_find_B111 b z73 σ x1 x2 x3 x4 x5 = some rr → lv_has ls 6 [(0, .ref b), (1, .int x1), (2, .int x2), (3, .int x3), (4, .int x4), (5, .int x5)] → CW D κ b σ H → va_S (sg_A b 892) H0 H locs → W p l e rm_X7_find s m args below meth c H locs 0 0 Q (F0 m 111 ls []) := by
  obtain ⟨hx, hb, hml, hown, hts, hK⟩ := hZ
  intro σ x1 x2 x3 x4 x5 H locs ls h hl hC hS
  unfold fn_X7_find_B111 at h
  obtain ⟨v1, ev1, h⟩ := sg_lte h
  refine lv_iinc (v := v1) (lv' := [(5, .int v1), (0, .ref b), (1, .int x1), (2, .int x2), (3, .int x3), (4, .int x4)]) (k := 5) hx hb dX7_find_111 hl rfl (sg_inc (by decide) ev1) (by decide) rfl (fun ls hl => ?_)
  refine lv_goto (tgt := 73) hx hb dX7_find_114 (by decide) ?_
  exact hr73 h (lv_sub hl [1, 2, 3, 4, 5, 0] rfl) hC hS
def fn_X7_find_B73b (b : Nat) (z73 : Sg → Int32 → Int32 → Int32 → Int32 → Int32 → Option (Int32 × Sg)) (σ : Sg) (x1 : Int32) (x2 : Int32) (x3 : Int32) (x4 : Int32) (x5 : Int32) : Option (Int32 × Sg) :=
  (if ((σ.1 b 5) : Int32) ≤ x5 then
  some (x4, σ)
  else (if sg_ib x5 6 then
  ((fn_X0_fits b σ (b + 10 + 147 * sg_x x5) x1 x2 (b + 8) x3).bind fun r2 =>
  (if r2 = 0 then
  fn_X7_find_B111 b z73 σ x1 x2 x3 x4 x5
  else (sg_lt ((x4 + (1 <<< (x5 &&& 31))) : Int32) fun v3 =>
  fn_X7_find_B111 b z73 σ x1 x2 x3 v3 x5)))
  else none))
def fn_X7_find_B73 (b : Nat) : Nat → Sg → Int32 → Int32 → Int32 → Int32 → Int32 → Option (Int32 × Sg)
  | 0 => fun _ _ _ _ _ _ => none
  | n + 1 => fun σ x1 x2 x3 x4 x5 => fn_X7_find_B73b b (fn_X7_find_B73 b n) σ x1 x2 x3 x4 x5
set_option maxHeartbeats 4000000 in
set_option maxRecDepth 100000 in
theorem w_X7_find_B73b {p : Program} {l : Launch} {e : Env} {s : State} {m : MethodId} {args : Array Value} {below : List Frame} {meth : Method} {c : Code} {Q : State → Prop} {D : va_G} {κ : Nat → ClassId} {b : Nat} {H0 : Heap} {rr : Int32 × Sg} (hZ : sg_Z p c s m args D κ cX7_find 6 RX7 wsX7_find) (hret : ∀ (v : Int32) (u : Sg) (H : Heap) (locs : List Loc) (pc : Nat) (ls : Array Slot), some (v, u) = some rr → CW D κ b u H → va_S (sg_A b 892) H0 H locs → decode cX7_find pc = .ok (.ireturn, 1) → W p l e rm_X7_find s m args below meth c H locs 0 0 Q (F0 m pc ls [.int v])) {z73 : Sg → Int32 → Int32 → Int32 → Int32 → Int32 → Option (Int32 × Sg)} (hr73 : ∀ {σ : Sg} {x1 : Int32} {x2 : Int32} {x3 : Int32} {x4 : Int32} {x5 : Int32} {H : Heap} {locs : List Loc} {ls : Array Slot}, z73 σ x1 x2 x3 x4 x5 = some rr → lv_has ls 6 [(0, .ref b), (1, .int x1), (2, .int x2), (3, .int x3), (4, .int x4), (5, .int x5)] → CW D κ b σ H → va_S (sg_A b 892) H0 H locs → W p l e rm_X7_find s m args below meth c H locs 0 0 Q (F0 m 73 ls [])) : ∀ {σ : Sg} {x1 : Int32} {x2 : Int32} {x3 : Int32} {x4 : Int32} {x5 : Int32} {H : Heap} {locs : List Loc} {ls : Array Slot}, fn_X7_find_B73b b z73 σ x1 x2 x3 x4 x5 = some rr → lv_has ls 6 [(0, .ref b), (1, .int x1), (2, .int x2), (3, .int x3), (4, .int x4), (5, .int x5)] → CW D κ b σ H → va_S (sg_A b 892) H0 H locs → W p l e rm_X7_find s m args below meth c H locs 0 0 Q (F0 m 73 ls []) := by
  obtain ⟨hx, hb, hml, hown, hts, hK⟩ := hZ
  intro σ x1 x2 x3 x4 x5 H locs ls h hl hC hS
  unfold fn_X7_find_B73b at h
  refine lv_iload hx hb dX7_find_73 (lv_at hl 5 rfl) ?_
  refine lv_aload_n hx hb dX7_find_75 rfl (lv_at hl 0 rfl) ?_
  refine va_get (D := D) (ci := 7) (v := .int (σ.1 b 5)) (C := RX7) (T := TX7) (N := 6) hx hb hts (wqs inW_X7) hown hK.1 hC.1 (b - b) sg_gShelf rfl 5 (by decide) (hts _ (wq wt_197)) (fun _ h9 => h9) rfl dX7_find_76 ?_
  refine lv_icmp_ge (tgt := 117) hx hb dX7_find_79 (by decide) (fun hc => ?_) (fun hc => ?_)
  · replace h := (if_pos hc).symm.trans h
    refine lv_iload hx hb dX7_find_117 (lv_at hl 4 rfl) ?_
    exact hret _ _ _ _ _ _ h hC hS dX7_find_119
  · replace h := (if_neg hc).symm.trans h
    refine lv_aload_n hx hb dX7_find_82 rfl (lv_at hl 0 rfl) ?_
    refine va_get (D := D) (ci := 7) (v := .ref (b + 5)) (C := RX7) (T := TX7) (N := 6) hx hb hts (wqs inW_X7) hown hK.1 hC.1 (b - b) sg_gShelf rfl 2 (by decide) (hts _ (wq wt_194)) (fun _ h9 => h9) rfl dX7_find_83 ?_
    refine lv_iload hx hb dX7_find_86 (lv_at hl 5 rfl) ?_
    obtain ⟨hg, h⟩ := sg_gd h
    refine va_aldq (C := "RecordShelf$Card") hx hb hK.1 hC.1 ((b + 5) - b) 2 sg_gcards rfl (sg_in hg) dX7_find_88 ?_
    have hv1 := sg_vCard (b := b) hg
    refine W.eq (g2 := F0 m 89 ls [.ref (b + 10 + 147 * sg_x x5)]) rfl ?_
    refine lv_iload_n hx hb dX7_find_89 rfl (lv_at hl 1 rfl) ?_
    refine lv_iload_n hx hb dX7_find_90 rfl (lv_at hl 2 rfl) ?_
    refine lv_aload_n hx hb dX7_find_91 rfl (lv_at hl 0 rfl) ?_
    refine va_get (D := D) (ci := 7) (v := .ref (b + 8)) (C := RX7) (T := TX7) (N := 6) hx hb hts (wqs inW_X7) hown hK.1 hC.1 (b - b) sg_gShelf rfl 4 (by decide) (hts _ (wq wt_196)) (fun _ h9 => h9) rfl dX7_find_92 ?_
    refine lv_iload_n hx hb dX7_find_95 rfl (lv_at hl 3 rfl) ?_
    obtain ⟨r2, er2, h⟩ := Option.bind_eq_some_iff.mp h
    refine va_calli (va_runV (As := [.int x1, .int x2, .ref (b + 8), .int x3]) (rest := []) ⟨hx, hb, hml, hown, hts⟩ (c_X0_fits l D κ b σ (b + 10 + 147 * sg_x x5) x1 x2 (b + 8) x3 _ hv1 (sg_kS b) er2) (cwV 4 hts (gwV wt_616 wt_617 wt_618 wt_6 wt_619) rfl rfl rfl (by decide +kernel) ⟨Nat.le_of_ble_eq_true rfl, Nat.le_of_ble_eq_true rfl⟩) (CW_preV hK hC (sg_gCard hv1) rfl) rfl rfl hl.1 rfl (lv_room (Nat.le_of_ble_eq_true rfl)) dX7_find_96 ⟨Nat.zero_le _, Nat.zero_le _⟩) hS (fun _ _ h => h) (fun _ h => h) (fun r u t H locs ht _ hp hB _ _ hS => ?_)
    refine sg_topi hp.1 ?_
    have hC : CW D κ b σ H := CW_b hB ht hp.2
    refine lv_if_eq (tgt := 111) hx hb dX7_find_99 (by decide) (fun hc => ?_) (fun hc => ?_)
    · replace h := (if_pos hc).symm.trans h
      exact w_X7_find_B111 ⟨hx, hb, hml, hown, hts, hK⟩ hret hr73 h (lv_sub hl [0, 1, 2, 3, 4, 5] rfl) hC hS
    · replace h := (if_neg hc).symm.trans h
      refine lv_iload hx hb dX7_find_102 (lv_at hl 4 rfl) ?_
      refine lv_iconst (v := 1) hx hb dX7_find_104 (by decide) ?_
      refine lv_iload hx hb dX7_find_105 (lv_at hl 5 rfl) ?_
      refine lv_ishl hx hb dX7_find_107 ?_
      refine lv_iadd hx hb dX7_find_108 ?_
      obtain ⟨v3, ev3, h⟩ := sg_lte h
      refine sg_topi ev3 ?_
      refine lv_istore (lv' := [(4, .int v3), (0, .ref b), (1, .int x1), (2, .int x2), (3, .int x3), (5, .int x5)]) hx hb dX7_find_109 hl (by decide) rfl (fun ls hl => ?_)
      exact w_X7_find_B111 ⟨hx, hb, hml, hown, hts, hK⟩ hret hr73 h (lv_sub hl [1, 2, 3, 4, 0, 5] rfl) hC hS
set_option maxHeartbeats 4000000 in
theorem w_X7_find_B73 {p : Program} {l : Launch} {e : Env} {s : State} {m : MethodId} {args : Array Value} {below : List Frame} {meth : Method} {c : Code} {Q : State → Prop} {D : va_G} {κ : Nat → ClassId} {b : Nat} {H0 : Heap} {rr : Int32 × Sg} (hZ : sg_Z p c s m args D κ cX7_find 6 RX7 wsX7_find) (hret : ∀ (v : Int32) (u : Sg) (H : Heap) (locs : List Loc) (pc : Nat) (ls : Array Slot), some (v, u) = some rr → CW D κ b u H → va_S (sg_A b 892) H0 H locs → decode cX7_find pc = .ok (.ireturn, 1) → W p l e rm_X7_find s m args below meth c H locs 0 0 Q (F0 m pc ls [.int v])) : ∀ n : Nat, ∀ {σ : Sg} {x1 : Int32} {x2 : Int32} {x3 : Int32} {x4 : Int32} {x5 : Int32} {H : Heap} {locs : List Loc} {ls : Array Slot}, fn_X7_find_B73 b n σ x1 x2 x3 x4 x5 = some rr → lv_has ls 6 [(0, .ref b), (1, .int x1), (2, .int x2), (3, .int x3), (4, .int x4), (5, .int x5)] → CW D κ b σ H → va_S (sg_A b 892) H0 H locs → W p l e rm_X7_find s m args below meth c H locs 0 0 Q (F0 m 73 ls []) := by
  intro n
  induction n with
  | zero => intro σ x1 x2 x3 x4 x5 H locs ls h hl hC hS; cases (show (none : Option (Int32 × Sg)) = some rr from h)
  | succ n ih =>
    intro σ x1 x2 x3 x4 x5 H locs ls h hl hC hS
    exact w_X7_find_B73b hZ hret ih (show fn_X7_find_B73b b (fn_X7_find_B73 b n) σ x1 x2 x3 x4 x5 = some rr from h)  hl hC hS
def fn_X7_find_B32b (b : Nat) (z32 : Sg → Int32 → Int32 → Int32 → Int32 → Option (Int32 × Sg)) (σ : Sg) (x1 : Int32) (x2 : Int32) (x3 : Int32) (x4 : Int32) : Option (Int32 × Sg) :=
  (if ((σ.1 (b + 2) 1) : Int32) ≤ x4 then
  fn_X7_find_B73 b sg_N σ x1 x2 x3 0 0
  else (if sg_ib x4 600 then
  ((fn_X3_take b σ (b + 8) (σ.1 (b + 3) (sg_x x4))).bind fun r1 =>
  (sg_lt (x4 + 1 : Int32) fun v2 =>
  z32 r1 x1 x2 x3 v2))
  else none))
def fn_X7_find_B32 (b : Nat) : Nat → Sg → Int32 → Int32 → Int32 → Int32 → Option (Int32 × Sg)
  | 0 => fun _ _ _ _ _ => none
  | n + 1 => fun σ x1 x2 x3 x4 => fn_X7_find_B32b b (fn_X7_find_B32 b n) σ x1 x2 x3 x4
set_option maxHeartbeats 4000000 in
set_option maxRecDepth 100000 in
theorem w_X7_find_B32b {p : Program} {l : Launch} {e : Env} {s : State} {m : MethodId} {args : Array Value} {below : List Frame} {meth : Method} {c : Code} {Q : State → Prop} {D : va_G} {κ : Nat → ClassId} {b : Nat} {H0 : Heap} {rr : Int32 × Sg} (hZ : sg_Z p c s m args D κ cX7_find 6 RX7 wsX7_find) (hret : ∀ (v : Int32) (u : Sg) (H : Heap) (locs : List Loc) (pc : Nat) (ls : Array Slot), some (v, u) = some rr → CW D κ b u H → va_S (sg_A b 892) H0 H locs → decode cX7_find pc = .ok (.ireturn, 1) → W p l e rm_X7_find s m args below meth c H locs 0 0 Q (F0 m pc ls [.int v])) {z32 : Sg → Int32 → Int32 → Int32 → Int32 → Option (Int32 × Sg)} (hr32 : ∀ {σ : Sg} {x1 : Int32} {x2 : Int32} {x3 : Int32} {x4 : Int32} {H : Heap} {locs : List Loc} {ls : Array Slot}, z32 σ x1 x2 x3 x4 = some rr → lv_has ls 6 [(0, .ref b), (1, .int x1), (2, .int x2), (3, .int x3), (4, .int x4)] → CW D κ b σ H → va_S (sg_A b 892) H0 H locs → W p l e rm_X7_find s m args below meth c H locs 0 0 Q (F0 m 32 ls [])) : ∀ {σ : Sg} {x1 : Int32} {x2 : Int32} {x3 : Int32} {x4 : Int32} {H : Heap} {locs : List Loc} {ls : Array Slot}, fn_X7_find_B32b b z32 σ x1 x2 x3 x4 = some rr → lv_has ls 6 [(0, .ref b), (1, .int x1), (2, .int x2), (3, .int x3), (4, .int x4)] → CW D κ b σ H → va_S (sg_A b 892) H0 H locs → W p l e rm_X7_find s m args below meth c H locs 0 0 Q (F0 m 32 ls []) := by
  obtain ⟨hx, hb, hml, hown, hts, hK⟩ := hZ
  intro σ x1 x2 x3 x4 H locs ls h hl hC hS
  unfold fn_X7_find_B32b at h
  refine lv_iload hx hb dX7_find_32 (lv_at hl 4 rfl) ?_
  refine lv_aload_n hx hb dX7_find_34 rfl (lv_at hl 0 rfl) ?_
  refine va_get (D := D) (ci := 7) (v := .ref (b + 2)) (C := RX7) (T := TX7) (N := 6) hx hb hts (wqs inW_X7) hown hK.1 hC.1 (b - b) sg_gShelf rfl 1 (by decide) (hts _ (wq wt_193)) (fun _ h9 => h9) rfl dX7_find_35 ?_
  refine va_getN (D := D) (ci := 6) (v := .int (σ.1 (b + 2) 1)) (C := RX6) (T := TX6) (N := 2) hx hb hts (wqs inW_X6) hown hK.1 hC.1 ((b + 2) - b) sg_gText rfl 1 (by decide) (nf_1 hK) (fun _ h9 => h9) rfl dX7_find_38 ?_
  refine lv_icmp_ge (tgt := 67) hx hb dX7_find_41 (by decide) (fun hc => ?_) (fun hc => ?_)
  · replace h := (if_pos hc).symm.trans h
    refine lv_iconst (v := 0) hx hb dX7_find_67 (by decide) ?_
    refine lv_istore (lv' := [(4, .int 0), (0, .ref b), (1, .int x1), (2, .int x2), (3, .int x3)]) hx hb dX7_find_68 hl (by decide) rfl (fun ls hl => ?_)
    refine lv_iconst (v := 0) hx hb dX7_find_70 (by decide) ?_
    refine lv_istore (lv' := [(5, .int 0), (4, .int 0), (0, .ref b), (1, .int x1), (2, .int x2), (3, .int x3)]) hx hb dX7_find_71 hl (by decide) rfl (fun ls hl => ?_)
    exact w_X7_find_B73 ⟨hx, hb, hml, hown, hts, hK⟩ hret  sg_N h (lv_sub hl [2, 3, 4, 5, 1, 0] rfl) hC hS
  · replace h := (if_neg hc).symm.trans h
    refine lv_aload_n hx hb dX7_find_44 rfl (lv_at hl 0 rfl) ?_
    refine va_get (D := D) (ci := 7) (v := .ref (b + 8)) (C := RX7) (T := TX7) (N := 6) hx hb hts (wqs inW_X7) hown hK.1 hC.1 (b - b) sg_gShelf rfl 4 (by decide) (hts _ (wq wt_196)) (fun _ h9 => h9) rfl dX7_find_45 ?_
    refine lv_aload_n hx hb dX7_find_48 rfl (lv_at hl 0 rfl) ?_
    refine va_get (D := D) (ci := 7) (v := .ref (b + 2)) (C := RX7) (T := TX7) (N := 6) hx hb hts (wqs inW_X7) hown hK.1 hC.1 (b - b) sg_gShelf rfl 1 (by decide) (hts _ (wq wt_193)) (fun _ h9 => h9) rfl dX7_find_49 ?_
    refine va_getN (D := D) (ci := 6) (v := .ref (b + 3)) (C := RX6) (T := TX6) (N := 2) hx hb hts (wqs inW_X6) hown hK.1 hC.1 ((b + 2) - b) sg_gText rfl 0 (by decide) (nf_0 hK) (fun _ h9 => h9) rfl dX7_find_52 ?_
    refine lv_iload hx hb dX7_find_55 (lv_at hl 4 rfl) ?_
    obtain ⟨hg, h⟩ := sg_gd h
    refine va_cald hx hb hK.1 hC.1 ((b + 3) - b) 1 sg_gtsigns rfl (sg_in hg) dX7_find_57 ?_
    obtain ⟨r1, er1, h⟩ := Option.bind_eq_some_iff.mp h
    refine va_callv (va_runV (As := [.int (σ.1 (b + 3) (sg_x x4))]) (rest := []) ⟨hx, hb, hml, hown, hts⟩ (c_X3_take l D κ b σ (b + 8) (σ.1 (b + 3) (sg_x x4)) _ (sg_kS b) er1) (cwV 1 hts (gwV wt_615 wt_400 wt_401 wt_5 wt_402) rfl rfl rfl (by decide +kernel) ⟨Nat.le_of_ble_eq_true rfl, Nat.le_of_ble_eq_true rfl⟩) (CW_preV hK hC (sg_gKey (sg_kS b)) rfl) rfl rfl hl.1 rfl (lv_room (Nat.le_of_ble_eq_true rfl)) dX7_find_58 ⟨Nat.zero_le _, Nat.zero_le _⟩) hS (fun _ _ h => h) (fun _ h => h) (fun u t H locs ht _ hp hB _ _ hS => ?_)
    have hC : CW D κ b r1 H := CW_b hB ht hp
    obtain ⟨v2, ev2, h⟩ := sg_lte h
    refine lv_iinc (v := v2) (lv' := [(4, .int v2), (0, .ref b), (1, .int x1), (2, .int x2), (3, .int x3)]) (k := 4) hx hb dX7_find_61 hl rfl (sg_inc (by decide) ev2) (by decide) rfl (fun ls hl => ?_)
    refine lv_goto (tgt := 32) hx hb dX7_find_64 (by decide) ?_
    exact hr32 h (lv_sub hl [1, 2, 3, 4, 0] rfl) hC hS
set_option maxHeartbeats 4000000 in
theorem w_X7_find_B32 {p : Program} {l : Launch} {e : Env} {s : State} {m : MethodId} {args : Array Value} {below : List Frame} {meth : Method} {c : Code} {Q : State → Prop} {D : va_G} {κ : Nat → ClassId} {b : Nat} {H0 : Heap} {rr : Int32 × Sg} (hZ : sg_Z p c s m args D κ cX7_find 6 RX7 wsX7_find) (hret : ∀ (v : Int32) (u : Sg) (H : Heap) (locs : List Loc) (pc : Nat) (ls : Array Slot), some (v, u) = some rr → CW D κ b u H → va_S (sg_A b 892) H0 H locs → decode cX7_find pc = .ok (.ireturn, 1) → W p l e rm_X7_find s m args below meth c H locs 0 0 Q (F0 m pc ls [.int v])) : ∀ n : Nat, ∀ {σ : Sg} {x1 : Int32} {x2 : Int32} {x3 : Int32} {x4 : Int32} {H : Heap} {locs : List Loc} {ls : Array Slot}, fn_X7_find_B32 b n σ x1 x2 x3 x4 = some rr → lv_has ls 6 [(0, .ref b), (1, .int x1), (2, .int x2), (3, .int x3), (4, .int x4)] → CW D κ b σ H → va_S (sg_A b 892) H0 H locs → W p l e rm_X7_find s m args below meth c H locs 0 0 Q (F0 m 32 ls []) := by
  intro n
  induction n with
  | zero => intro σ x1 x2 x3 x4 H locs ls h hl hC hS; cases (show (none : Option (Int32 × Sg)) = some rr from h)
  | succ n ih =>
    intro σ x1 x2 x3 x4 H locs ls h hl hC hS
    exact w_X7_find_B32b hZ hret ih (show fn_X7_find_B32b b (fn_X7_find_B32 b n) σ x1 x2 x3 x4 = some rr from h)  hl hC hS
def fn_X7_find (b : Nat) (σ : Sg) (x1 : Int32) (x2 : Int32) (x3 : Int32) : Option (Int32 × Sg) :=
  (if x1 < 0 then
  some ((-1), σ)
  else (if (999 : Int32) < x1 then
  some ((-1), σ)
  else (if x3 < 0 then
  some ((-1), σ)
  else (if x3 ≤ 2 then
  ((fn_X3_clear b σ (b + 8)).bind fun r1 =>
  fn_X7_find_B32 b sg_N r1 x1 x2 x3 0)
  else some ((-1), σ)))))
set_option maxHeartbeats 4000000 in
set_option maxRecDepth 100000 in
theorem w_X7_find_B0 {p : Program} {l : Launch} {e : Env} {s : State} {m : MethodId} {args : Array Value} {below : List Frame} {meth : Method} {c : Code} {Q : State → Prop} {D : va_G} {κ : Nat → ClassId} {b : Nat} {H0 : Heap} {rr : Int32 × Sg} (hZ : sg_Z p c s m args D κ cX7_find 6 RX7 wsX7_find) (hret : ∀ (v : Int32) (u : Sg) (H : Heap) (locs : List Loc) (pc : Nat) (ls : Array Slot), some (v, u) = some rr → CW D κ b u H → va_S (sg_A b 892) H0 H locs → decode cX7_find pc = .ok (.ireturn, 1) → W p l e rm_X7_find s m args below meth c H locs 0 0 Q (F0 m pc ls [.int v])) : ∀ {σ : Sg} {x1 : Int32} {x2 : Int32} {x3 : Int32} {H : Heap} {locs : List Loc} {ls : Array Slot}, fn_X7_find b σ x1 x2 x3 = some rr → lv_has ls 6 [(0, .ref b), (1, .int x1), (2, .int x2), (3, .int x3)] → CW D κ b σ H → va_S (sg_A b 892) H0 H locs → W p l e rm_X7_find s m args below meth c H locs 0 0 Q (F0 m 0 ls []) := by
  obtain ⟨hx, hb, hml, hown, hts, hK⟩ := hZ
  intro σ x1 x2 x3 H locs ls h hl hC hS
  unfold fn_X7_find at h
  refine lv_iload_n hx hb dX7_find_0 rfl (lv_at hl 1 rfl) ?_
  refine lv_if_lt (tgt := 20) hx hb dX7_find_1 (by decide) (fun hc => ?_) (fun hc => ?_)
  · replace h := (if_pos hc).symm.trans h
    refine lv_iconst (v := (-1)) hx hb dX7_find_20 (by decide) ?_
    exact hret _ _ _ _ _ _ h hC hS dX7_find_21
  · replace h := (if_neg hc).symm.trans h
    refine lv_iload_n hx hb dX7_find_4 rfl (lv_at hl 1 rfl) ?_
    refine lv_sipush (v := 999) hx hb dX7_find_5 (by decide) ?_
    refine lv_icmp_gt (tgt := 20) hx hb dX7_find_8 (by decide) (fun hc => ?_) (fun hc => ?_)
    · replace h := (if_pos hc).symm.trans h
      refine lv_iconst (v := (-1)) hx hb dX7_find_20 (by decide) ?_
      exact hret _ _ _ _ _ _ h hC hS dX7_find_21
    · replace h := (if_neg hc).symm.trans h
      refine lv_iload_n hx hb dX7_find_11 rfl (lv_at hl 3 rfl) ?_
      refine lv_if_lt (tgt := 20) hx hb dX7_find_12 (by decide) (fun hc => ?_) (fun hc => ?_)
      · replace h := (if_pos hc).symm.trans h
        refine lv_iconst (v := (-1)) hx hb dX7_find_20 (by decide) ?_
        exact hret _ _ _ _ _ _ h hC hS dX7_find_21
      · replace h := (if_neg hc).symm.trans h
        refine lv_iload_n hx hb dX7_find_15 rfl (lv_at hl 3 rfl) ?_
        refine lv_iconst (v := 2) hx hb dX7_find_16 (by decide) ?_
        refine lv_icmp_le (tgt := 22) hx hb dX7_find_17 (by decide) (fun hc => ?_) (fun hc => ?_)
        · replace h := (if_pos hc).symm.trans h
          refine lv_aload_n hx hb dX7_find_22 rfl (lv_at hl 0 rfl) ?_
          refine va_get (D := D) (ci := 7) (v := .ref (b + 8)) (C := RX7) (T := TX7) (N := 6) hx hb hts (wqs inW_X7) hown hK.1 hC.1 (b - b) sg_gShelf rfl 4 (by decide) (hts _ (wq wt_196)) (fun _ h9 => h9) rfl dX7_find_23 ?_
          obtain ⟨r1, er1, h⟩ := Option.bind_eq_some_iff.mp h
          refine va_callv (va_runV (As := []) (rest := []) ⟨hx, hb, hml, hown, hts⟩ (c_X3_clear l D κ b σ (b + 8) _ (sg_kS b) er1) (cwV 0 hts (gwV wt_614 wt_383 wt_384 wt_5 wt_385) rfl rfl rfl (by decide +kernel) ⟨Nat.le_of_ble_eq_true rfl, Nat.le_of_ble_eq_true rfl⟩) (CW_preV hK hC (sg_gKey (sg_kS b)) rfl) rfl rfl hl.1 rfl (lv_room (Nat.le_of_ble_eq_true rfl)) dX7_find_26 ⟨Nat.zero_le _, Nat.zero_le _⟩) hS (fun _ _ h => h) (fun _ h => h) (fun u t H locs ht _ hp hB _ _ hS => ?_)
          have hC : CW D κ b r1 H := CW_b hB ht hp
          refine lv_iconst (v := 0) hx hb dX7_find_29 (by decide) ?_
          refine lv_istore (lv' := [(4, .int 0), (0, .ref b), (1, .int x1), (2, .int x2), (3, .int x3)]) hx hb dX7_find_30 hl (by decide) rfl (fun ls hl => ?_)
          exact w_X7_find_B32 ⟨hx, hb, hml, hown, hts, hK⟩ hret  sg_N h (lv_sub hl [1, 2, 3, 4, 0] rfl) hC hS
        · replace h := (if_neg hc).symm.trans h
          refine lv_iconst (v := (-1)) hx hb dX7_find_20 (by decide) ?_
          exact hret _ _ _ _ _ _ h hC hS dX7_find_21
set_option maxHeartbeats 4000000 in
set_option maxRecDepth 100000 in
theorem c_X7_find (l : Launch) (D : va_G) (κ : Nat → ClassId) (b : Nat) (σ : Sg) (x1 : Int32) (x2 : Int32) (x3 : Int32) (rr : Int32 × Sg)  (h : fn_X7_find b σ x1 x2 x3 = some rr) : Met l yX7_find wsX7_find rm_X7_find (va_Pc [.ref b, .int x1, .int x2, .int x3] (fun U => KK D κ U ∧ CW D κ b σ U.heap)) (va_Qi (fun (r : Int32) (u : Sg) => r = rr.1 ∧ u = rr.2) (fun u t => CW D κ b u t.heap) (sg_A b 892)) 0 0 (sg_A b 892) := by
  refine Met.ofW (cc := cX7_find) (maxL := 6) (ret := (some .int)) (by decide) rfl ?_
  intro p e s m args below meth c s₁ B hml hv
  obtain ⟨rfl, hK, hC⟩ := hv
  have hr := B.returns
  have hlocks := B.notSynchronized
  have hl := lv_entry ([.ref b, .int x1, .int x2, .int x3]) (n := 6) (Nat.le_of_ble_eq_true rfl)
  rw [lg_entry_eq]
  generalize (lg_sl ([.ref b, .int x1, .int x2, .int x3]) ++ List.replicate (6 - (lg_sl ([.ref b, .int x1, .int x2, .int x3])).length) Slot.unset).toArray = ls at hl ⊢
  have hl : lv_has ls 6 [(0, .ref b), (1, .int x1), (2, .int x2), (3, .int x3)] := hl
  exact w_X7_find_B0 ⟨B.exec, B.bytes, hml, findClass_of_methodNamed B.named, atoms_spec (ws := wsX7_find) B.pre, hK⟩ (fun v u H locs pc ls hq hC hS hd => W.iret B.exec B.bytes hr (fun t ht hW => ⟨⟨v, _, rfl, ⟨congrArg Prod.fst (Option.some.inj hq), congrArg Prod.snd (Option.some.inj hq)⟩, CW_e ht hC⟩, hS.F ht⟩) hS.2.2 hd) h  hl hC va_S.rf
