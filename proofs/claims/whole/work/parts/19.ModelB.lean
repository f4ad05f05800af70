-- RecordShelfModel.leads(I)Z
theorem dX8_leads_0 : decode cX8_leads 0 = .ok (.aload_n 0, 1) := by decide +kernel
theorem dX8_leads_1 : decode cX8_leads 1 = .ok (.getfield 7, 3) := by decide +kernel
theorem dX8_leads_4 : decode cX8_leads 4 = .ok (.iload_n 1, 1) := by decide +kernel
theorem dX8_leads_5 : decode cX8_leads 5 = .ok (.iaload, 1) := by decide +kernel
theorem dX8_leads_6 : decode cX8_leads 6 = .ok (.istore_n 2, 1) := by decide +kernel
theorem dX8_leads_7 : decode cX8_leads 7 = .ok (.iload_n 1, 1) := by decide +kernel
theorem dX8_leads_8 : decode cX8_leads 8 = .ok (.iconst 5, 1) := by decide +kernel
theorem dX8_leads_9 : decode cX8_leads 9 = .ok (.if_icmp .ge 25, 3) := by decide +kernel
theorem dX8_leads_12 : decode cX8_leads 12 = .ok (.iload_n 2, 1) := by decide +kernel
theorem dX8_leads_13 : decode cX8_leads 13 = .ok (.bipush 48, 2) := by decide +kernel
theorem dX8_leads_15 : decode cX8_leads 15 = .ok (.isub, 1) := by decide +kernel
theorem dX8_leads_16 : decode cX8_leads 16 = .ok (.aload_n 0, 1) := by decide +kernel
theorem dX8_leads_17 : decode cX8_leads 17 = .ok (.getfield 65, 3) := by decide +kernel
theorem dX8_leads_20 : decode cX8_leads 20 = .ok (.iconst 5, 1) := by decide +kernel
theorem dX8_leads_21 : decode cX8_leads 21 = .ok (.iload_n 1, 1) := by decide +kernel
theorem dX8_leads_22 : decode cX8_leads 22 = .ok (.invokestatic 75, 3) := by decide +kernel
theorem dX8_leads_25 : decode cX8_leads 25 = .ok (.if_icmp .ne 7, 3) := by decide +kernel
theorem dX8_leads_28 : decode cX8_leads 28 = .ok (.iconst 1, 1) := by decide +kernel
theorem dX8_leads_29 : decode cX8_leads 29 = .ok (.goto 4, 3) := by decide +kernel
theorem dX8_leads_32 : decode cX8_leads 32 = .ok (.iconst 0, 1) := by decide +kernel
theorem dX8_leads_33 : decode cX8_leads 33 = .ok (.ireturn, 1) := by decide +kernel
theorem dX8_leads_34 : decode cX8_leads 34 = .ok (.iload_n 1, 1) := by decide +kernel
theorem dX8_leads_35 : decode cX8_leads 35 = .ok (.bipush 10, 2) := by decide +kernel
theorem dX8_leads_37 : decode cX8_leads 37 = .ok (.if_icmp .lt 15, 3) := by decide +kernel
theorem dX8_leads_40 : decode cX8_leads 40 = .ok (.iload_n 1, 1) := by decide +kernel
theorem dX8_leads_41 : decode cX8_leads 41 = .ok (.bipush 16, 2) := by decide +kernel
theorem dX8_leads_43 : decode cX8_leads 43 = .ok (.if_icmp .le 14, 3) := by decide +kernel
theorem dX8_leads_46 : decode cX8_leads 46 = .ok (.iload_n 1, 1) := by decide +kernel
theorem dX8_leads_47 : decode cX8_leads 47 = .ok (.bipush 20, 2) := by decide +kernel
theorem dX8_leads_49 : decode cX8_leads 49 = .ok (.if_icmp .ge 8, 3) := by decide +kernel
theorem dX8_leads_52 : decode cX8_leads 52 = .ok (.iload_n 2, 1) := by decide +kernel
theorem dX8_leads_53 : decode cX8_leads 53 = .ok (.invokestatic 79, 3) := by decide +kernel
theorem dX8_leads_56 : decode cX8_leads 56 = .ok (.ireturn, 1) := by decide +kernel
theorem dX8_leads_57 : decode cX8_leads 57 = .ok (.iload_n 1, 1) := by decide +kernel
theorem dX8_leads_58 : decode cX8_leads 58 = .ok (.bipush 12, 2) := by decide +kernel
theorem dX8_leads_60 : decode cX8_leads 60 = .ok (.if_icmp .ge 17, 3) := by decide +kernel
theorem dX8_leads_63 : decode cX8_leads 63 = .ok (.iload_n 2, 1) := by decide +kernel
theorem dX8_leads_64 : decode cX8_leads 64 = .ok (.bipush 50, 2) := by decide +kernel
theorem dX8_leads_66 : decode cX8_leads 66 = .ok (.if_icmp .ne 7, 3) := by decide +kernel
theorem dX8_leads_69 : decode cX8_leads 69 = .ok (.iconst 1, 1) := by decide +kernel
theorem dX8_leads_70 : decode cX8_leads 70 = .ok (.goto 71, 3) := by decide +kernel
theorem dX8_leads_73 : decode cX8_leads 73 = .ok (.iconst 0, 1) := by decide +kernel
theorem dX8_leads_74 : decode cX8_leads 74 = .ok (.goto 67, 3) := by decide +kernel
theorem dX8_leads_77 : decode cX8_leads 77 = .ok (.iload_n 1, 1) := by decide +kernel
theorem dX8_leads_78 : decode cX8_leads 78 = .ok (.bipush 17, 2) := by decide +kernel
theorem dX8_leads_80 : decode cX8_leads 80 = .ok (.if_icmp .ge 10, 3) := by decide +kernel
theorem dX8_leads_83 : decode cX8_leads 83 = .ok (.iload_n 2, 1) := by decide +kernel
theorem dX8_leads_84 : decode cX8_leads 84 = .ok (.invokestatic 59, 3) := by decide +kernel
theorem dX8_leads_87 : decode cX8_leads 87 = .ok (.goto 54, 3) := by decide +kernel
theorem dX8_leads_90 : decode cX8_leads 90 = .ok (.iload_n 1, 1) := by decide +kernel
theorem dX8_leads_91 : decode cX8_leads 91 = .ok (.bipush 20, 2) := by decide +kernel
theorem dX8_leads_93 : decode cX8_leads 93 = .ok (.if_icmp .ne 17, 3) := by decide +kernel
theorem dX8_leads_96 : decode cX8_leads 96 = .ok (.iload_n 2, 1) := by decide +kernel
theorem dX8_leads_97 : decode cX8_leads 97 = .ok (.bipush 52, 2) := by decide +kernel
theorem dX8_leads_99 : decode cX8_leads 99 = .ok (.if_icmp .ne 7, 3) := by decide +kernel
theorem dX8_leads_102 : decode cX8_leads 102 = .ok (.iconst 1, 1) := by decide +kernel
theorem dX8_leads_103 : decode cX8_leads 103 = .ok (.goto 38, 3) := by decide +kernel
theorem dX8_leads_106 : decode cX8_leads 106 = .ok (.iconst 0, 1) := by decide +kernel
theorem dX8_leads_107 : decode cX8_leads 107 = .ok (.goto 34, 3) := by decide +kernel
theorem dX8_leads_110 : decode cX8_leads 110 = .ok (.iload_n 1, 1) := by decide +kernel
theorem dX8_leads_111 : decode cX8_leads 111 = .ok (.bipush 21, 2) := by decide +kernel
theorem dX8_leads_113 : decode cX8_leads 113 = .ok (.if_icmp .ne 17, 3) := by decide +kernel
theorem dX8_leads_116 : decode cX8_leads 116 = .ok (.iload_n 2, 1) := by decide +kernel
theorem dX8_leads_117 : decode cX8_leads 117 = .ok (.bipush 53, 2) := by decide +kernel
theorem dX8_leads_119 : decode cX8_leads 119 = .ok (.if_icmp .ne 7, 3) := by decide +kernel
theorem dX8_leads_122 : decode cX8_leads 122 = .ok (.iconst 1, 1) := by decide +kernel
theorem dX8_leads_123 : decode cX8_leads 123 = .ok (.goto 18, 3) := by decide +kernel
theorem dX8_leads_126 : decode cX8_leads 126 = .ok (.iconst 0, 1) := by decide +kernel
theorem dX8_leads_127 : decode cX8_leads 127 = .ok (.goto 14, 3) := by decide +kernel
theorem dX8_leads_130 : decode cX8_leads 130 = .ok (.iload_n 2, 1) := by decide +kernel
theorem dX8_leads_131 : decode cX8_leads 131 = .ok (.bipush 48, 2) := by decide +kernel
theorem dX8_leads_133 : decode cX8_leads 133 = .ok (.if_icmp .ne 7, 3) := by decide +kernel
theorem dX8_leads_136 : decode cX8_leads 136 = .ok (.iconst 1, 1) := by decide +kernel
theorem dX8_leads_137 : decode cX8_leads 137 = .ok (.goto 4, 3) := by decide +kernel
theorem dX8_leads_140 : decode cX8_leads 140 = .ok (.iconst 0, 1) := by decide +kernel
theorem dX8_leads_141 : decode cX8_leads 141 = .ok (.ireturn, 1) := by decide +kernel
def rm_X8_leads : Room := { frames := 1, cells := 0, slots := 0, locals := 24 }
def fn_X8_leads_B52 (b : Nat) (σ : Sg) (x2 : Int32) : Option (Int32) :=
  ((fn_X8_isPlain x2).bind fun r1 =>
  (if sg_bo r1 then some r1 else none))
set_option maxHeartbeats 4000000 in
set_option maxRecDepth 100000 in
theorem w_X8_leads_B52 {p : Program} {l : Launch} {e : Env} {s : State} {m : MethodId} {args : Array Value} {below : List Frame} {meth : Method} {c : Code} {Q : State → Prop} {D : va_G} {κ : Nat → ClassId} {b : Nat} {H0 : Heap} {rr : Int32} {σ : Sg} (hZ : sg_Z p c s m args D κ cX8_leads 3 RX8 wsX8_leads) (hret : ∀ (v : Int32) (H : Heap) (locs : List Loc) (pc : Nat) (ls : Array Slot), some v = some rr → narrow .boolean (.int v) = .int v → MW D κ b σ H → va_S (sg_A b 16) H0 H locs → decode cX8_leads pc = .ok (.ireturn, 1) → W p l e rm_X8_leads s m args below meth c H locs 0 0 Q (F0 m pc ls [.int v])) : ∀ {x2 : Int32} {H : Heap} {locs : List Loc} {ls : Array Slot}, fn_X8_leads_B52 b σ x2 = some rr → lv_has ls 3 [(2, .int x2)] → MW D κ b σ H → va_S (sg_A b 16) H0 H locs → W p l e rm_X8_leads s m args below meth c H locs 0 0 Q (F0 m 52 ls []) := by
  obtain ⟨hx, hb, hml, hown, hts, hK⟩ := hZ
  intro x2 H locs ls h hl hC hS
  unfold fn_X8_leads_B52 at h
  refine lv_iload_n hx hb dX8_leads_52 rfl (lv_at hl 0 rfl) ?_
  obtain ⟨r1, er1, h⟩ := Option.bind_eq_some_iff.mp h
  refine va_calli (va_runS (As := [.int x2]) (rest := []) ⟨hx, hb, hml, hown, hts⟩ (c_X8_isPlain l D κ b σ x2 _ er1) (va_cwS 1 hts (gwS wt_748 wt_749 wt_9 wt_750) rfl rfl rfl (by decide +kernel) ⟨Nat.le_of_ble_eq_true rfl, Nat.le_of_ble_eq_true rfl⟩) (MW_preS hK hC) rfl rfl hl.1 rfl (lv_room (Nat.le_of_ble_eq_true rfl)) dX8_leads_53 ⟨Nat.zero_le _, Nat.zero_le _⟩) hS (fun _ _ h => h) (fun _ h => h) (fun r u t H locs ht _ hp hB _ _ hS => ?_)
  refine sg_topi hp.1 ?_
  have hC : MW D κ b σ H := MW_b hB ht hp.2
  obtain ⟨hg, h⟩ := sg_gd h
  exact hret _ _ _ _ _ h (sg_bn hg) hC hS dX8_leads_56
def fn_X8_leads_B57 (b : Nat) (σ : Sg) (x1 : Int32) (x2 : Int32) : Option (Int32) :=
  (if (12 : Int32) ≤ x1 then
  (if (17 : Int32) ≤ x1 then
  (if x1 = 20 then
  (if x2 = 52 then
  some 1
  else some 0)
  else (if x1 = 21 then
  (if x2 = 53 then
  some 1
  else some 0)
  else (if x2 = 48 then
  some 1
  else some 0)))
  else ((fn_X8_isDigit x2).bind fun r1 =>
  (if sg_bo r1 then some r1 else none)))
  else (if x2 = 50 then
  some 1
  else some 0))
set_option maxHeartbeats 4000000 in
set_option maxRecDepth 100000 in
theorem w_X8_leads_B57 {p : Program} {l : Launch} {e : Env} {s : State} {m : MethodId} {args : Array Value} {below : List Frame} {meth : Method} {c : Code} {Q : State → Prop} {D : va_G} {κ : Nat → ClassId} {b : Nat} {H0 : Heap} {rr : Int32} {σ : Sg} (hZ : sg_Z p c s m args D κ cX8_leads 3 RX8 wsX8_leads) (hret : ∀ (v : Int32) (H : Heap) (locs : List Loc) (pc : Nat) (ls : Array Slot), some v = some rr → narrow .boolean (.int v) = .int v → MW D κ b σ H → va_S (sg_A b 16) H0 H locs → decode cX8_leads pc = .ok (.ireturn, 1) → W p l e rm_X8_leads s m args below meth c H locs 0 0 Q (F0 m pc ls [.int v])) : ∀ {x1 : Int32} {x2 : Int32} {H : Heap} {locs : List Loc} {ls : Array Slot}, fn_X8_leads_B57 b σ x1 x2 = some rr → lv_has ls 3 [(1, .int x1), (2, .int x2)] → MW D κ b σ H → va_S (sg_A b 16) H0 H locs → W p l e rm_X8_leads s m args below meth c H locs 0 0 Q (F0 m 57 ls []) := by
  obtain ⟨hx, hb, hml, hown, hts, hK⟩ := hZ
  intro x1 x2 H locs ls h hl hC hS
  unfold fn_X8_leads_B57 at h
  refine lv_iload_n hx hb dX8_leads_57 rfl (lv_at hl 0 rfl) ?_
  refine lv_bipush (v := 12) hx hb dX8_leads_58 (by decide) ?_
  refine lv_icmp_ge (tgt := 77) hx hb dX8_leads_60 (by decide) (fun hc => ?_) (fun hc => ?_)
  · replace h := (if_pos hc).symm.trans h
    refine lv_iload_n hx hb dX8_leads_77 rfl (lv_at hl 0 rfl) ?_
    refine lv_bipush (v := 17) hx hb dX8_leads_78 (by decide) ?_
    refine lv_icmp_ge (tgt := 90) hx hb dX8_leads_80 (by decide) (fun hc => ?_) (fun hc => ?_)
    · replace h := (if_pos hc).symm.trans h
      refine lv_iload_n hx hb dX8_leads_90 rfl (lv_at hl 0 rfl) ?_
      refine lv_bipush (v := 20) hx hb dX8_leads_91 (by decide) ?_
      refine lv_icmp_ne (tgt := 110) hx hb dX8_leads_93 (by decide) (fun hc => ?_) (fun hc => ?_)
      · replace h := (if_neg hc).symm.trans h
        refine lv_iload_n hx hb dX8_leads_110 rfl (lv_at hl 0 rfl) ?_
        refine lv_bipush (v := 21) hx hb dX8_leads_111 (by decide) ?_
        refine lv_icmp_ne (tgt := 130) hx hb dX8_leads_113 (by decide) (fun hc => ?_) (fun hc => ?_)
        · replace h := (if_neg hc).symm.trans h
          refine lv_iload_n hx hb dX8_leads_130 rfl (lv_at hl 1 rfl) ?_
          refine lv_bipush (v := 48) hx hb dX8_leads_131 (by decide) ?_
          refine lv_icmp_ne (tgt := 140) hx hb dX8_leads_133 (by decide) (fun hc => ?_) (fun hc => ?_)
          · replace h := (if_neg hc).symm.trans h
            refine lv_iconst (v := 0) hx hb dX8_leads_140 (by decide) ?_
            exact hret _ _ _ _ _ h (by decide) hC hS dX8_leads_141
          · replace h := (if_pos hc).symm.trans h
            refine lv_iconst (v := 1) hx hb dX8_leads_136 (by decide) ?_
            refine lv_goto (tgt := 141) hx hb dX8_leads_137 (by decide) ?_
            exact hret _ _ _ _ _ h (by decide) hC hS dX8_leads_141
        · replace h := (if_pos hc).symm.trans h
          refine lv_iload_n hx hb dX8_leads_116 rfl (lv_at hl 1 rfl) ?_
          refine lv_bipush (v := 53) hx hb dX8_leads_117 (by decide) ?_
          refine lv_icmp_ne (tgt := 126) hx hb dX8_leads_119 (by decide) (fun hc => ?_) (fun hc => ?_)
          · replace h := (if_neg hc).symm.trans h
            refine lv_iconst (v := 0) hx hb dX8_leads_126 (by decide) ?_
            refine lv_goto (tgt := 141) hx hb dX8_leads_127 (by decide) ?_
            exact hret _ _ _ _ _ h (by decide) hC hS dX8_leads_141
          · replace h := (if_pos hc).symm.trans h
            refine lv_iconst (v := 1) hx hb dX8_leads_122 (by decide) ?_
            refine lv_goto (tgt := 141) hx hb dX8_leads_123 (by decide) ?_
            exact hret _ _ _ _ _ h (by decide) hC hS dX8_leads_141
      · replace h := (if_pos hc).symm.trans h
        refine lv_iload_n hx hb dX8_leads_96 rfl (lv_at hl 1 rfl) ?_
        refine lv_bipush (v := 52) hx hb dX8_leads_97 (by decide) ?_
        refine lv_icmp_ne (tgt := 106) hx hb dX8_leads_99 (by decide) (fun hc => ?_) (fun hc => ?_)
        · replace h := (if_neg hc).symm.trans h
          refine lv_iconst (v := 0) hx hb dX8_leads_106 (by decide) ?_
          refine lv_goto (tgt := 141) hx hb dX8_leads_107 (by decide) ?_
          exact hret _ _ _ _ _ h (by decide) hC hS dX8_leads_141
        · replace h := (if_pos hc).symm.trans h
          refine lv_iconst (v := 1) hx hb dX8_leads_102 (by decide) ?_
          refine lv_goto (tgt := 141) hx hb dX8_leads_103 (by decide) ?_
          exact hret _ _ _ _ _ h (by decide) hC hS dX8_leads_141
    · replace h := (if_neg hc).symm.trans h
      refine lv_iload_n hx hb dX8_leads_83 rfl (lv_at hl 1 rfl) ?_
      obtain ⟨r1, er1, h⟩ := Option.bind_eq_some_iff.mp h
      refine va_calli (va_runS (As := [.int x2]) (rest := []) ⟨hx, hb, hml, hown, hts⟩ (c_X8_isDigit l D κ b σ x2 _ er1) (va_cwS 1 hts (gwS wt_751 wt_752 wt_9 wt_753) rfl rfl rfl (by decide +kernel) ⟨Nat.le_of_ble_eq_true rfl, Nat.le_of_ble_eq_true rfl⟩) (MW_preS hK hC) rfl rfl hl.1 rfl (lv_room (Nat.le_of_ble_eq_true rfl)) dX8_leads_84 ⟨Nat.zero_le _, Nat.zero_le _⟩) hS (fun _ _ h => h) (fun _ h => h) (fun r u t H locs ht _ hp hB _ _ hS => ?_)
      refine sg_topi hp.1 ?_
      have hC : MW D κ b σ H := MW_b hB ht hp.2
      refine lv_goto (tgt := 141) hx hb dX8_leads_87 (by decide) ?_
      obtain ⟨hg, h⟩ := sg_gd h
      exact hret _ _ _ _ _ h (sg_bn hg) hC hS dX8_leads_141
  · replace h := (if_neg hc).symm.trans h
    refine lv_iload_n hx hb dX8_leads_63 rfl (lv_at hl 1 rfl) ?_
    refine lv_bipush (v := 50) hx hb dX8_leads_64 (by decide) ?_
    refine lv_icmp_ne (tgt := 73) hx hb dX8_leads_66 (by decide) (fun hc => ?_) (fun hc => ?_)
    · replace h := (if_neg hc).symm.trans h
      refine lv_iconst (v := 0) hx hb dX8_leads_73 (by decide) ?_
      refine lv_goto (tgt := 141) hx hb dX8_leads_74 (by decide) ?_
      exact hret _ _ _ _ _ h (by decide) hC hS dX8_leads_141
    · replace h := (if_pos hc).symm.trans h
      refine lv_iconst (v := 1) hx hb dX8_leads_69 (by decide) ?_
      refine lv_goto (tgt := 141) hx hb dX8_leads_70 (by decide) ?_
      exact hret _ _ _ _ _ h (by decide) hC hS dX8_leads_141
def fn_X8_leads (b : Nat) (σ : Sg) (x1 : Int32) : Option (Int32) :=
  (if sg_ib x1 600 then
  (sg_lt ((σ.1 (b + 1) (sg_x x1)) : Int32) fun v1 =>
  (if (5 : Int32) ≤ x1 then
  (if x1 < 10 then
  fn_X8_leads_B52 b σ v1
  else (if x1 ≤ 16 then
  fn_X8_leads_B57 b σ x1 v1
  else (if (20 : Int32) ≤ x1 then
  fn_X8_leads_B57 b σ x1 v1
  else fn_X8_leads_B52 b σ v1)))
  else ((fn_X8_digitOf (σ.1 b 1) 5 x1).bind fun r2 =>
  (if (v1 - 48) = r2 then
  some 1
  else some 0))))
  else none)
set_option maxHeartbeats 4000000 in
set_option maxRecDepth 100000 in
theorem w_X8_leads_B0 {p : Program} {l : Launch} {e : Env} {s : State} {m : MethodId} {args : Array Value} {below : List Frame} {meth : Method} {c : Code} {Q : State → Prop} {D : va_G} {κ : Nat → ClassId} {b : Nat} {H0 : Heap} {rr : Int32} {σ : Sg} (hZ : sg_Z p c s m args D κ cX8_leads 3 RX8 wsX8_leads) (hret : ∀ (v : Int32) (H : Heap) (locs : List Loc) (pc : Nat) (ls : Array Slot), some v = some rr → narrow .boolean (.int v) = .int v → MW D κ b σ H → va_S (sg_A b 16) H0 H locs → decode cX8_leads pc = .ok (.ireturn, 1) → W p l e rm_X8_leads s m args below meth c H locs 0 0 Q (F0 m pc ls [.int v])) : ∀ {x1 : Int32} {H : Heap} {locs : List Loc} {ls : Array Slot}, fn_X8_leads b σ x1 = some rr → lv_has ls 3 [(0, .ref b), (1, .int x1)] → MW D κ b σ H → va_S (sg_A b 16) H0 H locs → W p l e rm_X8_leads s m args below meth c H locs 0 0 Q (F0 m 0 ls []) := by
  obtain ⟨hx, hb, hml, hown, hts, hK⟩ := hZ
  intro x1 H locs ls h hl hC hS
  unfold fn_X8_leads at h
  refine lv_aload_n hx hb dX8_leads_0 rfl (lv_at hl 0 rfl) ?_
  refine va_get (D := D) (ci := 8) (v := .ref (b + 1)) (C := RX8) (T := TX8) (N := 21) hx hb hts (wqs inW_X8) hown hK.1 hC.1 (b - b) sg_gModel rfl 0 (by decide) (hts _ (wq wt_648)) (fun _ h9 => h9) rfl dX8_leads_1 ?_
  refine lv_iload_n hx hb dX8_leads_4 rfl (lv_at hl 1 rfl) ?_
  obtain ⟨hg, h⟩ := sg_gd h
  refine va_iald hx hb hK.1 hC.1 ((b + 1) - b) 0 sg_ga_text rfl (sg_in hg) dX8_leads_5 ?_
  obtain ⟨v1, ev1, h⟩ := sg_lte h
  refine sg_topi ev1 ?_
  refine lv_istore_n (lv' := [(2, .int v1), (0, .ref b), (1, .int x1)]) hx hb dX8_leads_6 rfl hl (by decide) rfl (fun ls hl => ?_)
  refine lv_iload_n hx hb dX8_leads_7 rfl (lv_at hl 2 rfl) ?_
  refine lv_iconst (v := 5) hx hb dX8_leads_8 (by decide) ?_
  refine lv_icmp_ge (tgt := 34) hx hb dX8_leads_9 (by decide) (fun hc => ?_) (fun hc => ?_)
  · replace h := (if_pos hc).symm.trans h
    refine lv_iload_n hx hb dX8_leads_34 rfl (lv_at hl 2 rfl) ?_
    refine lv_bipush (v := 10) hx hb dX8_leads_35 (by decide) ?_
    refine lv_icmp_lt (tgt := 52) hx hb dX8_leads_37 (by decide) (fun hc => ?_) (fun hc => ?_)
    · replace h := (if_pos hc).symm.trans h
      exact w_X8_leads_B52 ⟨hx, hb, hml, hown, hts, hK⟩ hret  h (lv_sub hl [0] rfl) hC hS
    · replace h := (if_neg hc).symm.trans h
      refine lv_iload_n hx hb dX8_leads_40 rfl (lv_at hl 2 rfl) ?_
      refine lv_bipush (v := 16) hx hb dX8_leads_41 (by decide) ?_
      refine lv_icmp_le (tgt := 57) hx hb dX8_leads_43 (by decide) (fun hc => ?_) (fun hc => ?_)
      · replace h := (if_pos hc).symm.trans h
        exact w_X8_leads_B57 ⟨hx, hb, hml, hown, hts, hK⟩ hret  h (lv_sub hl [2, 0] rfl) hC hS
      · replace h := (if_neg hc).symm.trans h
        refine lv_iload_n hx hb dX8_leads_46 rfl (lv_at hl 2 rfl) ?_
        refine lv_bipush (v := 20) hx hb dX8_leads_47 (by decide) ?_
        refine lv_icmp_ge (tgt := 57) hx hb dX8_leads_49 (by decide) (fun hc => ?_) (fun hc => ?_)
        · replace h := (if_pos hc).symm.trans h
          exact w_X8_leads_B57 ⟨hx, hb, hml, hown, hts, hK⟩ hret  h (lv_sub hl [2, 0] rfl) hC hS
        · replace h := (if_neg hc).symm.trans h
          exact w_X8_leads_B52 ⟨hx, hb, hml, hown, hts, hK⟩ hret  h (lv_sub hl [0] rfl) hC hS
  · replace h := (if_neg hc).symm.trans h
    refine lv_iload_n hx hb dX8_leads_12 rfl (lv_at hl 0 rfl) ?_
    refine lv_bipush (v := 48) hx hb dX8_leads_13 (by decide) ?_
    refine lv_isub hx hb dX8_leads_15 ?_
    refine lv_aload_n hx hb dX8_leads_16 rfl (lv_at hl 1 rfl) ?_
    refine va_get (D := D) (ci := 8) (v := .int (σ.1 b 1)) (C := RX8) (T := TX8) (N := 21) hx hb hts (wqs inW_X8) hown hK.1 hC.1 (b - b) sg_gModel rfl 1 (by decide) (hts _ (wq wt_649)) (fun _ h9 => h9) rfl dX8_leads_17 ?_
    refine lv_iconst (v := 5) hx hb dX8_leads_20 (by decide) ?_
    refine lv_iload_n hx hb dX8_leads_21 rfl (lv_at hl 2 rfl) ?_
    obtain ⟨r2, er2, h⟩ := Option.bind_eq_some_iff.mp h
    refine va_calli (va_runS (As := [.int (σ.1 b 1), .int 5, .int x1]) (rest := [.int (v1 - 48)]) ⟨hx, hb, hml, hown, hts⟩ (c_X8_digitOf l D κ b σ (σ.1 b 1) 5 x1 _ er2) (va_cwS 3 hts (gwS wt_745 wt_746 wt_9 wt_747) rfl rfl rfl (by decide +kernel) ⟨Nat.le_of_ble_eq_true rfl, Nat.le_of_ble_eq_true rfl⟩) (MW_preS hK hC) rfl rfl hl.1 rfl (lv_room (Nat.le_of_ble_eq_true rfl)) dX8_leads_22 ⟨Nat.zero_le _, Nat.zero_le _⟩) hS (fun _ _ h => h) (fun _ h => h) (fun r u t H locs ht _ hp hB _ _ hS => ?_)
    refine sg_topi hp.1 ?_
    have hC : MW D κ b σ H := MW_b hB ht hp.2
    refine lv_icmp_ne (tgt := 32) hx hb dX8_leads_25 (by decide) (fun hc => ?_) (fun hc => ?_)
    · replace h := (if_neg hc).symm.trans h
      refine lv_iconst (v := 0) hx hb dX8_leads_32 (by decide) ?_
      exact hret _ _ _ _ _ h (by decide) hC hS dX8_leads_33
    · replace h := (if_pos hc).symm.trans h
      refine lv_iconst (v := 1) hx hb dX8_leads_28 (by decide) ?_
      refine lv_goto (tgt := 33) hx hb dX8_leads_29 (by decide) ?_
      exact hret _ _ _ _ _ h (by decide) hC hS dX8_leads_33
set_option maxHeartbeats 4000000 in
set_option maxRecDepth 100000 in
theorem c_X8_leads (l : Launch) (D : va_G) (κ : Nat → ClassId) (b : Nat) (σ : Sg) (x1 : Int32) (rr : Int32)  (h : fn_X8_leads b σ x1 = some rr) : Met l yX8_leads wsX8_leads rm_X8_leads (va_Pc [.ref b, .int x1] (fun U => KK D κ U ∧ MW D κ b σ U.heap)) (va_Qi (fun (r : Int32) (u : Sg) => r = rr ∧ u = σ) (fun u t => MW D κ b u t.heap) (sg_A b 16)) 0 0 (sg_A b 16) := by
  refine Met.ofW (cc := cX8_leads) (maxL := 3) (ret := (some .boolean)) (by decide) rfl ?_
  intro p e s m args below meth c s₁ B hml hv
  obtain ⟨rfl, hK, hC⟩ := hv
  have hr := B.returns
  have hlocks := B.notSynchronized
  have hl := lv_entry ([.ref b, .int x1]) (n := 3) (Nat.le_of_ble_eq_true rfl)
  rw [lg_entry_eq]
  generalize (lg_sl ([.ref b, .int x1]) ++ List.replicate (3 - (lg_sl ([.ref b, .int x1])).length) Slot.unset).toArray = ls at hl ⊢
  have hl : lv_has ls 3 [(0, .ref b), (1, .int x1)] := hl
  exact w_X8_leads_B0 ⟨B.exec, B.bytes, hml, findClass_of_methodNamed B.named, atoms_spec (ws := wsX8_leads) B.pre, hK⟩ (fun v H locs pc ls hq hbo hC hS hd => W.zret B.exec B.bytes hr hbo (fun t ht hW => ⟨⟨v, _, rfl, ⟨Option.some.inj hq, rfl⟩, MW_e ht hC⟩, hS.F ht⟩) hS.2.2 hd) h  hl hC va_S.rf

-- RecordShelfModel.numberAt(II)I
theorem dX8_numberAt_0 : decode cX8_numberAt 0 = .ok (.iconst 0, 1) := by decide +kernel
theorem dX8_numberAt_1 : decode cX8_numberAt 1 = .ok (.istore_n 3, 1) := by decide +kernel
theorem dX8_numberAt_2 : decode cX8_numberAt 2 = .ok (.iload_n 1, 1) := by decide +kernel
theorem dX8_numberAt_3 : decode cX8_numberAt 3 = .ok (.istore 4, 2) := by decide +kernel
theorem dX8_numberAt_5 : decode cX8_numberAt 5 = .ok (.iload 4, 2) := by decide +kernel
theorem dX8_numberAt_7 : decode cX8_numberAt 7 = .ok (.iload_n 1, 1) := by decide +kernel
theorem dX8_numberAt_8 : decode cX8_numberAt 8 = .ok (.iload_n 2, 1) := by decide +kernel
theorem dX8_numberAt_9 : decode cX8_numberAt 9 = .ok (.iadd, 1) := by decide +kernel
theorem dX8_numberAt_10 : decode cX8_numberAt 10 = .ok (.if_icmp .ge 25, 3) := by decide +kernel
theorem dX8_numberAt_13 : decode cX8_numberAt 13 = .ok (.bipush 10, 2) := by decide +kernel
theorem dX8_numberAt_15 : decode cX8_numberAt 15 = .ok (.iload_n 3, 1) := by decide +kernel
theorem dX8_numberAt_16 : decode cX8_numberAt 16 = .ok (.imul, 1) := by decide +kernel
theorem dX8_numberAt_17 : decode cX8_numberAt 17 = .ok (.aload_n 0, 1) := by decide +kernel
theorem dX8_numberAt_18 : decode cX8_numberAt 18 = .ok (.getfield 7, 3) := by decide +kernel
theorem dX8_numberAt_21 : decode cX8_numberAt 21 = .ok (.iload 4, 2) := by decide +kernel
theorem dX8_numberAt_23 : decode cX8_numberAt 23 = .ok (.iaload, 1) := by decide +kernel
theorem dX8_numberAt_24 : decode cX8_numberAt 24 = .ok (.iadd, 1) := by decide +kernel
theorem dX8_numberAt_25 : decode cX8_numberAt 25 = .ok (.bipush 48, 2) := by decide +kernel
theorem dX8_numberAt_27 : decode cX8_numberAt 27 = .ok (.isub, 1) := by decide +kernel
theorem dX8_numberAt_28 : decode cX8_numberAt 28 = .ok (.istore_n 3, 1) := by decide +kernel
theorem dX8_numberAt_29 : decode cX8_numberAt 29 = .ok (.iinc 4 1, 3) := by decide +kernel
theorem dX8_numberAt_32 : decode cX8_numberAt 32 = .ok (.goto (-27), 3) := by decide +kernel
theorem dX8_numberAt_35 : decode cX8_numberAt 35 = .ok (.iload_n 3, 1) := by decide +kernel
theorem dX8_numberAt_36 : decode cX8_numberAt 36 = .ok (.ireturn, 1) := by decide +kernel
def rm_X8_numberAt : Room := { frames := 0, cells := 0, slots := 0, locals := 0 }
def fn_X8_numberAt_B5b (b : Nat) (σ : Sg) (z5 : Int32 → Int32 → Int32 → Int32 → Option (Int32)) (x1 : Int32) (x2 : Int32) (x3 : Int32) (x4 : Int32) : Option (Int32) :=
  (if ((x1 + x2) : Int32) ≤ x4 then
  some x3
  else (if sg_ib x4 600 then
  (sg_lt ((((10 * x3) + (σ.1 (b + 1) (sg_x x4))) - 48) : Int32) fun v1 =>
  (sg_lt (x4 + 1 : Int32) fun v2 =>
  z5 x1 x2 v1 v2))
  else none))
def fn_X8_numberAt_B5 (b : Nat) (σ : Sg) : Nat → Int32 → Int32 → Int32 → Int32 → Option (Int32)
  | 0 => fun _ _ _ _ => none
  | n + 1 => fun x1 x2 x3 x4 => fn_X8_numberAt_B5b b σ (fn_X8_numberAt_B5 b σ n) x1 x2 x3 x4
set_option maxHeartbeats 4000000 in
set_option maxRecDepth 100000 in
theorem w_X8_numberAt_B5b {p : Program} {l : Launch} {e : Env} {s : State} {m : MethodId} {args : Array Value} {below : List Frame} {meth : Method} {c : Code} {Q : State → Prop} {D : va_G} {κ : Nat → ClassId} {b : Nat} {H0 : Heap} {rr : Int32} {σ : Sg} (hZ : sg_Z p c s m args D κ cX8_numberAt 5 RX8 wsX8_numberAt) (hret : ∀ (v : Int32) (H : Heap) (locs : List Loc) (pc : Nat) (ls : Array Slot), some v = some rr → MW D κ b σ H → va_S (sg_A b 16) H0 H locs → decode cX8_numberAt pc = .ok (.ireturn, 1) → W p l e rm_X8_numberAt s m args below meth c H locs 0 0 Q (F0 m pc ls [.int v])) {z5 : Int32 → Int32 → Int32 → Int32 → Option (Int32)} (hr5 : ∀ {x1 : Int32} {x2 : Int32} {x3 : Int32} {x4 : Int32} {H : Heap} {locs : List Loc} {ls : Array Slot}, z5 x1 x2 x3 x4 = some rr → lv_has ls 5 [(0, .ref b), (1, .int x1), (2, .int x2), (3, .int x3), (4, .int x4)] → MW D κ b σ H → va_S (sg_A b 16) H0 H locs → W p l e rm_X8_numberAt s m args below meth c H locs 0 0 Q (F0 m 5 ls [])) : ∀ {x1 : Int32} {x2 : Int32} {x3 : Int32} {x4 : Int32} {H : Heap} {locs : List Loc} {ls : Array Slot}, fn_X8_numberAt_B5b b σ z5 x1 x2 x3 x4 = some rr → lv_has ls 5 [(0, .ref b), (1, .int x1), (2, .int x2), (3, .int x3), (4, .int x4)] → MW D κ b σ H → va_S (sg_A b 16) H0 H locs → W p l e rm_X8_numberAt s m args below meth c H locs 0 0 Q (F0 m 5 ls []) := by
  obtain ⟨hx, hb, hml, hown, hts, hK⟩ := hZ
  intro x1 x2 x3 x4 H locs ls h hl hC hS
  unfold fn_X8_numberAt_B5b at h
  refine lv_iload hx hb dX8_numberAt_5 (lv_at hl 4 rfl) ?_
  refine lv_iload_n hx hb dX8_numberAt_7 rfl (lv_at hl 1 rfl) ?_
  refine lv_iload_n hx hb dX8_numberAt_8 rfl (lv_at hl 2 rfl) ?_
  refine lv_iadd hx hb dX8_numberAt_9 ?_
  refine lv_icmp_ge (tgt := 35) hx hb dX8_numberAt_10 (by decide) (fun hc => ?_) (fun hc => ?_)
  · replace h := (if_pos hc).symm.trans h
    refine lv_iload_n hx hb dX8_numberAt_35 rfl (lv_at hl 3 rfl) ?_
    exact hret _ _ _ _ _ h hC hS dX8_numberAt_36
  · replace h := (if_neg hc).symm.trans h
    refine lv_bipush (v := 10) hx hb dX8_numberAt_13 (by decide) ?_
    refine lv_iload_n hx hb dX8_numberAt_15 rfl (lv_at hl 3 rfl) ?_
    refine lv_imul hx hb dX8_numberAt_16 ?_
    refine lv_aload_n hx hb dX8_numberAt_17 rfl (lv_at hl 0 rfl) ?_
    refine va_get (D := D) (ci := 8) (v := .ref (b + 1)) (C := RX8) (T := TX8) (N := 21) hx hb hts (wqs inW_X8) hown hK.1 hC.1 (b - b) sg_gModel rfl 0 (by decide) (hts _ (wq wt_648)) (fun _ h9 => h9) rfl dX8_numberAt_18 ?_
    refine lv_iload hx hb dX8_numberAt_21 (lv_at hl 4 rfl) ?_
    obtain ⟨hg, h⟩ := sg_gd h
    refine va_iald hx hb hK.1 hC.1 ((b + 1) - b) 0 sg_ga_text rfl (sg_in hg) dX8_numberAt_23 ?_
    refine lv_iadd hx hb dX8_numberAt_24 ?_
    refine lv_bipush (v := 48) hx hb dX8_numberAt_25 (by decide) ?_
    refine lv_isub hx hb dX8_numberAt_27 ?_
    obtain ⟨v1, ev1, h⟩ := sg_lte h
    refine sg_topi ev1 ?_
    refine lv_istore_n (lv' := [(3, .int v1), (0, .ref b), (1, .int x1), (2, .int x2), (4, .int x4)]) hx hb dX8_numberAt_28 rfl hl (by decide) rfl (fun ls hl => ?_)
    obtain ⟨v2, ev2, h⟩ := sg_lte h
    refine lv_iinc (v := v2) (lv' := [(4, .int v2), (3, .int v1), (0, .ref b), (1, .int x1), (2, .int x2)]) (k := 4) hx hb dX8_numberAt_29 hl rfl (sg_inc (by decide) ev2) (by decide) rfl (fun ls hl => ?_)
    refine lv_goto (tgt := 5) hx hb dX8_numberAt_32 (by decide) ?_
    exact hr5 h (lv_sub hl [2, 3, 4, 1, 0] rfl) hC hS
set_option maxHeartbeats 4000000 in
theorem w_X8_numberAt_B5 {p : Program} {l : Launch} {e : Env} {s : State} {m : MethodId} {args : Array Value} {below : List Frame} {meth : Method} {c : Code} {Q : State → Prop} {D : va_G} {κ : Nat → ClassId} {b : Nat} {H0 : Heap} {rr : Int32} {σ : Sg} (hZ : sg_Z p c s m args D κ cX8_numberAt 5 RX8 wsX8_numberAt) (hret : ∀ (v : Int32) (H : Heap) (locs : List Loc) (pc : Nat) (ls : Array Slot), some v = some rr → MW D κ b σ H → va_S (sg_A b 16) H0 H locs → decode cX8_numberAt pc = .ok (.ireturn, 1) → W p l e rm_X8_numberAt s m args below meth c H locs 0 0 Q (F0 m pc ls [.int v])) : ∀ n : Nat, ∀ {x1 : Int32} {x2 : Int32} {x3 : Int32} {x4 : Int32} {H : Heap} {locs : List Loc} {ls : Array Slot}, fn_X8_numberAt_B5 b σ n x1 x2 x3 x4 = some rr → lv_has ls 5 [(0, .ref b), (1, .int x1), (2, .int x2), (3, .int x3), (4, .int x4)] → MW D κ b σ H → va_S (sg_A b 16) H0 H locs → W p l e rm_X8_numberAt s m args below meth c H locs 0 0 Q (F0 m 5 ls []) := by
  intro n
  induction n with
  | zero => intro x1 x2 x3 x4 H locs ls h hl hC hS; cases (show (none : Option (Int32)) = some rr from h)
  | succ n ih =>
    intro x1 x2 x3 x4 H locs ls h hl hC hS
    exact w_X8_numberAt_B5b hZ hret ih (show fn_X8_numberAt_B5b b σ (fn_X8_numberAt_B5 b σ n) x1 x2 x3 x4 = some rr from h)  hl hC hS
def fn_X8_numberAt (b : Nat) (σ : Sg) (x1 : Int32) (x2 : Int32) : Option (Int32) :=
  fn_X8_numberAt_B5 b σ sg_N x1 x2 0 x1
set_option maxHeartbeats 4000000 in
set_option maxRecDepth 100000 in
theorem w_X8_numberAt_B0 {p : Program} {l : Launch} {e : Env} {s : State} {m : MethodId} {args : Array Value} {below : List Frame} {meth : Method} {c : Code} {Q : State → Prop} {D : va_G} {κ : Nat → ClassId} {b : Nat} {H0 : Heap} {rr : Int32} {σ : Sg} (hZ : sg_Z p c s m args D κ cX8_numberAt 5 RX8 wsX8_numberAt) (hret : ∀ (v : Int32) (H : Heap) (locs : List Loc) (pc : Nat) (ls : Array Slot), some v = some rr → MW D κ b σ H → va_S (sg_A b 16) H0 H locs → decode cX8_numberAt pc = .ok (.ireturn, 1) → W p l e rm_X8_numberAt s m args below meth c H locs 0 0 Q (F0 m pc ls [.int v])) : ∀ {x1 : Int32} {x2 : Int32} {H : Heap} {locs : List Loc} {ls : Array Slot}, fn_X8_numberAt b σ x1 x2 = some rr → lv_has ls 5 [(0, .ref b), (1, .int x1), (2, .int x2)] → MW D κ b σ H → va_S (sg_A b 16) H0 H locs → W p l e rm_X8_numberAt s m args below meth c H locs 0 0 Q (F0 m 0 ls []) := by
  obtain ⟨hx, hb, hml, hown, hts, hK⟩ := hZ
  intro x1 x2 H locs ls h hl hC hS
  unfold fn_X8_numberAt at h
  refine lv_iconst (v := 0) hx hb dX8_numberAt_0 (by decide) ?_
  refine lv_istore_n (lv' := [(3, .int 0), (0, .ref b), (1, .int x1), (2, .int x2)]) hx hb dX8_numberAt_1 rfl hl (by decide) rfl (fun ls hl => ?_)
  refine lv_iload_n hx hb dX8_numberAt_2 rfl (lv_at hl 2 rfl) ?_
  refine lv_istore (lv' := [(4, .int x1), (3, .int 0), (0, .ref b), (1, .int x1), (2, .int x2)]) hx hb dX8_numberAt_3 hl (by decide) rfl (fun ls hl => ?_)
  exact w_X8_numberAt_B5 ⟨hx, hb, hml, hown, hts, hK⟩ hret  sg_N h (lv_sub hl [2, 3, 4, 1, 0] rfl) hC hS
set_option maxHeartbeats 4000000 in
set_option maxRecDepth 100000 in
theorem c_X8_numberAt (l : Launch) (D : va_G) (κ : Nat → ClassId) (b : Nat) (σ : Sg) (x1 : Int32) (x2 : Int32) (rr : Int32)  (h : fn_X8_numberAt b σ x1 x2 = some rr) : Met l yX8_numberAt wsX8_numberAt rm_X8_numberAt (va_Pc [.ref b, .int x1, .int x2] (fun U => KK D κ U ∧ MW D κ b σ U.heap)) (va_Qi (fun (r : Int32) (u : Sg) => r = rr ∧ u = σ) (fun u t => MW D κ b u t.heap) (sg_A b 16)) 0 0 (sg_A b 16) := by
  refine Met.ofW (cc := cX8_numberAt) (maxL := 5) (ret := (some .int)) (by decide) rfl ?_
  intro p e s m args below meth c s₁ B hml hv
  obtain ⟨rfl, hK, hC⟩ := hv
  have hr := B.returns
  have hlocks := B.notSynchronized
  have hl := lv_entry ([.ref b, .int x1, .int x2]) (n := 5) (Nat.le_of_ble_eq_true rfl)
  rw [lg_entry_eq]
  generalize (lg_sl ([.ref b, .int x1, .int x2]) ++ List.replicate (5 - (lg_sl ([.ref b, .int x1, .int x2])).length) Slot.unset).toArray = ls at hl ⊢
  have hl : lv_has ls 5 [(0, .ref b), (1, .int x1), (2, .int x2)] := hl
  exact w_X8_numberAt_B0 ⟨B.exec, B.bytes, hml, findClass_of_methodNamed B.named, atoms_spec (ws := wsX8_numberAt) B.pre, hK⟩ (fun v H locs pc ls hq hC hS hd => W.iret B.exec B.bytes hr (fun t ht hW => ⟨⟨v, _, rfl, ⟨Option.some.inj hq, rfl⟩, MW_e ht hC⟩, hS.F ht⟩) hS.2.2 hd) h  hl hC va_S.rf

-- RecordShelfModel.readLeader()I
theorem dX8_readLeader_0 : decode cX8_readLeader 0 = .ok (.iconst 0, 1) := by decide +kernel
theorem dX8_readLeader_1 : decode cX8_readLeader 1 = .ok (.istore_n 1, 1) := by decide +kernel
theorem dX8_readLeader_2 : decode cX8_readLeader 2 = .ok (.iconst 0, 1) := by decide +kernel
theorem dX8_readLeader_3 : decode cX8_readLeader 3 = .ok (.istore_n 2, 1) := by decide +kernel
theorem dX8_readLeader_4 : decode cX8_readLeader 4 = .ok (.iload_n 2, 1) := by decide +kernel
theorem dX8_readLeader_5 : decode cX8_readLeader 5 = .ok (.bipush 24, 2) := by decide +kernel
theorem dX8_readLeader_7 : decode cX8_readLeader 7 = .ok (.if_icmp .ge 117, 3) := by decide +kernel
theorem dX8_readLeader_10 : decode cX8_readLeader 10 = .ok (.aload_n 0, 1) := by decide +kernel
theorem dX8_readLeader_11 : decode cX8_readLeader 11 = .ok (.getfield 72, 3) := by decide +kernel
theorem dX8_readLeader_14 : decode cX8_readLeader 14 = .ok (.ifCond .ne 110, 3) := by decide +kernel
theorem dX8_readLeader_17 : decode cX8_readLeader 17 = .ok (.iload_n 2, 1) := by decide +kernel
theorem dX8_readLeader_18 : decode cX8_readLeader 18 = .ok (.aload_n 0, 1) := by decide +kernel
theorem dX8_readLeader_19 : decode cX8_readLeader 19 = .ok (.getfield 65, 3) := by decide +kernel
theorem dX8_readLeader_22 : decode cX8_readLeader 22 = .ok (.if_icmp .lt 16, 3) := by decide +kernel
theorem dX8_readLeader_25 : decode cX8_readLeader 25 = .ok (.aload_n 0, 1) := by decide +kernel
theorem dX8_readLeader_26 : decode cX8_readLeader 26 = .ok (.bipush (-3), 2) := by decide +kernel
theorem dX8_readLeader_28 : decode cX8_readLeader 28 = .ok (.aload_n 0, 1) := by decide +kernel
theorem dX8_readLeader_29 : decode cX8_readLeader 29 = .ok (.getfield 65, 3) := by decide +kernel
theorem dX8_readLeader_32 : decode cX8_readLeader 32 = .ok (.invokevirtual 82, 3) := by decide +kernel
theorem dX8_readLeader_35 : decode cX8_readLeader 35 = .ok (.goto 83, 3) := by decide +kernel
theorem dX8_readLeader_38 : decode cX8_readLeader 38 = .ok (.aload_n 0, 1) := by decide +kernel
theorem dX8_readLeader_39 : decode cX8_readLeader 39 = .ok (.iload_n 2, 1) := by decide +kernel
theorem dX8_readLeader_40 : decode cX8_readLeader 40 = .ok (.invokevirtual 86, 3) := by decide +kernel
theorem dX8_readLeader_43 : decode cX8_readLeader 43 = .ok (.ifCond .ne 13, 3) := by decide +kernel
theorem dX8_readLeader_46 : decode cX8_readLeader 46 = .ok (.aload_n 0, 1) := by decide +kernel
theorem dX8_readLeader_47 : decode cX8_readLeader 47 = .ok (.bipush (-3), 2) := by decide +kernel
theorem dX8_readLeader_49 : decode cX8_readLeader 49 = .ok (.iload_n 2, 1) := by decide +kernel
theorem dX8_readLeader_50 : decode cX8_readLeader 50 = .ok (.invokevirtual 82, 3) := by decide +kernel
theorem dX8_readLeader_53 : decode cX8_readLeader 53 = .ok (.goto 65, 3) := by decide +kernel
theorem dX8_readLeader_56 : decode cX8_readLeader 56 = .ok (.iload_n 2, 1) := by decide +kernel
theorem dX8_readLeader_57 : decode cX8_readLeader 57 = .ok (.bipush 16, 2) := by decide +kernel
theorem dX8_readLeader_59 : decode cX8_readLeader 59 = .ok (.if_icmp .ne 59, 3) := by decide +kernel
theorem dX8_readLeader_62 : decode cX8_readLeader 62 = .ok (.aload_n 0, 1) := by decide +kernel
theorem dX8_readLeader_63 : decode cX8_readLeader 63 = .ok (.bipush 12, 2) := by decide +kernel
theorem dX8_readLeader_65 : decode cX8_readLeader 65 = .ok (.iconst 5, 1) := by decide +kernel
theorem dX8_readLeader_66 : decode cX8_readLeader 66 = .ok (.invokevirtual 89, 3) := by decide +kernel
theorem dX8_readLeader_69 : decode cX8_readLeader 69 = .ok (.istore_n 1, 1) := by decide +kernel
theorem dX8_readLeader_70 : decode cX8_readLeader 70 = .ok (.iload_n 1, 1) := by decide +kernel
theorem dX8_readLeader_71 : decode cX8_readLeader 71 = .ok (.bipush 25, 2) := by decide +kernel
theorem dX8_readLeader_73 : decode cX8_readLeader 73 = .ok (.if_icmp .lt 31, 3) := by decide +kernel
theorem dX8_readLeader_76 : decode cX8_readLeader 76 = .ok (.iload_n 1, 1) := by decide +kernel
theorem dX8_readLeader_77 : decode cX8_readLeader 77 = .ok (.bipush 121, 2) := by decide +kernel
theorem dX8_readLeader_79 : decode cX8_readLeader 79 = .ok (.if_icmp .gt 25, 3) := by decide +kernel
theorem dX8_readLeader_82 : decode cX8_readLeader 82 = .ok (.iload_n 1, 1) := by decide +kernel
theorem dX8_readLeader_83 : decode cX8_readLeader 83 = .ok (.bipush 25, 2) := by decide +kernel
theorem dX8_readLeader_85 : decode cX8_readLeader 85 = .ok (.isub, 1) := by decide +kernel
theorem dX8_readLeader_86 : decode cX8_readLeader 86 = .ok (.bipush 12, 2) := by decide +kernel
theorem dX8_readLeader_88 : decode cX8_readLeader 88 = .ok (.irem, 1) := by decide +kernel
theorem dX8_readLeader_89 : decode cX8_readLeader 89 = .ok (.ifCond .ne 15, 3) := by decide +kernel
theorem dX8_readLeader_92 : decode cX8_readLeader 92 = .ok (.iload_n 1, 1) := by decide +kernel
theorem dX8_readLeader_93 : decode cX8_readLeader 93 = .ok (.aload_n 0, 1) := by decide +kernel
theorem dX8_readLeader_94 : decode cX8_readLeader 94 = .ok (.getfield 65, 3) := by decide +kernel
theorem dX8_readLeader_97 : decode cX8_readLeader 97 = .ok (.if_icmp .ge 7, 3) := by decide +kernel
theorem dX8_readLeader_100 : decode cX8_readLeader 100 = .ok (.iconst 1, 1) := by decide +kernel
theorem dX8_readLeader_101 : decode cX8_readLeader 101 = .ok (.goto 4, 3) := by decide +kernel
theorem dX8_readLeader_104 : decode cX8_readLeader 104 = .ok (.iconst 0, 1) := by decide +kernel
theorem dX8_readLeader_105 : decode cX8_readLeader 105 = .ok (.istore_n 3, 1) := by decide +kernel
theorem dX8_readLeader_106 : decode cX8_readLeader 106 = .ok (.iload_n 3, 1) := by decide +kernel
theorem dX8_readLeader_107 : decode cX8_readLeader 107 = .ok (.ifCond .ne 11, 3) := by decide +kernel
theorem dX8_readLeader_110 : decode cX8_readLeader 110 = .ok (.aload_n 0, 1) := by decide +kernel
theorem dX8_readLeader_111 : decode cX8_readLeader 111 = .ok (.bipush (-3), 2) := by decide +kernel
theorem dX8_readLeader_113 : decode cX8_readLeader 113 = .ok (.bipush 12, 2) := by decide +kernel
theorem dX8_readLeader_115 : decode cX8_readLeader 115 = .ok (.invokevirtual 82, 3) := by decide +kernel
theorem dX8_readLeader_118 : decode cX8_readLeader 118 = .ok (.iinc 2 1, 3) := by decide +kernel
theorem dX8_readLeader_121 : decode cX8_readLeader 121 = .ok (.goto (-117), 3) := by decide +kernel
theorem dX8_readLeader_124 : decode cX8_readLeader 124 = .ok (.iload_n 1, 1) := by decide +kernel
theorem dX8_readLeader_125 : decode cX8_readLeader 125 = .ok (.bipush 25, 2) := by decide +kernel
theorem dX8_readLeader_127 : decode cX8_readLeader 127 = .ok (.isub, 1) := by decide +kernel
theorem dX8_readLeader_128 : decode cX8_readLeader 128 = .ok (.bipush 12, 2) := by decide +kernel
theorem dX8_readLeader_130 : decode cX8_readLeader 130 = .ok (.idiv, 1) := by decide +kernel
theorem dX8_readLeader_131 : decode cX8_readLeader 131 = .ok (.ireturn, 1) := by decide +kernel
def rm_X8_readLeader : Room := { frames := 2, cells := 0, slots := 0, locals := 46 }
def fn_X8_readLeader_B124 (b : Nat) (σ : Sg) (x1 : Int32) : Option (Int32 × Sg) :=
  some (((x1 - 25) / 12), σ)
set_option maxHeartbeats 4000000 in
set_option maxRecDepth 100000 in
theorem w_X8_readLeader_B124 {p : Program} {l : Launch} {e : Env} {s : State} {m : MethodId} {args : Array Value} {below : List Frame} {meth : Method} {c : Code} {Q : State → Prop} {D : va_G} {κ : Nat → ClassId} {b : Nat} {H0 : Heap} {rr : Int32 × Sg} (hZ : sg_Z p c s m args D κ cX8_readLeader 4 RX8 wsX8_readLeader) (hret : ∀ (v : Int32) (u : Sg) (H : Heap) (locs : List Loc) (pc : Nat) (ls : Array Slot), some (v, u) = some rr → MW D κ b u H → va_S (sg_A b 16) H0 H locs → decode cX8_readLeader pc = .ok (.ireturn, 1) → W p l e rm_X8_readLeader s m args below meth c H locs 0 0 Q (F0 m pc ls [.int v])) : ∀ {σ : Sg} {x1 : Int32} {H : Heap} {locs : List Loc} {ls : Array Slot}, fn_X8_readLeader_B124 b σ x1 = some rr → lv_has ls 4 [(1, .int x1)] → MW D κ b σ H → va_S (sg_A b 16) H0 H locs → W p l e rm_X8_readLeader s m args below meth c H locs 0 0 Q (F0 m 124 ls []) := by
  obtain ⟨hx, hb, hml, hown, hts, hK⟩ := hZ
  intro σ x1 H locs ls h hl hC hS
  unfold fn_X8_readLeader_B124 at h
  refine lv_iload_n hx hb dX8_readLeader_124 rfl (lv_at hl 0 rfl) ?_
  refine lv_bipush (v := 25) hx hb dX8_readLeader_125 (by decide) ?_
  refine lv_isub hx hb dX8_readLeader_127 ?_
  refine lv_bipush (v := 12) hx hb dX8_readLeader_128 (by decide) ?_
  refine lv_idiv hx hb dX8_readLeader_130 (by decide) ?_
  exact hret _ _ _ _ _ _ h hC hS dX8_readLeader_131
def fn_X8_readLeader_B118 (b : Nat) (z4 : Sg → Int32 → Int32 → Option (Int32 × Sg)) (σ : Sg) (x1 : Int32) (x2 : Int32) : Option (Int32 × Sg) :=
  (sg_lt (x2 + 1 : Int32) fun v1 =>
  z4 σ x1 v1)
set_option maxHeartbeats 4000000 in
set_option maxRecDepth 100000 in
theorem w_X8_readLeader_B118 {p : Program} {l : Launch} {e : Env} {s : State} {m : MethodId} {args : Array Value} {below : List Frame} {meth : Method} {c : Code} {Q : State → Prop} {D : va_G} {κ : Nat → ClassId} {b : Nat} {H0 : Heap} {rr : Int32 × Sg} (hZ : sg_Z p c s m args D κ cX8_readLeader 4 RX8 wsX8_readLeader) (hret : ∀ (v : Int32) (u : Sg) (H : Heap) (locs : List Loc) (pc : Nat) (ls : Array Slot), some (v, u) = some rr → MW D κ b u H → va_S (sg_A b 16) H0 H locs → decode cX8_readLeader pc = .ok (.ireturn, 1) → W p l e rm_X8_readLeader s m args below meth c H locs 0 0 Q (F0 m pc ls [.int v])) {z4 : Sg → Int32 → Int32 → Option (Int32 × Sg)} (hr4 : ∀ {σ : Sg} {x1 : Int32} {x2 : Int32} {H : Heap} {locs : List Loc} {ls : Array Slot}, z4 σ x1 x2 = some rr → lv_has ls 4 [(0, .ref b), (1, .int x1), (2, .int x2)] → MW D κ b σ H → va_S (sg_A b 16) H0 H locs → W p l e rm_X8_readLeader s m args below meth c H locs 0 0 Q (F0 m 4 ls [])) : ∀ {σ : Sg} {x1 : Int32} {x2 : Int32} {H : Heap} {locs : List Loc} {ls : Array Slot}, fn_X8_readLeader_B118 b z4 σ x1 x2 = some rr → lv_has ls 4 [(0, .ref b), (1, .int x1), (2, .int x2)] → MW D κ b σ H → va_S (sg_A b 16) H0 H locs → W p l e rm_X8_readLeader s m args below meth c H locs 0 0 Q (F0 m 118 ls []) := by
  obtain ⟨hx, hb, hml, hown, hts, hK⟩ := hZ
  intro σ x1 x2 H locs ls h hl hC hS
  unfold fn_X8_readLeader_B118 at h
  obtain ⟨v1, ev1, h⟩ := sg_lte h
  refine lv_iinc (v := v1) (lv' := [(2, .int v1), (0, .ref b), (1, .int x1)]) (k := 2) hx hb dX8_readLeader_118 hl rfl (sg_inc (by decide) ev1) (by decide) rfl (fun ls hl => ?_)
  refine lv_goto (tgt := 4) hx hb dX8_readLeader_121 (by decide) ?_
  exact hr4 h (lv_sub hl [1, 2, 0] rfl) hC hS
def fn_X8_readLeader_B105 (b : Nat) (z4 : Sg → Int32 → Int32 → Option (Int32 × Sg)) (σ : Sg) (x1 : Int32) (x2 : Int32) (y0 : Int32) : Option (Int32 × Sg) :=
  (if y0 = 0 then
  ((fn_X8_fail b σ (-3) 12).bind fun r1 =>
  fn_X8_readLeader_B118 b z4 r1 x1 x2)
  else fn_X8_readLeader_B118 b z4 σ x1 x2)
set_option maxHeartbeats 4000000 in
set_option maxRecDepth 100000 in
theorem w_X8_readLeader_B105 {p : Program} {l : Launch} {e : Env} {s : State} {m : MethodId} {args : Array Value} {below : List Frame} {meth : Method} {c : Code} {Q : State → Prop} {D : va_G} {κ : Nat → ClassId} {b : Nat} {H0 : Heap} {rr : Int32 × Sg} (hZ : sg_Z p c s m args D κ cX8_readLeader 4 RX8 wsX8_readLeader) (hret : ∀ (v : Int32) (u : Sg) (H : Heap) (locs : List Loc) (pc : Nat) (ls : Array Slot), some (v, u) = some rr → MW D κ b u H → va_S (sg_A b 16) H0 H locs → decode cX8_readLeader pc = .ok (.ireturn, 1) → W p l e rm_X8_readLeader s m args below meth c H locs 0 0 Q (F0 m pc ls [.int v])) {z4 : Sg → Int32 → Int32 → Option (Int32 × Sg)} (hr4 : ∀ {σ : Sg} {x1 : Int32} {x2 : Int32} {H : Heap} {locs : List Loc} {ls : Array Slot}, z4 σ x1 x2 = some rr → lv_has ls 4 [(0, .ref b), (1, .int x1), (2, .int x2)] → MW D κ b σ H → va_S (sg_A b 16) H0 H locs → W p l e rm_X8_readLeader s m args below meth c H locs 0 0 Q (F0 m 4 ls [])) : ∀ {σ : Sg} {x1 : Int32} {x2 : Int32} {y0 : Int32} {H : Heap} {locs : List Loc} {ls : Array Slot}, fn_X8_readLeader_B105 b z4 σ x1 x2 y0 = some rr → lv_has ls 4 [(0, .ref b), (1, .int x1), (2, .int x2)] → MW D κ b σ H → va_S (sg_A b 16) H0 H locs → W p l e rm_X8_readLeader s m args below meth c H locs 0 0 Q (F0 m 105 ls [.int y0]) := by
  obtain ⟨hx, hb, hml, hown, hts, hK⟩ := hZ
  intro σ x1 x2 y0 H locs ls h hl hC hS
  unfold fn_X8_readLeader_B105 at h
  refine lv_istore_n (lv' := [(3, .int y0), (0, .ref b), (1, .int x1), (2, .int x2)]) hx hb dX8_readLeader_105 rfl hl (by decide) rfl (fun ls hl => ?_)
  refine lv_iload_n hx hb dX8_readLeader_106 rfl (lv_at hl 0 rfl) ?_
  refine lv_if_ne (tgt := 118) hx hb dX8_readLeader_107 (by decide) (fun hc => ?_) (fun hc => ?_)
  · replace h := (if_neg hc).symm.trans h
    exact w_X8_readLeader_B118 ⟨hx, hb, hml, hown, hts, hK⟩ hret hr4 h (lv_sub hl [1, 2, 3] rfl) hC hS
  · replace h := (if_pos hc).symm.trans h
    refine lv_aload_n hx hb dX8_readLeader_110 rfl (lv_at hl 1 rfl) ?_
    refine lv_bipush (v := (-3)) hx hb dX8_readLeader_111 (by decide) ?_
    refine lv_bipush (v := 12) hx hb dX8_readLeader_113 (by decide) ?_
    obtain ⟨r1, er1, h⟩ := Option.bind_eq_some_iff.mp h
    refine va_callv (va_runV (As := [.int (-3), .int 12]) (rest := []) ⟨hx, hb, hml, hown, hts⟩ (c_X8_fail l D κ b σ (-3) 12 _ er1) (cwV 2 hts (gwV wt_737 wt_739 wp_32 wt_9 wt_740) rfl rfl rfl (by decide +kernel) ⟨Nat.le_of_ble_eq_true rfl, Nat.le_of_ble_eq_true rfl⟩) (MW_preV hK hC sg_gModel rfl) rfl rfl hl.1 rfl (lv_room (Nat.le_of_ble_eq_true rfl)) dX8_readLeader_115 ⟨Nat.zero_le _, Nat.zero_le _⟩) hS (fun _ _ h => h) (fun _ h => h) (fun u t H locs ht _ hp hB _ _ hS => ?_)
    have hC : MW D κ b r1 H := MW_b hB ht hp
    exact w_X8_readLeader_B118 ⟨hx, hb, hml, hown, hts, hK⟩ hret hr4 h (lv_sub hl [1, 2, 3] rfl) hC hS
def fn_X8_readLeader_B104 (b : Nat) (z4 : Sg → Int32 → Int32 → Option (Int32 × Sg)) (σ : Sg) (x1 : Int32) (x2 : Int32) : Option (Int32 × Sg) :=
  fn_X8_readLeader_B105 b z4 σ x1 x2 0
set_option maxHeartbeats 4000000 in
set_option maxRecDepth 100000 in
theorem w_X8_readLeader_B104 {p : Program} {l : Launch} {e : Env} {s : State} {m : MethodId} {args : Array Value} {below : List Frame} {meth : Method} {c : Code} {Q : State → Prop} {D : va_G} {κ : Nat → ClassId} {b : Nat} {H0 : Heap} {rr : Int32 × Sg} (hZ : sg_Z p c s m args D κ cX8_readLeader 4 RX8 wsX8_readLeader) (hret : ∀ (v : Int32) (u : Sg) (H : Heap) (locs : List Loc) (pc : Nat) (ls : Array Slot), some (v, u) = some rr → MW D κ b u H → va_S (sg_A b 16) H0 H locs → decode cX8_readLeader pc = .ok (.ireturn, 1) → W p l e rm_X8_readLeader s m args below meth c H locs 0 0 Q (F0 m pc ls [.int v])) {z4 : Sg → Int32 → Int32 → Option (Int32 × Sg)} (hr4 : ∀ {σ : Sg} {x1 : Int32} {x2 : Int32} {H : Heap} {locs : List Loc} {ls : Array Slot}, z4 σ x1 x2 = some rr → lv_has ls 4 [(0, .ref b), (1, .int x1), (2, .int x2)] → MW D κ b σ H → va_S (sg_A b 16) H0 H locs → W p l e rm_X8_readLeader s m args below meth c H locs 0 0 Q (F0 m 4 ls [])) : ∀ {σ : Sg} {x1 : Int32} {x2 : Int32} {H : Heap} {locs : List Loc} {ls : Array Slot}, fn_X8_readLeader_B104 b z4 σ x1 x2 = some rr → lv_has ls 4 [(0, .ref b), (1, .int x1), (2, .int x2)] → MW D κ b σ H → va_S (sg_A b 16) H0 H locs → W p l e rm_X8_readLeader s m args below meth c H locs 0 0 Q (F0 m 104 ls []) := by
  obtain ⟨hx, hb, hml, hown, hts, hK⟩ := hZ
  intro σ x1 x2 H locs ls h hl hC hS
  unfold fn_X8_readLeader_B104 at h
  refine lv_iconst (v := 0) hx hb dX8_readLeader_104 (by decide) ?_
  exact w_X8_readLeader_B105 ⟨hx, hb, hml, hown, hts, hK⟩ hret hr4 h (lv_sub hl [0, 1, 2] rfl) hC hS
def fn_X8_readLeader_B4b (b : Nat) (z4 : Sg → Int32 → Int32 → Option (Int32 × Sg)) (σ : Sg) (x1 : Int32) (x2 : Int32) : Option (Int32 × Sg) :=
  (if (24 : Int32) ≤ x2 then
  fn_X8_readLeader_B124 b σ x1
  else (if (σ.1 b 12) = 0 then
  (if x2 < (σ.1 b 1) then
  ((fn_X8_leads b σ x2).bind fun r1 =>
  (if r1 = 0 then
  ((fn_X8_fail b σ (-3) x2).bind fun r3 =>
  fn_X8_readLeader_B118 b z4 r3 x1 x2)
  else (if x2 = 16 then
  ((fn_X8_numberAt b σ 12 5).bind fun r2 =>
  (if r2 < 25 then
  fn_X8_readLeader_B104 b z4 σ r2 x2
  else (if (121 : Int32) < r2 then
  fn_X8_readLeader_B104 b z4 σ r2 x2
  else (if ((r2 - 25) - (r2 - 25) / 12 * 12) = 0 then
  (if ((σ.1 b 1) : Int32) ≤ r2 then
  fn_X8_readLeader_B104 b z4 σ r2 x2
  else fn_X8_readLeader_B105 b z4 σ r2 x2 1)
  else fn_X8_readLeader_B104 b z4 σ r2 x2))))
  else fn_X8_readLeader_B118 b z4 σ x1 x2)))
  else ((fn_X8_fail b σ (-3) (σ.1 b 1)).bind fun r4 =>
  fn_X8_readLeader_B118 b z4 r4 x1 x2))
  else fn_X8_readLeader_B124 b σ x1))
def fn_X8_readLeader_B4 (b : Nat) : Nat → Sg → Int32 → Int32 → Option (Int32 × Sg)
  | 0 => fun _ _ _ => none
  | n + 1 => fun σ x1 x2 => fn_X8_readLeader_B4b b (fn_X8_readLeader_B4 b n) σ x1 x2
set_option maxHeartbeats 4000000 in
set_option maxRecDepth 100000 in
theorem w_X8_readLeader_B4b {p : Program} {l : Launch} {e : Env} {s : State} {m : MethodId} {args : Array Value} {below : List Frame} {meth : Method} {c : Code} {Q : State → Prop} {D : va_G} {κ : Nat → ClassId} {b : Nat} {H0 : Heap} {rr : Int32 × Sg} (hZ : sg_Z p c s m args D κ cX8_readLeader 4 RX8 wsX8_readLeader) (hret : ∀ (v : Int32) (u : Sg) (H : Heap) (locs : List Loc) (pc : Nat) (ls : Array Slot), some (v, u) = some rr → MW D κ b u H → va_S (sg_A b 16) H0 H locs → decode cX8_readLeader pc = .ok (.ireturn, 1) → W p l e rm_X8_readLeader s m args below meth c H locs 0 0 Q (F0 m pc ls [.int v])) {z4 : Sg → Int32 → Int32 → Option (Int32 × Sg)} (hr4 : ∀ {σ : Sg} {x1 : Int32} {x2 : Int32} {H : Heap} {locs : List Loc} {ls : Array Slot}, z4 σ x1 x2 = some rr → lv_has ls 4 [(0, .ref b), (1, .int x1), (2, .int x2)] → MW D κ b σ H → va_S (sg_A b 16) H0 H locs → W p l e rm_X8_readLeader s m args below meth c H locs 0 0 Q (F0 m 4 ls [])) : ∀ {σ : Sg} {x1 : Int32} {x2 : Int32} {H : Heap} {locs : List Loc} {ls : Array Slot}, fn_X8_readLeader_B4b b z4 σ x1 x2 = some rr → lv_has ls 4 [(0, .ref b), (1, .int x1), (2, .int x2)] → MW D κ b σ H → va_S (sg_A b 16) H0 H locs → W p l e rm_X8_readLeader s m args below meth c H locs 0 0 Q (F0 m 4 ls []) := by
  obtain ⟨hx, hb, hml, hown, hts, hK⟩ := hZ
  intro σ x1 x2 H locs ls h hl hC hS
  unfold fn_X8_readLeader_B4b at h
  refine lv_iload_n hx hb dX8_readLeader_4 rfl (lv_at hl 2 rfl) ?_
  refine lv_bipush (v := 24) hx hb dX8_readLeader_5 (by decide) ?_
  refine lv_icmp_ge (tgt := 124) hx hb dX8_readLeader_7 (by decide) (fun hc => ?_) (fun hc => ?_)
  · replace h := (if_pos hc).symm.trans h
    exact w_X8_readLeader_B124 ⟨hx, hb, hml, hown, hts, hK⟩ hret  h (lv_sub hl [1] rfl) hC hS
  · replace h := (if_neg hc).symm.trans h
    refine lv_aload_n hx hb dX8_readLeader_10 rfl (lv_at hl 0 rfl) ?_
    refine va_get (D := D) (ci := 8) (v := .int (σ.1 b 12)) (C := RX8) (T := TX8) (N := 21) hx hb hts (wqs inW_X8) hown hK.1 hC.1 (b - b) sg_gModel rfl 12 (by decide) (hts _ (wq wt_660)) (fun _ h9 => h9) rfl dX8_readLeader_11 ?_
    refine lv_if_ne (tgt := 124) hx hb dX8_readLeader_14 (by decide) (fun hc => ?_) (fun hc => ?_)
    · replace h := (if_neg hc).symm.trans h
      exact w_X8_readLeader_B124 ⟨hx, hb, hml, hown, hts, hK⟩ hret  h (lv_sub hl [1] rfl) hC hS
    · replace h := (if_pos hc).symm.trans h
      refine lv_iload_n hx hb dX8_readLeader_17 rfl (lv_at hl 2 rfl) ?_
      refine lv_aload_n hx hb dX8_readLeader_18 rfl (lv_at hl 0 rfl) ?_
      refine va_get (D := D) (ci := 8) (v := .int (σ.1 b 1)) (C := RX8) (T := TX8) (N := 21) hx hb hts (wqs inW_X8) hown hK.1 hC.1 (b - b) sg_gModel rfl 1 (by decide) (hts _ (wq wt_649)) (fun _ h9 => h9) rfl dX8_readLeader_19 ?_
      refine lv_icmp_lt (tgt := 38) hx hb dX8_readLeader_22 (by decide) (fun hc => ?_) (fun hc => ?_)
      · replace h := (if_pos hc).symm.trans h
        refine lv_aload_n hx hb dX8_readLeader_38 rfl (lv_at hl 0 rfl) ?_
        refine lv_iload_n hx hb dX8_readLeader_39 rfl (lv_at hl 2 rfl) ?_
        obtain ⟨r1, er1, h⟩ := Option.bind_eq_some_iff.mp h
        refine va_calli (va_runV (As := [.int x2]) (rest := []) ⟨hx, hb, hml, hown, hts⟩ (c_X8_leads l D κ b σ x2 _ er1) (cwV 1 hts (gwV wt_741 wt_743 wp_33 wt_9 wt_744) rfl rfl rfl (by decide +kernel) ⟨Nat.le_of_ble_eq_true rfl, Nat.le_of_ble_eq_true rfl⟩) (MW_preV hK hC sg_gModel rfl) rfl rfl hl.1 rfl (lv_room (Nat.le_of_ble_eq_true rfl)) dX8_readLeader_40 ⟨Nat.zero_le _, Nat.zero_le _⟩) hS (fun _ _ h => h) (fun _ h => h) (fun r u t H locs ht _ hp hB _ _ hS => ?_)
        refine sg_topi hp.1 ?_
        have hC : MW D κ b σ H := MW_b hB ht hp.2
        refine lv_if_ne (tgt := 56) hx hb dX8_readLeader_43 (by decide) (fun hc => ?_) (fun hc => ?_)
        · replace h := (if_neg hc).symm.trans h
          refine lv_iload_n hx hb dX8_readLeader_56 rfl (lv_at hl 2 rfl) ?_
          refine lv_bipush (v := 16) hx hb dX8_readLeader_57 (by decide) ?_
          refine lv_icmp_ne (tgt := 118) hx hb dX8_readLeader_59 (by decide) (fun hc => ?_) (fun hc => ?_)
          · replace h := (if_neg hc).symm.trans h
            exact w_X8_readLeader_B118 ⟨hx, hb, hml, hown, hts, hK⟩ hret hr4 h (lv_sub hl [0, 1, 2] rfl) hC hS
          · replace h := (if_pos hc).symm.trans h
            refine lv_aload_n hx hb dX8_readLeader_62 rfl (lv_at hl 0 rfl) ?_
            refine lv_bipush (v := 12) hx hb dX8_readLeader_63 (by decide) ?_
            refine lv_iconst (v := 5) hx hb dX8_readLeader_65 (by decide) ?_
            obtain ⟨r2, er2, h⟩ := Option.bind_eq_some_iff.mp h
            refine va_calli (va_runV (As := [.int 12, .int 5]) (rest := []) ⟨hx, hb, hml, hown, hts⟩ (c_X8_numberAt l D κ b σ 12 5 _ er2) (cwV 2 hts (gwV wt_754 wt_756 wp_34 wt_9 wt_757) rfl rfl rfl (by decide +kernel) ⟨Nat.le_of_ble_eq_true rfl, Nat.le_of_ble_eq_true rfl⟩) (MW_preV hK hC sg_gModel rfl) rfl rfl hl.1 rfl (lv_room (Nat.le_of_ble_eq_true rfl)) dX8_readLeader_66 ⟨Nat.zero_le _, Nat.zero_le _⟩) hS (fun _ _ h => h) (fun _ h => h) (fun r u t H locs ht _ hp hB _ _ hS => ?_)
            refine sg_topi hp.1 ?_
            have hC : MW D κ b σ H := MW_b hB ht hp.2
            refine lv_istore_n (lv' := [(1, .int r2), (0, .ref b), (2, .int x2)]) hx hb dX8_readLeader_69 rfl hl (by decide) rfl (fun ls hl => ?_)
            refine lv_iload_n hx hb dX8_readLeader_70 rfl (lv_at hl 0 rfl) ?_
            refine lv_bipush (v := 25) hx hb dX8_readLeader_71 (by decide) ?_
            refine lv_icmp_lt (tgt := 104) hx hb dX8_readLeader_73 (by decide) (fun hc => ?_) (fun hc => ?_)
            · replace h := (if_pos hc).symm.trans h
              exact w_X8_readLeader_B104 ⟨hx, hb, hml, hown, hts, hK⟩ hret hr4 h (lv_sub hl [1, 0, 2] rfl) hC hS
            · replace h := (if_neg hc).symm.trans h
              refine lv_iload_n hx hb dX8_readLeader_76 rfl (lv_at hl 0 rfl) ?_
              refine lv_bipush (v := 121) hx hb dX8_readLeader_77 (by decide) ?_
              refine lv_icmp_gt (tgt := 104) hx hb dX8_readLeader_79 (by decide) (fun hc => ?_) (fun hc => ?_)
              · replace h := (if_pos hc).symm.trans h
                exact w_X8_readLeader_B104 ⟨hx, hb, hml, hown, hts, hK⟩ hret hr4 h (lv_sub hl [1, 0, 2] rfl) hC hS
              · replace h := (if_neg hc).symm.trans h
                refine lv_iload_n hx hb dX8_readLeader_82 rfl (lv_at hl 0 rfl) ?_
                refine lv_bipush (v := 25) hx hb dX8_readLeader_83 (by decide) ?_
                refine lv_isub hx hb dX8_readLeader_85 ?_
                refine lv_bipush (v := 12) hx hb dX8_readLeader_86 (by decide) ?_
                refine lv_irem hx hb dX8_readLeader_88 (by decide) ?_
                refine lv_if_ne (tgt := 104) hx hb dX8_readLeader_89 (by decide) (fun hc => ?_) (fun hc => ?_)
                · replace h := (if_neg hc).symm.trans h
                  exact w_X8_readLeader_B104 ⟨hx, hb, hml, hown, hts, hK⟩ hret hr4 h (lv_sub hl [1, 0, 2] rfl) hC hS
                · replace h := (if_pos hc).symm.trans h
                  refine lv_iload_n hx hb dX8_readLeader_92 rfl (lv_at hl 0 rfl) ?_
                  refine lv_aload_n hx hb dX8_readLeader_93 rfl (lv_at hl 1 rfl) ?_
                  refine va_get (D := D) (ci := 8) (v := .int (σ.1 b 1)) (C := RX8) (T := TX8) (N := 21) hx hb hts (wqs inW_X8) hown hK.1 hC.1 (b - b) sg_gModel rfl 1 (by decide) (hts _ (wq wt_649)) (fun _ h9 => h9) rfl dX8_readLeader_94 ?_
                  refine lv_icmp_ge (tgt := 104) hx hb dX8_readLeader_97 (by decide) (fun hc => ?_) (fun hc => ?_)
                  · replace h := (if_pos hc).symm.trans h
                    exact w_X8_readLeader_B104 ⟨hx, hb, hml, hown, hts, hK⟩ hret hr4 h (lv_sub hl [1, 0, 2] rfl) hC hS
                  · replace h := (if_neg hc).symm.trans h
                    refine lv_iconst (v := 1) hx hb dX8_readLeader_100 (by decide) ?_
                    refine lv_goto (tgt := 105) hx hb dX8_readLeader_101 (by decide) ?_
                    exact w_X8_readLeader_B105 ⟨hx, hb, hml, hown, hts, hK⟩ hret hr4 h (lv_sub hl [1, 0, 2] rfl) hC hS
        · replace h := (if_pos hc).symm.trans h
          refine lv_aload_n hx hb dX8_readLeader_46 rfl (lv_at hl 0 rfl) ?_
          refine lv_bipush (v := (-3)) hx hb dX8_readLeader_47 (by decide) ?_
          refine lv_iload_n hx hb dX8_readLeader_49 rfl (lv_at hl 2 rfl) ?_
          obtain ⟨r3, er3, h⟩ := Option.bind_eq_some_iff.mp h
          refine va_callv (va_runV (As := [.int (-3), .int x2]) (rest := []) ⟨hx, hb, hml, hown, hts⟩ (c_X8_fail l D κ b σ (-3) x2 _ er3) (cwV 2 hts (gwV wt_737 wt_739 wp_32 wt_9 wt_740) rfl rfl rfl (by decide +kernel) ⟨Nat.le_of_ble_eq_true rfl, Nat.le_of_ble_eq_true rfl⟩) (MW_preV hK hC sg_gModel rfl) rfl rfl hl.1 rfl (lv_room (Nat.le_of_ble_eq_true rfl)) dX8_readLeader_50 ⟨Nat.zero_le _, Nat.zero_le _⟩) hS (fun _ _ h => h) (fun _ h => h) (fun u t H locs ht _ hp hB _ _ hS => ?_)
          have hC : MW D κ b r3 H := MW_b hB ht hp
          refine lv_goto (tgt := 118) hx hb dX8_readLeader_53 (by decide) ?_
          exact w_X8_readLeader_B118 ⟨hx, hb, hml, hown, hts, hK⟩ hret hr4 h (lv_sub hl [0, 1, 2] rfl) hC hS
      · replace h := (if_neg hc).symm.trans h
        refine lv_aload_n hx hb dX8_readLeader_25 rfl (lv_at hl 0 rfl) ?_
        refine lv_bipush (v := (-3)) hx hb dX8_readLeader_26 (by decide) ?_
        refine lv_aload_n hx hb dX8_readLeader_28 rfl (lv_at hl 0 rfl) ?_
        refine va_get (D := D) (ci := 8) (v := .int (σ.1 b 1)) (C := RX8) (T := TX8) (N := 21) hx hb hts (wqs inW_X8) hown hK.1 hC.1 (b - b) sg_gModel rfl 1 (by decide) (hts _ (wq wt_649)) (fun _ h9 => h9) rfl dX8_readLeader_29 ?_
        obtain ⟨r4, er4, h⟩ := Option.bind_eq_some_iff.mp h
        refine va_callv (va_runV (As := [.int (-3), .int (σ.1 b 1)]) (rest := []) ⟨hx, hb, hml, hown, hts⟩ (c_X8_fail l D κ b σ (-3) (σ.1 b 1) _ er4) (cwV 2 hts (gwV wt_737 wt_739 wp_32 wt_9 wt_740) rfl rfl rfl (by decide +kernel) ⟨Nat.le_of_ble_eq_true rfl, Nat.le_of_ble_eq_true rfl⟩) (MW_preV hK hC sg_gModel rfl) rfl rfl hl.1 rfl (lv_room (Nat.le_of_ble_eq_true rfl)) dX8_readLeader_32 ⟨Nat.zero_le _, Nat.zero_le _⟩) hS (fun _ _ h => h) (fun _ h => h) (fun u t H locs ht _ hp hB _ _ hS => ?_)
        have hC : MW D κ b r4 H := MW_b hB ht hp
        refine lv_goto (tgt := 118) hx hb dX8_readLeader_35 (by decide) ?_
        exact w_X8_readLeader_B118 ⟨hx, hb, hml, hown, hts, hK⟩ hret hr4 h (lv_sub hl [0, 1, 2] rfl) hC hS
set_option maxHeartbeats 4000000 in
theorem w_X8_readLeader_B4 {p : Program} {l : Launch} {e : Env} {s : State} {m : MethodId} {args : Array Value} {below : List Frame} {meth : Method} {c : Code} {Q : State → Prop} {D : va_G} {κ : Nat → ClassId} {b : Nat} {H0 : Heap} {rr : Int32 × Sg} (hZ : sg_Z p c s m args D κ cX8_readLeader 4 RX8 wsX8_readLeader) (hret : ∀ (v : Int32) (u : Sg) (H : Heap) (locs : List Loc) (pc : Nat) (ls : Array Slot), some (v, u) = some rr → MW D κ b u H → va_S (sg_A b 16) H0 H locs → decode cX8_readLeader pc = .ok (.ireturn, 1) → W p l e rm_X8_readLeader s m args below meth c H locs 0 0 Q (F0 m pc ls [.int v])) : ∀ n : Nat, ∀ {σ : Sg} {x1 : Int32} {x2 : Int32} {H : Heap} {locs : List Loc} {ls : Array Slot}, fn_X8_readLeader_B4 b n σ x1 x2 = some rr → lv_has ls 4 [(0, .ref b), (1, .int x1), (2, .int x2)] → MW D κ b σ H → va_S (sg_A b 16) H0 H locs → W p l e rm_X8_readLeader s m args below meth c H locs 0 0 Q (F0 m 4 ls []) := by
  intro n
  induction n with
  | zero => intro σ x1 x2 H locs ls h hl hC hS; cases (show (none : Option (Int32 × Sg)) = some rr from h)
  | succ n ih =>
    intro σ x1 x2 H locs ls h hl hC hS
    exact w_X8_readLeader_B4b hZ hret ih (show fn_X8_readLeader_B4b b (fn_X8_readLeader_B4 b n) σ x1 x2 = some rr from h)  hl hC hS
def fn_X8_readLeader (b : Nat) (σ : Sg) : Option (Int32 × Sg) :=
  fn_X8_readLeader_B4 b sg_N σ 0 0
set_option maxHeartbeats 4000000 in
set_option maxRecDepth 100000 in
theorem w_X8_readLeader_B0 {p : Program} {l : Launch} {e : Env} {s : State} {m : MethodId} {args : Array Value} {below : List Frame} {meth : Method} {c : Code} {Q : State → Prop} {D : va_G} {κ : Nat → ClassId} {b : Nat} {H0 : Heap} {rr : Int32 × Sg} (hZ : sg_Z p c s m args D κ cX8_readLeader 4 RX8 wsX8_readLeader) (hret : ∀ (v : Int32) (u : Sg) (H : Heap) (locs : List Loc) (pc : Nat) (ls : Array Slot), some (v, u) = some rr → MW D κ b u H → va_S (sg_A b 16) H0 H locs → decode cX8_readLeader pc = .ok (.ireturn, 1) → W p l e rm_X8_readLeader s m args below meth c H locs 0 0 Q (F0 m pc ls [.int v])) : ∀ {σ : Sg} {H : Heap} {locs : List Loc} {ls : Array Slot}, fn_X8_readLeader b σ = some rr → lv_has ls 4 [(0, .ref b)] → MW D κ b σ H → va_S (sg_A b 16) H0 H locs → W p l e rm_X8_readLeader s m args below meth c H locs 0 0 Q (F0 m 0 ls []) := by
  obtain ⟨hx, hb, hml, hown, hts, hK⟩ := hZ
  intro σ H locs ls h hl hC hS
  unfold fn_X8_readLeader at h
  refine lv_iconst (v := 0) hx hb dX8_readLeader_0 (by decide) ?_
  refine lv_istore_n (lv' := [(1, .int 0), (0, .ref b)]) hx hb dX8_readLeader_1 rfl hl (by decide) rfl (fun ls hl => ?_)
  refine lv_iconst (v := 0) hx hb dX8_readLeader_2 (by decide) ?_
  refine lv_istore_n (lv' := [(2, .int 0), (1, .int 0), (0, .ref b)]) hx hb dX8_readLeader_3 rfl hl (by decide) rfl (fun ls hl => ?_)
  exact w_X8_readLeader_B4 ⟨hx, hb, hml, hown, hts, hK⟩ hret  sg_N h (lv_sub hl [2, 1, 0] rfl) hC hS
set_option maxHeartbeats 4000000 in
set_option maxRecDepth 100000 in
theorem c_X8_readLeader (l : Launch) (D : va_G) (κ : Nat → ClassId) (b : Nat) (σ : Sg)  (rr : Int32 × Sg)  (h : fn_X8_readLeader b σ = some rr) : Met l yX8_readLeader wsX8_readLeader rm_X8_readLeader (va_Pc [.ref b] (fun U => KK D κ U ∧ MW D κ b σ U.heap)) (va_Qi (fun (r : Int32) (u : Sg) => r = rr.1 ∧ u = rr.2) (fun u t => MW D κ b u t.heap) (sg_A b 16)) 0 0 (sg_A b 16) := by
  refine Met.ofW (cc := cX8_readLeader) (maxL := 4) (ret := (some .int)) (by decide) rfl ?_
  intro p e s m args below meth c s₁ B hml hv
  obtain ⟨rfl, hK, hC⟩ := hv
  have hr := B.returns
  have hlocks := B.notSynchronized
  have hl := lv_entry ([.ref b]) (n := 4) (Nat.le_of_ble_eq_true rfl)
  rw [lg_entry_eq]
  generalize (lg_sl ([.ref b]) ++ List.replicate (4 - (lg_sl ([.ref b])).length) Slot.unset).toArray = ls at hl ⊢
  have hl : lv_has ls 4 [(0, .ref b)] := hl
  exact w_X8_readLeader_B0 ⟨B.exec, B.bytes, hml, findClass_of_methodNamed B.named, atoms_spec (ws := wsX8_readLeader) B.pre, hK⟩ (fun v u H locs pc ls hq hC hS hd => W.iret B.exec B.bytes hr (fun t ht hW => ⟨⟨v, _, rfl, ⟨congrArg Prod.fst (Option.some.inj hq), congrArg Prod.snd (Option.some.inj hq)⟩, MW_e ht hC⟩, hS.F ht⟩) hS.2.2 hd) h  hl hC va_S.rf

-- RecordShelfModel.readEntry(III)V
theorem dX8_readEntry_0 : decode cX8_readEntry 0 = .ok (.bipush 24, 2) := by decide +kernel
theorem dX8_readEntry_2 : decode cX8_readEntry 2 = .ok (.bipush 12, 2) := by decide +kernel
theorem dX8_readEntry_4 : decode cX8_readEntry 4 = .ok (.iload_n 2, 1) := by decide +kernel
theorem dX8_readEntry_5 : decode cX8_readEntry 5 = .ok (.imul, 1) := by decide +kernel
theorem dX8_readEntry_6 : decode cX8_readEntry 6 = .ok (.iadd, 1) := by decide +kernel
theorem dX8_readEntry_7 : decode cX8_readEntry 7 = .ok (.istore 4, 2) := by decide +kernel
theorem dX8_readEntry_9 : decode cX8_readEntry 9 = .ok (.iload 4, 2) := by decide +kernel
theorem dX8_readEntry_11 : decode cX8_readEntry 11 = .ok (.istore 5, 2) := by decide +kernel
theorem dX8_readEntry_13 : decode cX8_readEntry 13 = .ok (.iload 5, 2) := by decide +kernel
theorem dX8_readEntry_15 : decode cX8_readEntry 15 = .ok (.iload 4, 2) := by decide +kernel
theorem dX8_readEntry_17 : decode cX8_readEntry 17 = .ok (.bipush 12, 2) := by decide +kernel
theorem dX8_readEntry_19 : decode cX8_readEntry 19 = .ok (.iadd, 1) := by decide +kernel
theorem dX8_readEntry_20 : decode cX8_readEntry 20 = .ok (.if_icmp .ge 198, 3) := by decide +kernel
theorem dX8_readEntry_23 : decode cX8_readEntry 23 = .ok (.aload_n 0, 1) := by decide +kernel
theorem dX8_readEntry_24 : decode cX8_readEntry 24 = .ok (.getfield 72, 3) := by decide +kernel
theorem dX8_readEntry_27 : decode cX8_readEntry 27 = .ok (.ifCond .ne 191, 3) := by decide +kernel
theorem dX8_readEntry_30 : decode cX8_readEntry 30 = .ok (.iload 5, 2) := by decide +kernel
theorem dX8_readEntry_32 : decode cX8_readEntry 32 = .ok (.iload 4, 2) := by decide +kernel
theorem dX8_readEntry_34 : decode cX8_readEntry 34 = .ok (.isub, 1) := by decide +kernel
theorem dX8_readEntry_35 : decode cX8_readEntry 35 = .ok (.istore 6, 2) := by decide +kernel
theorem dX8_readEntry_37 : decode cX8_readEntry 37 = .ok (.iload 6, 2) := by decide +kernel
theorem dX8_readEntry_39 : decode cX8_readEntry 39 = .ok (.bipush 7, 2) := by decide +kernel
theorem dX8_readEntry_41 : decode cX8_readEntry 41 = .ok (.if_icmp .ge 16, 3) := by decide +kernel
theorem dX8_readEntry_44 : decode cX8_readEntry 44 = .ok (.aload_n 0, 1) := by decide +kernel
theorem dX8_readEntry_45 : decode cX8_readEntry 45 = .ok (.getfield 7, 3) := by decide +kernel
theorem dX8_readEntry_48 : decode cX8_readEntry 48 = .ok (.iload 5, 2) := by decide +kernel
theorem dX8_readEntry_50 : decode cX8_readEntry 50 = .ok (.iaload, 1) := by decide +kernel
theorem dX8_readEntry_51 : decode cX8_readEntry 51 = .ok (.invokestatic 59, 3) := by decide +kernel
theorem dX8_readEntry_54 : decode cX8_readEntry 54 = .ok (.goto 31, 3) := by decide +kernel
theorem dX8_readEntry_57 : decode cX8_readEntry 57 = .ok (.aload_n 0, 1) := by decide +kernel
theorem dX8_readEntry_58 : decode cX8_readEntry 58 = .ok (.getfield 7, 3) := by decide +kernel
theorem dX8_readEntry_61 : decode cX8_readEntry 61 = .ok (.iload 5, 2) := by decide +kernel
theorem dX8_readEntry_63 : decode cX8_readEntry 63 = .ok (.iaload, 1) := by decide +kernel
theorem dX8_readEntry_64 : decode cX8_readEntry 64 = .ok (.bipush 48, 2) := by decide +kernel
theorem dX8_readEntry_66 : decode cX8_readEntry 66 = .ok (.isub, 1) := by decide +kernel
theorem dX8_readEntry_67 : decode cX8_readEntry 67 = .ok (.iload_n 3, 1) := by decide +kernel
theorem dX8_readEntry_68 : decode cX8_readEntry 68 = .ok (.iconst 5, 1) := by decide +kernel
theorem dX8_readEntry_69 : decode cX8_readEntry 69 = .ok (.iload 6, 2) := by decide +kernel
theorem dX8_readEntry_71 : decode cX8_readEntry 71 = .ok (.bipush 7, 2) := by decide +kernel
theorem dX8_readEntry_73 : decode cX8_readEntry 73 = .ok (.isub, 1) := by decide +kernel
theorem dX8_readEntry_74 : decode cX8_readEntry 74 = .ok (.invokestatic 75, 3) := by decide +kernel
theorem dX8_readEntry_77 : decode cX8_readEntry 77 = .ok (.if_icmp .ne 7, 3) := by decide +kernel
theorem dX8_readEntry_80 : decode cX8_readEntry 80 = .ok (.iconst 1, 1) := by decide +kernel
theorem dX8_readEntry_81 : decode cX8_readEntry 81 = .ok (.goto 4, 3) := by decide +kernel
theorem dX8_readEntry_84 : decode cX8_readEntry 84 = .ok (.iconst 0, 1) := by decide +kernel
theorem dX8_readEntry_85 : decode cX8_readEntry 85 = .ok (.istore 7, 2) := by decide +kernel
theorem dX8_readEntry_87 : decode cX8_readEntry 87 = .ok (.iload 7, 2) := by decide +kernel
theorem dX8_readEntry_89 : decode cX8_readEntry 89 = .ok (.ifCond .ne 14, 3) := by decide +kernel
theorem dX8_readEntry_92 : decode cX8_readEntry 92 = .ok (.aload_n 0, 1) := by decide +kernel
theorem dX8_readEntry_93 : decode cX8_readEntry 93 = .ok (.bipush (-4), 2) := by decide +kernel
theorem dX8_readEntry_95 : decode cX8_readEntry 95 = .ok (.iload 5, 2) := by decide +kernel
theorem dX8_readEntry_97 : decode cX8_readEntry 97 = .ok (.invokevirtual 82, 3) := by decide +kernel
theorem dX8_readEntry_100 : decode cX8_readEntry 100 = .ok (.goto 112, 3) := by decide +kernel
theorem dX8_readEntry_103 : decode cX8_readEntry 103 = .ok (.iload 6, 2) := by decide +kernel
theorem dX8_readEntry_105 : decode cX8_readEntry 105 = .ok (.iconst 2, 1) := by decide +kernel
theorem dX8_readEntry_106 : decode cX8_readEntry 106 = .ok (.if_icmp .ne 46, 3) := by decide +kernel
theorem dX8_readEntry_109 : decode cX8_readEntry 109 = .ok (.aload_n 0, 1) := by decide +kernel
theorem dX8_readEntry_110 : decode cX8_readEntry 110 = .ok (.getfield 19, 3) := by decide +kernel
theorem dX8_readEntry_113 : decode cX8_readEntry 113 = .ok (.bipush 8, 2) := by decide +kernel
theorem dX8_readEntry_115 : decode cX8_readEntry 115 = .ok (.iload_n 1, 1) := by decide +kernel
theorem dX8_readEntry_116 : decode cX8_readEntry 116 = .ok (.imul, 1) := by decide +kernel
theorem dX8_readEntry_117 : decode cX8_readEntry 117 = .ok (.iload_n 2, 1) := by decide +kernel
theorem dX8_readEntry_118 : decode cX8_readEntry 118 = .ok (.iadd, 1) := by decide +kernel
theorem dX8_readEntry_119 : decode cX8_readEntry 119 = .ok (.aload_n 0, 1) := by decide +kernel
theorem dX8_readEntry_120 : decode cX8_readEntry 120 = .ok (.iload 4, 2) := by decide +kernel
theorem dX8_readEntry_122 : decode cX8_readEntry 122 = .ok (.iconst 3, 1) := by decide +kernel
theorem dX8_readEntry_123 : decode cX8_readEntry 123 = .ok (.invokevirtual 89, 3) := by decide +kernel
theorem dX8_readEntry_126 : decode cX8_readEntry 126 = .ok (.iastore, 1) := by decide +kernel
theorem dX8_readEntry_127 : decode cX8_readEntry 127 = .ok (.aload_n 0, 1) := by decide +kernel
theorem dX8_readEntry_128 : decode cX8_readEntry 128 = .ok (.getfield 19, 3) := by decide +kernel
theorem dX8_readEntry_131 : decode cX8_readEntry 131 = .ok (.bipush 8, 2) := by decide +kernel
theorem dX8_readEntry_133 : decode cX8_readEntry 133 = .ok (.iload_n 1, 1) := by decide +kernel
theorem dX8_readEntry_134 : decode cX8_readEntry 134 = .ok (.imul, 1) := by decide +kernel
theorem dX8_readEntry_135 : decode cX8_readEntry 135 = .ok (.iload_n 2, 1) := by decide +kernel
theorem dX8_readEntry_136 : decode cX8_readEntry 136 = .ok (.iadd, 1) := by decide +kernel
theorem dX8_readEntry_137 : decode cX8_readEntry 137 = .ok (.iaload, 1) := by decide +kernel
theorem dX8_readEntry_138 : decode cX8_readEntry 138 = .ok (.ifCond .ne 74, 3) := by decide +kernel
theorem dX8_readEntry_141 : decode cX8_readEntry 141 = .ok (.aload_n 0, 1) := by decide +kernel
theorem dX8_readEntry_142 : decode cX8_readEntry 142 = .ok (.bipush (-4), 2) := by decide +kernel
theorem dX8_readEntry_144 : decode cX8_readEntry 144 = .ok (.iload 5, 2) := by decide +kernel
theorem dX8_readEntry_146 : decode cX8_readEntry 146 = .ok (.invokevirtual 82, 3) := by decide +kernel
theorem dX8_readEntry_149 : decode cX8_readEntry 149 = .ok (.goto 63, 3) := by decide +kernel
theorem dX8_readEntry_152 : decode cX8_readEntry 152 = .ok (.iload 6, 2) := by decide +kernel
theorem dX8_readEntry_154 : decode cX8_readEntry 154 = .ok (.bipush 6, 2) := by decide +kernel
theorem dX8_readEntry_156 : decode cX8_readEntry 156 = .ok (.if_icmp .ne 56, 3) := by decide +kernel
theorem dX8_readEntry_159 : decode cX8_readEntry 159 = .ok (.aload_n 0, 1) := by decide +kernel
theorem dX8_readEntry_160 : decode cX8_readEntry 160 = .ok (.getfield 44, 3) := by decide +kernel
theorem dX8_readEntry_163 : decode cX8_readEntry 163 = .ok (.iload_n 2, 1) := by decide +kernel
theorem dX8_readEntry_164 : decode cX8_readEntry 164 = .ok (.aload_n 0, 1) := by decide +kernel
theorem dX8_readEntry_165 : decode cX8_readEntry 165 = .ok (.iload 4, 2) := by decide +kernel
theorem dX8_readEntry_167 : decode cX8_readEntry 167 = .ok (.iconst 3, 1) := by decide +kernel
theorem dX8_readEntry_168 : decode cX8_readEntry 168 = .ok (.iadd, 1) := by decide +kernel
theorem dX8_readEntry_169 : decode cX8_readEntry 169 = .ok (.iconst 4, 1) := by decide +kernel
theorem dX8_readEntry_170 : decode cX8_readEntry 170 = .ok (.invokevirtual 89, 3) := by decide +kernel
theorem dX8_readEntry_173 : decode cX8_readEntry 173 = .ok (.iastore, 1) := by decide +kernel
theorem dX8_readEntry_174 : decode cX8_readEntry 174 = .ok (.aload_n 0, 1) := by decide +kernel
theorem dX8_readEntry_175 : decode cX8_readEntry 175 = .ok (.getfield 44, 3) := by decide +kernel
theorem dX8_readEntry_178 : decode cX8_readEntry 178 = .ok (.iload_n 2, 1) := by decide +kernel
theorem dX8_readEntry_179 : decode cX8_readEntry 179 = .ok (.iaload, 1) := by decide +kernel
theorem dX8_readEntry_180 : decode cX8_readEntry 180 = .ok (.aload_n 0, 1) := by decide +kernel
theorem dX8_readEntry_181 : decode cX8_readEntry 181 = .ok (.getfield 19, 3) := by decide +kernel
theorem dX8_readEntry_184 : decode cX8_readEntry 184 = .ok (.bipush 8, 2) := by decide +kernel
theorem dX8_readEntry_186 : decode cX8_readEntry 186 = .ok (.iload_n 1, 1) := by decide +kernel
theorem dX8_readEntry_187 : decode cX8_readEntry 187 = .ok (.imul, 1) := by decide +kernel
theorem dX8_readEntry_188 : decode cX8_readEntry 188 = .ok (.iload_n 2, 1) := by decide +kernel
theorem dX8_readEntry_189 : decode cX8_readEntry 189 = .ok (.iadd, 1) := by decide +kernel
theorem dX8_readEntry_190 : decode cX8_readEntry 190 = .ok (.iaload, 1) := by decide +kernel
theorem dX8_readEntry_191 : decode cX8_readEntry 191 = .ok (.bipush 10, 2) := by decide +kernel
theorem dX8_readEntry_193 : decode cX8_readEntry 193 = .ok (.if_icmp .ge 7, 3) := by decide +kernel
theorem dX8_readEntry_196 : decode cX8_readEntry 196 = .ok (.iconst 1, 1) := by decide +kernel
theorem dX8_readEntry_197 : decode cX8_readEntry 197 = .ok (.goto 4, 3) := by decide +kernel
theorem dX8_readEntry_200 : decode cX8_readEntry 200 = .ok (.iconst 2, 1) := by decide +kernel
theorem dX8_readEntry_201 : decode cX8_readEntry 201 = .ok (.if_icmp .ge 11, 3) := by decide +kernel
theorem dX8_readEntry_204 : decode cX8_readEntry 204 = .ok (.aload_n 0, 1) := by decide +kernel
theorem dX8_readEntry_205 : decode cX8_readEntry 205 = .ok (.bipush (-4), 2) := by decide +kernel
theorem dX8_readEntry_207 : decode cX8_readEntry 207 = .ok (.iload 5, 2) := by decide +kernel
theorem dX8_readEntry_209 : decode cX8_readEntry 209 = .ok (.invokevirtual 82, 3) := by decide +kernel
theorem dX8_readEntry_212 : decode cX8_readEntry 212 = .ok (.iinc 5 1, 3) := by decide +kernel
theorem dX8_readEntry_215 : decode cX8_readEntry 215 = .ok (.goto (-202), 3) := by decide +kernel
theorem dX8_readEntry_218 : decode cX8_readEntry 218 = .ok (.return_, 1) := by decide +kernel
def rm_X8_readEntry : Room := { frames := 1, cells := 0, slots := 0, locals := 24 }
def fn_X8_readEntry_B212 (b : Nat) (z13 : Sg → Int32 → Int32 → Int32 → Int32 → Int32 → Option (Sg)) (σ : Sg) (x1 : Int32) (x2 : Int32) (x3 : Int32) (x4 : Int32) (x5 : Int32) : Option (Sg) :=
  (sg_lt (x5 + 1 : Int32) fun v1 =>
  z13 σ x1 x2 x3 x4 v1)
set_option maxHeartbeats 4000000 in
set_option maxRecDepth 100000 in
theorem w_X8_readEntry_B212 {p : Program} {l : Launch} {e : Env} {s : State} {m : MethodId} {args : Array Value} {below : List Frame} {meth : Method} {c : Code} {Q : State → Prop} {D : va_G} {κ : Nat → ClassId} {b : Nat} {H0 : Heap} {rr : Sg} (hZ : sg_Z p c s m args D κ cX8_readEntry 8 RX8 wsX8_readEntry) (hret : ∀ (u : Sg) (H : Heap) (locs : List Loc) (pc : Nat) (ls : Array Slot), some u = some rr → MW D κ b u H → va_S (sg_A b 16) H0 H locs → decode cX8_readEntry pc = .ok (.return_, 1) → W p l e rm_X8_readEntry s m args below meth c H locs 0 0 Q (F0 m pc ls [])) {z13 : Sg → Int32 → Int32 → Int32 → Int32 → Int32 → Option (Sg)} (hr13 : ∀ {σ : Sg} {x1 : Int32} {x2 : Int32} {x3 : Int32} {x4 : Int32} {x5 : Int32} {H : Heap} {locs : List Loc} {ls : Array Slot}, z13 σ x1 x2 x3 x4 x5 = some rr → lv_has ls 8 [(0, .ref b), (1, .int x1), (2, .int x2), (3, .int x3), (4, .int x4), (5, .int x5)] → MW D κ b σ H → va_S (sg_A b 16) H0 H locs → W p l e rm_X8_readEntry s m args below meth c H locs 0 0 Q (F0 m 13 ls [])) : ∀ {σ : Sg} {x1 : Int32} {x2 : Int32} {x3 : Int32} {x4 : Int32} {x5 : Int32} {H : Heap} {locs : List Loc} {ls : Array Slot}, fn_X8_readEntry_B212 b z13 σ x1 x2 x3 x4 x5 = some rr → lv_has ls 8 [(0, .ref b), (1, .int x1), (2, .int x2), (3, .int x3), (4, .int x4), (5, .int x5)] → MW D κ b σ H → va_S (sg_A b 16) H0 H locs → W p l e rm_X8_readEntry s m args below meth c H locs 0 0 Q (F0 m 212 ls []) := by
  obtain ⟨hx, hb, hml, hown, hts, hK⟩ := hZ
  intro σ x1 x2 x3 x4 x5 H locs ls h hl hC hS
  unfold fn_X8_readEntry_B212 at h
  obtain ⟨v1, ev1, h⟩ := sg_lte h
  refine lv_iinc (v := v1) (lv' := [(5, .int v1), (0, .ref b), (1, .int x1), (2, .int x2), (3, .int x3), (4, .int x4)]) (k := 5) hx hb dX8_readEntry_212 hl rfl (sg_inc (by decide) ev1) (by decide) rfl (fun ls hl => ?_)
  refine lv_goto (tgt := 13) hx hb dX8_readEntry_215 (by decide) ?_
  exact hr13 h (lv_sub hl [1, 2, 3, 4, 5, 0] rfl) hC hS
def fn_X8_readEntry_B201 (b : Nat) (z13 : Sg → Int32 → Int32 → Int32 → Int32 → Int32 → Option (Sg)) (σ : Sg) (x1 : Int32) (x2 : Int32) (x3 : Int32) (x4 : Int32) (x5 : Int32) (y0 : Int32) (y1 : Int32) : Option (Sg) :=
  (if (y0 : Int32) ≤ y1 then
  fn_X8_readEntry_B212 b z13 σ x1 x2 x3 x4 x5
  else ((fn_X8_fail b σ (-4) x5).bind fun r1 =>
  fn_X8_readEntry_B212 b z13 r1 x1 x2 x3 x4 x5))
set_option maxHeartbeats 4000000 in
set_option maxRecDepth 100000 in
theorem w_X8_readEntry_B201 {p : Program} {l : Launch} {e : Env} {s : State} {m : MethodId} {args : Array Value} {below : List Frame} {meth : Method} {c : Code} {Q : State → Prop} {D : va_G} {κ : Nat → ClassId} {b : Nat} {H0 : Heap} {rr : Sg} (hZ : sg_Z p c s m args D κ cX8_readEntry 8 RX8 wsX8_readEntry) (hret : ∀ (u : Sg) (H : Heap) (locs : List Loc) (pc : Nat) (ls : Array Slot), some u = some rr → MW D κ b u H → va_S (sg_A b 16) H0 H locs → decode cX8_readEntry pc = .ok (.return_, 1) → W p l e rm_X8_readEntry s m args below meth c H locs 0 0 Q (F0 m pc ls [])) {z13 : Sg → Int32 → Int32 → Int32 → Int32 → Int32 → Option (Sg)} (hr13 : ∀ {σ : Sg} {x1 : Int32} {x2 : Int32} {x3 : Int32} {x4 : Int32} {x5 : Int32} {H : Heap} {locs : List Loc} {ls : Array Slot}, z13 σ x1 x2 x3 x4 x5 = some rr → lv_has ls 8 [(0, .ref b), (1, .int x1), (2, .int x2), (3, .int x3), (4, .int x4), (5, .int x5)] → MW D κ b σ H → va_S (sg_A b 16) H0 H locs → W p l e rm_X8_readEntry s m args below meth c H locs 0 0 Q (F0 m 13 ls [])) : ∀ {σ : Sg} {x1 : Int32} {x2 : Int32} {x3 : Int32} {x4 : Int32} {x5 : Int32} {y0 : Int32} {y1 : Int32} {H : Heap} {locs : List Loc} {ls : Array Slot}, fn_X8_readEntry_B201 b z13 σ x1 x2 x3 x4 x5 y0 y1 = some rr → lv_has ls 8 [(0, .ref b), (1, .int x1), (2, .int x2), (3, .int x3), (4, .int x4), (5, .int x5)] → MW D κ b σ H → va_S (sg_A b 16) H0 H locs → W p l e rm_X8_readEntry s m args below meth c H locs 0 0 Q (F0 m 201 ls [.int y0, .int y1]) := by
  obtain ⟨hx, hb, hml, hown, hts, hK⟩ := hZ
  intro σ x1 x2 x3 x4 x5 y0 y1 H locs ls h hl hC hS
  unfold fn_X8_readEntry_B201 at h
  refine lv_icmp_ge (tgt := 212) hx hb dX8_readEntry_201 (by decide) (fun hc => ?_) (fun hc => ?_)
  · replace h := (if_pos hc).symm.trans h
    exact w_X8_readEntry_B212 ⟨hx, hb, hml, hown, hts, hK⟩ hret hr13 h (lv_sub hl [0, 1, 2, 3, 4, 5] rfl) hC hS
  · replace h := (if_neg hc).symm.trans h
    refine lv_aload_n hx hb dX8_readEntry_204 rfl (lv_at hl 0 rfl) ?_
    refine lv_bipush (v := (-4)) hx hb dX8_readEntry_205 (by decide) ?_
    refine lv_iload hx hb dX8_readEntry_207 (lv_at hl 5 rfl) ?_
    obtain ⟨r1, er1, h⟩ := Option.bind_eq_some_iff.mp h
    refine va_callv (va_runV (As := [.int (-4), .int x5]) (rest := []) ⟨hx, hb, hml, hown, hts⟩ (c_X8_fail l D κ b σ (-4) x5 _ er1) (cwV 2 hts (gwV wt_737 wt_739 wp_32 wt_9 wt_740) rfl rfl rfl (by decide +kernel) ⟨Nat.le_of_ble_eq_true rfl, Nat.le_of_ble_eq_true rfl⟩) (MW_preV hK hC sg_gModel rfl) rfl rfl hl.1 rfl (lv_room (Nat.le_of_ble_eq_true rfl)) dX8_readEntry_209 ⟨Nat.zero_le _, Nat.zero_le _⟩) hS (fun _ _ h => h) (fun _ h => h) (fun u t H locs ht _ hp hB _ _ hS => ?_)
    have hC : MW D κ b r1 H := MW_b hB ht hp
    exact w_X8_readEntry_B212 ⟨hx, hb, hml, hown, hts, hK⟩ hret hr13 h (lv_sub hl [0, 1, 2, 3, 4, 5] rfl) hC hS
def fn_X8_readEntry_B85 (b : Nat) (z13 : Sg → Int32 → Int32 → Int32 → Int32 → Int32 → Option (Sg)) (σ : Sg) (x1 : Int32) (x2 : Int32) (x3 : Int32) (x4 : Int32) (x5 : Int32) (x6 : Int32) (y0 : Int32) : Option (Sg) :=
  (if y0 = 0 then
  ((fn_X8_fail b σ (-4) x5).bind fun r6 =>
  fn_X8_readEntry_B212 b z13 r6 x1 x2 x3 x4 x5)
  else (if x6 = 2 then
  ((fn_X8_numberAt b σ x4 3).bind fun r3 =>
  (if sg_ib ((8 * x1) + x2) 48 then
  (sg_lt (sg_w σ (b + 4) (sg_x ((8 * x1) + x2)) r3) fun σ4 =>
  (if sg_ib ((8 * x1) + x2) 48 then
  (if (σ4.1 (b + 4) (sg_x ((8 * x1) + x2))) = 0 then
  ((fn_X8_fail b σ4 (-4) x5).bind fun r5 =>
  fn_X8_readEntry_B212 b z13 r5 x1 x2 x3 x4 x5)
  else fn_X8_readEntry_B212 b z13 σ4 x1 x2 x3 x4 x5)
  else none))
  else none))
  else (if x6 = 6 then
  ((fn_X8_numberAt b σ (x4 + 3) 4).bind fun r1 =>
  (if sg_ib x2 8 then
  (sg_lt (sg_w σ (b + 11) (sg_x x2) r1) fun σ2 =>
  (if sg_ib x2 8 then
  (if sg_ib ((8 * x1) + x2) 48 then
  (if (10 : Int32) ≤ (σ2.1 (b + 4) (sg_x ((8 * x1) + x2))) then
  fn_X8_readEntry_B201 b z13 σ2 x1 x2 x3 x4 x5 2 (σ2.1 (b + 11) (sg_x x2))
  else fn_X8_readEntry_B201 b z13 σ2 x1 x2 x3 x4 x5 1 (σ2.1 (b + 11) (sg_x x2)))
  else none)
  else none))
  else none))
  else fn_X8_readEntry_B212 b z13 σ x1 x2 x3 x4 x5)))
set_option maxHeartbeats 4000000 in
set_option maxRecDepth 100000 in
theorem w_X8_readEntry_B85 {p : Program} {l : Launch} {e : Env} {s : State} {m : MethodId} {args : Array Value} {below : List Frame} {meth : Method} {c : Code} {Q : State → Prop} {D : va_G} {κ : Nat → ClassId} {b : Nat} {H0 : Heap} {rr : Sg} (hZ : sg_Z p c s m args D κ cX8_readEntry 8 RX8 wsX8_readEntry) (hret : ∀ (u : Sg) (H : Heap) (locs : List Loc) (pc : Nat) (ls : Array Slot), some u = some rr → MW D κ b u H → va_S (sg_A b 16) H0 H locs → decode cX8_readEntry pc = .ok (.return_, 1) → W p l e rm_X8_readEntry s m args below meth c H locs 0 0 Q (F0 m pc ls [])) {z13 : Sg → Int32 → Int32 → Int32 → Int32 → Int32 → Option (Sg)} (hr13 : ∀ {σ : Sg} {x1 : Int32} {x2 : Int32} {x3 : Int32} {x4 : Int32} {x5 : Int32} {H : Heap} {locs : List Loc} {ls : Array Slot}, z13 σ x1 x2 x3 x4 x5 = some rr → lv_has ls 8 [(0, .ref b), (1, .int x1), (2, .int x2), (3, .int x3), (4, .int x4), (5, .int x5)] → MW D κ b σ H → va_S (sg_A b 16) H0 H locs → W p l e rm_X8_readEntry s m args below meth c H locs 0 0 Q (F0 m 13 ls [])) : ∀ {σ : Sg} {x1 : Int32} {x2 : Int32} {x3 : Int32} {x4 : Int32} {x5 : Int32} {x6 : Int32} {y0 : Int32} {H : Heap} {locs : List Loc} {ls : Array Slot}, fn_X8_readEntry_B85 b z13 σ x1 x2 x3 x4 x5 x6 y0 = some rr → lv_has ls 8 [(0, .ref b), (1, .int x1), (2, .int x2), (3, .int x3), (4, .int x4), (5, .int x5), (6, .int x6)] → MW D κ b σ H → va_S (sg_A b 16) H0 H locs → W p l e rm_X8_readEntry s m args below meth c H locs 0 0 Q (F0 m 85 ls [.int y0]) := by
  obtain ⟨hx, hb, hml, hown, hts, hK⟩ := hZ
  intro σ x1 x2 x3 x4 x5 x6 y0 H locs ls h hl hC hS
  unfold fn_X8_readEntry_B85 at h
  refine lv_istore (lv' := [(7, .int y0), (0, .ref b), (1, .int x1), (2, .int x2), (3, .int x3), (4, .int x4), (5, .int x5), (6, .int x6)]) hx hb dX8_readEntry_85 hl (by decide) rfl (fun ls hl => ?_)
  refine lv_iload hx hb dX8_readEntry_87 (lv_at hl 0 rfl) ?_
  refine lv_if_ne (tgt := 103) hx hb dX8_readEntry_89 (by decide) (fun hc => ?_) (fun hc => ?_)
  · replace h := (if_neg hc).symm.trans h
    refine lv_iload hx hb dX8_readEntry_103 (lv_at hl 7 rfl) ?_
    refine lv_iconst (v := 2) hx hb dX8_readEntry_105 (by decide) ?_
    refine lv_icmp_ne (tgt := 152) hx hb dX8_readEntry_106 (by decide) (fun hc => ?_) (fun hc => ?_)
    · replace h := (if_neg hc).symm.trans h
      refine lv_iload hx hb dX8_readEntry_152 (lv_at hl 7 rfl) ?_
      refine lv_bipush (v := 6) hx hb dX8_readEntry_154 (by decide) ?_
      refine lv_icmp_ne (tgt := 212) hx hb dX8_readEntry_156 (by decide) (fun hc => ?_) (fun hc => ?_)
      · replace h := (if_neg hc).symm.trans h
        exact w_X8_readEntry_B212 ⟨hx, hb, hml, hown, hts, hK⟩ hret hr13 h (lv_sub hl [1, 2, 3, 4, 5, 6] rfl) hC hS
      · replace h := (if_pos hc).symm.trans h
        refine lv_aload_n hx hb dX8_readEntry_159 rfl (lv_at hl 1 rfl) ?_
        refine va_get (D := D) (ci := 8) (v := .ref (b + 11)) (C := RX8) (T := TX8) (N := 21) hx hb hts (wqs inW_X8) hown hK.1 hC.1 (b - b) sg_gModel rfl 14 (by decide) (hts _ (wq wt_662)) (fun _ h9 => h9) rfl dX8_readEntry_160 ?_
        refine lv_iload_n hx hb dX8_readEntry_163 rfl (lv_at hl 3 rfl) ?_
        refine lv_aload_n hx hb dX8_readEntry_164 rfl (lv_at hl 1 rfl) ?_
        refine lv_iload hx hb dX8_readEntry_165 (lv_at hl 5 rfl) ?_
        refine lv_iconst (v := 3) hx hb dX8_readEntry_167 (by decide) ?_
        refine lv_iadd hx hb dX8_readEntry_168 ?_
        refine lv_iconst (v := 4) hx hb dX8_readEntry_169 (by decide) ?_
        obtain ⟨r1, er1, h⟩ := Option.bind_eq_some_iff.mp h
        refine va_calli (va_runV (As := [.int (x4 + 3), .int 4]) (rest := [.int x2, .ref (b + 11)]) ⟨hx, hb, hml, hown, hts⟩ (c_X8_numberAt l D κ b σ (x4 + 3) 4 _ er1) (cwV 2 hts (gwV wt_754 wt_756 wp_34 wt_9 wt_757) rfl rfl rfl (by decide +kernel) ⟨Nat.le_of_ble_eq_true rfl, Nat.le_of_ble_eq_true rfl⟩) (MW_preV hK hC sg_gModel rfl) rfl rfl hl.1 rfl (lv_room (Nat.le_of_ble_eq_true rfl)) dX8_readEntry_170 ⟨Nat.zero_le _, Nat.zero_le _⟩) hS (fun _ _ h => h) (fun _ h => h) (fun r u t H locs ht _ hp hB _ _ hS => ?_)
        refine sg_topi hp.1 ?_
        have hC : MW D κ b σ H := MW_b hB ht hp.2
        obtain ⟨hg, h⟩ := sg_gd h
        refine va_iast hx hb hK.1 hC.1 sg_D hS ((b + 11) - b) 0 sg_ga_lengths rfl (sg_in hg) dX8_readEntry_173 (fun H locs hP _ hS => ?_)
        obtain ⟨σ2, eσ2, h⟩ := sg_lte h
        have hC : MW D κ b σ2 H := eσ2 ▸ MW_put (k := sg_x x2) (v := r1) hC sg_aa_lengths (sg_ya_lengths _ _) hP
        refine lv_aload_n hx hb dX8_readEntry_174 rfl (lv_at hl 1 rfl) ?_
        refine va_get (D := D) (ci := 8) (v := .ref (b + 11)) (C := RX8) (T := TX8) (N := 21) hx hb hts (wqs inW_X8) hown hK.1 hC.1 (b - b) sg_gModel rfl 14 (by decide) (hts _ (wq wt_662)) (fun _ h9 => h9) rfl dX8_readEntry_175 ?_
        refine lv_iload_n hx hb dX8_readEntry_178 rfl (lv_at hl 3 rfl) ?_
        obtain ⟨hg, h⟩ := sg_gd h
        refine va_iald hx hb hK.1 hC.1 ((b + 11) - b) 0 sg_ga_lengths rfl (sg_in hg) dX8_readEntry_179 ?_
        refine lv_aload_n hx hb dX8_readEntry_180 rfl (lv_at hl 1 rfl) ?_
        refine va_get (D := D) (ci := 8) (v := .ref (b + 4)) (C := RX8) (T := TX8) (N := 21) hx hb hts (wqs inW_X8) hown hK.1 hC.1 (b - b) sg_gModel rfl 5 (by decide) (hts _ (wq wt_653)) (fun _ h9 => h9) rfl dX8_readEntry_181 ?_
        refine lv_bipush (v := 8) hx hb dX8_readEntry_184 (by decide) ?_
        refine lv_iload_n hx hb dX8_readEntry_186 rfl (lv_at hl 2 rfl) ?_
        refine lv_imul hx hb dX8_readEntry_187 ?_
        refine lv_iload_n hx hb dX8_readEntry_188 rfl (lv_at hl 3 rfl) ?_
        refine lv_iadd hx hb dX8_readEntry_189 ?_
        obtain ⟨hg, h⟩ := sg_gd h
        refine va_iald hx hb hK.1 hC.1 ((b + 4) - b) 0 sg_ga_tags rfl (sg_in hg) dX8_readEntry_190 ?_
        refine lv_bipush (v := 10) hx hb dX8_readEntry_191 (by decide) ?_
        refine lv_icmp_ge (tgt := 200) hx hb dX8_readEntry_193 (by decide) (fun hc => ?_) (fun hc => ?_)
        · replace h := (if_pos hc).symm.trans h
          refine lv_iconst (v := 2) hx hb dX8_readEntry_200 (by decide) ?_
          exact w_X8_readEntry_B201 ⟨hx, hb, hml, hown, hts, hK⟩ hret hr13 h (lv_sub hl [1, 2, 3, 4, 5, 6] rfl) hC hS
        · replace h := (if_neg hc).symm.trans h
          refine lv_iconst (v := 1) hx hb dX8_readEntry_196 (by decide) ?_
          refine lv_goto (tgt := 201) hx hb dX8_readEntry_197 (by decide) ?_
          exact w_X8_readEntry_B201 ⟨hx, hb, hml, hown, hts, hK⟩ hret hr13 h (lv_sub hl [1, 2, 3, 4, 5, 6] rfl) hC hS
    · replace h := (if_pos hc).symm.trans h
      refine lv_aload_n hx hb dX8_readEntry_109 rfl (lv_at hl 1 rfl) ?_
      refine va_get (D := D) (ci := 8) (v := .ref (b + 4)) (C := RX8) (T := TX8) (N := 21) hx hb hts (wqs inW_X8) hown hK.1 hC.1 (b - b) sg_gModel rfl 5 (by decide) (hts _ (wq wt_653)) (fun _ h9 => h9) rfl dX8_readEntry_110 ?_
      refine lv_bipush (v := 8) hx hb dX8_readEntry_113 (by decide) ?_
      refine lv_iload_n hx hb dX8_readEntry_115 rfl (lv_at hl 2 rfl) ?_
      refine lv_imul hx hb dX8_readEntry_116 ?_
      refine lv_iload_n hx hb dX8_readEntry_117 rfl (lv_at hl 3 rfl) ?_
      refine lv_iadd hx hb dX8_readEntry_118 ?_
      refine lv_aload_n hx hb dX8_readEntry_119 rfl (lv_at hl 1 rfl) ?_
      refine lv_iload hx hb dX8_readEntry_120 (lv_at hl 5 rfl) ?_
      refine lv_iconst (v := 3) hx hb dX8_readEntry_122 (by decide) ?_
      obtain ⟨r3, er3, h⟩ := Option.bind_eq_some_iff.mp h
      refine va_calli (va_runV (As := [.int x4, .int 3]) (rest := [.int ((8 * x1) + x2), .ref (b + 4)]) ⟨hx, hb, hml, hown, hts⟩ (c_X8_numberAt l D κ b σ x4 3 _ er3) (cwV 2 hts (gwV wt_754 wt_756 wp_34 wt_9 wt_757) rfl rfl rfl (by decide +kernel) ⟨Nat.le_of_ble_eq_true rfl, Nat.le_of_ble_eq_true rfl⟩) (MW_preV hK hC sg_gModel rfl) rfl rfl hl.1 rfl (lv_room (Nat.le_of_ble_eq_true rfl)) dX8_readEntry_123 ⟨Nat.zero_le _, Nat.zero_le _⟩) hS (fun _ _ h => h) (fun _ h => h) (fun r u t H locs ht _ hp hB _ _ hS => ?_)
      refine sg_topi hp.1 ?_
      have hC : MW D κ b σ H := MW_b hB ht hp.2
      obtain ⟨hg, h⟩ := sg_gd h
      refine va_iast hx hb hK.1 hC.1 sg_D hS ((b + 4) - b) 0 sg_ga_tags rfl (sg_in hg) dX8_readEntry_126 (fun H locs hP _ hS => ?_)
      obtain ⟨σ4, eσ4, h⟩ := sg_lte h
      have hC : MW D κ b σ4 H := eσ4 ▸ MW_put (k := sg_x ((8 * x1) + x2)) (v := r3) hC sg_aa_tags (sg_ya_tags _ _) hP
      refine lv_aload_n hx hb dX8_readEntry_127 rfl (lv_at hl 1 rfl) ?_
      refine va_get (D := D) (ci := 8) (v := .ref (b + 4)) (C := RX8) (T := TX8) (N := 21) hx hb hts (wqs inW_X8) hown hK.1 hC.1 (b - b) sg_gModel rfl 5 (by decide) (hts _ (wq wt_653)) (fun _ h9 => h9) rfl dX8_readEntry_128 ?_
      refine lv_bipush (v := 8) hx hb dX8_readEntry_131 (by decide) ?_
      refine lv_iload_n hx hb dX8_readEntry_133 rfl (lv_at hl 2 rfl) ?_
      refine lv_imul hx hb dX8_readEntry_134 ?_
      refine lv_iload_n hx hb dX8_readEntry_135 rfl (lv_at hl 3 rfl) ?_
      refine lv_iadd hx hb dX8_readEntry_136 ?_
      obtain ⟨hg, h⟩ := sg_gd h
      refine va_iald hx hb hK.1 hC.1 ((b + 4) - b) 0 sg_ga_tags rfl (sg_in hg) dX8_readEntry_137 ?_
      refine lv_if_ne (tgt := 212) hx hb dX8_readEntry_138 (by decide) (fun hc => ?_) (fun hc => ?_)
      · replace h := (if_neg hc).symm.trans h
        exact w_X8_readEntry_B212 ⟨hx, hb, hml, hown, hts, hK⟩ hret hr13 h (lv_sub hl [1, 2, 3, 4, 5, 6] rfl) hC hS
      · replace h := (if_pos hc).symm.trans h
        refine lv_aload_n hx hb dX8_readEntry_141 rfl (lv_at hl 1 rfl) ?_
        refine lv_bipush (v := (-4)) hx hb dX8_readEntry_142 (by decide) ?_
        refine lv_iload hx hb dX8_readEntry_144 (lv_at hl 6 rfl) ?_
        obtain ⟨r5, er5, h⟩ := Option.bind_eq_some_iff.mp h
        refine va_callv (va_runV (As := [.int (-4), .int x5]) (rest := []) ⟨hx, hb, hml, hown, hts⟩ (c_X8_fail l D κ b σ4 (-4) x5 _ er5) (cwV 2 hts (gwV wt_737 wt_739 wp_32 wt_9 wt_740) rfl rfl rfl (by decide +kernel) ⟨Nat.le_of_ble_eq_true rfl, Nat.le_of_ble_eq_true rfl⟩) (MW_preV hK hC sg_gModel rfl) rfl rfl hl.1 rfl (lv_room (Nat.le_of_ble_eq_true rfl)) dX8_readEntry_146 ⟨Nat.zero_le _, Nat.zero_le _⟩) hS (fun _ _ h => h) (fun _ h => h) (fun u t H locs ht _ hp hB _ _ hS => ?_)
        have hC : MW D κ b r5 H := MW_b hB ht hp
        refine lv_goto (tgt := 212) hx hb dX8_readEntry_149 (by decide) ?_
        exact w_X8_readEntry_B212 ⟨hx, hb, hml, hown, hts, hK⟩ hret hr13 h (lv_sub hl [1, 2, 3, 4, 5, 6] rfl) hC hS
  · replace h := (if_pos hc).symm.trans h
    refine lv_aload_n hx hb dX8_readEntry_92 rfl (lv_at hl 1 rfl) ?_
    refine lv_bipush (v := (-4)) hx hb dX8_readEntry_93 (by decide) ?_
    refine lv_iload hx hb dX8_readEntry_95 (lv_at hl 6 rfl) ?_
    obtain ⟨r6, er6, h⟩ := Option.bind_eq_some_iff.mp h
    refine va_callv (va_runV (As := [.int (-4), .int x5]) (rest := []) ⟨hx, hb, hml, hown, hts⟩ (c_X8_fail l D κ b σ (-4) x5 _ er6) (cwV 2 hts (gwV wt_737 wt_739 wp_32 wt_9 wt_740) rfl rfl rfl (by decide +kernel) ⟨Nat.le_of_ble_eq_true rfl, Nat.le_of_ble_eq_true rfl⟩) (MW_preV hK hC sg_gModel rfl) rfl rfl hl.1 rfl (lv_room (Nat.le_of_ble_eq_true rfl)) dX8_readEntry_97 ⟨Nat.zero_le _, Nat.zero_le _⟩) hS (fun _ _ h => h) (fun _ h => h) (fun u t H locs ht _ hp hB _ _ hS => ?_)
    have hC : MW D κ b r6 H := MW_b hB ht hp
    refine lv_goto (tgt := 212) hx hb dX8_readEntry_100 (by decide) ?_
    exact w_X8_readEntry_B212 ⟨hx, hb, hml, hown, hts, hK⟩ hret hr13 h (lv_sub hl [1, 2, 3, 4, 5, 6] rfl) hC hS
def fn_X8_readEntry_B13b (b : Nat) (z13 : Sg → Int32 → Int32 → Int32 → Int32 → Int32 → Option (Sg)) (σ : Sg) (x1 : Int32) (x2 : Int32) (x3 : Int32) (x4 : Int32) (x5 : Int32) : Option (Sg) :=
  (if ((x4 + 12) : Int32) ≤ x5 then
  some σ
  else (if (σ.1 b 12) = 0 then
  (sg_lt ((x5 - x4) : Int32) fun v1 =>
  (if (7 : Int32) ≤ v1 then
  (if sg_ib x5 600 then
  ((fn_X8_digitOf x3 5 (v1 - 7)).bind fun r2 =>
  (if ((σ.1 (b + 1) (sg_x x5)) - 48) = r2 then
  fn_X8_readEntry_B85 b z13 σ x1 x2 x3 x4 x5 v1 1
  else fn_X8_readEntry_B85 b z13 σ x1 x2 x3 x4 x5 v1 0))
  else none)
  else (if sg_ib x5 600 then
  ((fn_X8_isDigit (σ.1 (b + 1) (sg_x x5))).bind fun r3 =>
  fn_X8_readEntry_B85 b z13 σ x1 x2 x3 x4 x5 v1 r3)
  else none)))
  else some σ))
def fn_X8_readEntry_B13 (b : Nat) : Nat → Sg → Int32 → Int32 → Int32 → Int32 → Int32 → Option (Sg)
  | 0 => fun _ _ _ _ _ _ => none
  | n + 1 => fun σ x1 x2 x3 x4 x5 => fn_X8_readEntry_B13b b (fn_X8_readEntry_B13 b n) σ x1 x2 x3 x4 x5
set_option maxHeartbeats 4000000 in
set_option maxRecDepth 100000 in
theorem w_X8_readEntry_B13b {p : Program} {l : Launch} {e : Env} {s : State} {m : MethodId} {args : Array Value} {below : List Frame} {meth : Method} {c : Code} {Q : State → Prop} {D : va_G} {κ : Nat → ClassId} {b : Nat} {H0 : Heap} {rr : Sg} (hZ : sg_Z p c s m args D κ cX8_readEntry 8 RX8 wsX8_readEntry) (hret : ∀ (u : Sg) (H : Heap) (locs : List Loc) (pc : Nat) (ls : Array Slot), some u = some rr → MW D κ b u H → va_S (sg_A b 16) H0 H locs → decode cX8_readEntry pc = .ok (.return_, 1) → W p l e rm_X8_readEntry s m args below meth c H locs 0 0 Q (F0 m pc ls [])) {z13 : Sg → Int32 → Int32 → Int32 → Int32 → Int32 → Option (Sg)} (hr13 : ∀ {σ : Sg} {x1 : Int32} {x2 : Int32} {x3 : Int32} {x4 : Int32} {x5 : Int32} {H : Heap} {locs : List Loc} {ls : Array Slot}, z13 σ x1 x2 x3 x4 x5 = some rr → lv_has ls 8 [(0, .ref b), (1, .int x1), (2, .int x2), (3, .int x3), (4, .int x4), (5, .int x5)] → MW D κ b σ H → va_S (sg_A b 16) H0 H locs → W p l e rm_X8_readEntry s m args below meth c H locs 0 0 Q (F0 m 13 ls [])) : ∀ {σ : Sg} {x1 : Int32} {x2 : Int32} {x3 : Int32} {x4 : Int32} {x5 : Int32} {H : Heap} {locs : List Loc} {ls : Array Slot}, fn_X8_readEntry_B13b b z13 σ x1 x2 x3 x4 x5 = some rr → lv_has ls 8 [(0, .ref b), (1, .int x1), (2, .int x2), (3, .int x3), (4, .int x4), (5, .int x5)] → MW D κ b σ H → va_S (sg_A b 16) H0 H locs → W p l e rm_X8_readEntry s m args below meth c H locs 0 0 Q (F0 m 13 ls []) := by
  obtain ⟨hx, hb, hml, hown, hts, hK⟩ := hZ
  intro σ x1 x2 x3 x4 x5 H locs ls h hl hC hS
  unfold fn_X8_readEntry_B13b at h
  refine lv_iload hx hb dX8_readEntry_13 (lv_at hl 5 rfl) ?_
  refine lv_iload hx hb dX8_readEntry_15 (lv_at hl 4 rfl) ?_
  refine lv_bipush (v := 12) hx hb dX8_readEntry_17 (by decide) ?_
  refine lv_iadd hx hb dX8_readEntry_19 ?_
  refine lv_icmp_ge (tgt := 218) hx hb dX8_readEntry_20 (by decide) (fun hc => ?_) (fun hc => ?_)
  · replace h := (if_pos hc).symm.trans h
    exact hret _ _ _ _ _ h hC hS dX8_readEntry_218
  · replace h := (if_neg hc).symm.trans h
    refine lv_aload_n hx hb dX8_readEntry_23 rfl (lv_at hl 0 rfl) ?_
    refine va_get (D := D) (ci := 8) (v := .int (σ.1 b 12)) (C := RX8) (T := TX8) (N := 21) hx hb hts (wqs inW_X8) hown hK.1 hC.1 (b - b) sg_gModel rfl 12 (by decide) (hts _ (wq wt_660)) (fun _ h9 => h9) rfl dX8_readEntry_24 ?_
    refine lv_if_ne (tgt := 218) hx hb dX8_readEntry_27 (by decide) (fun hc => ?_) (fun hc => ?_)
    · replace h := (if_neg hc).symm.trans h
      exact hret _ _ _ _ _ h hC hS dX8_readEntry_218
    · replace h := (if_pos hc).symm.trans h
      refine lv_iload hx hb dX8_readEntry_30 (lv_at hl 5 rfl) ?_
      refine lv_iload hx hb dX8_readEntry_32 (lv_at hl 4 rfl) ?_
      refine lv_isub hx hb dX8_readEntry_34 ?_
      obtain ⟨v1, ev1, h⟩ := sg_lte h
      refine sg_topi ev1 ?_
      refine lv_istore (lv' := [(6, .int v1), (0, .ref b), (1, .int x1), (2, .int x2), (3, .int x3), (4, .int x4), (5, .int x5)]) hx hb dX8_readEntry_35 hl (by decide) rfl (fun ls hl => ?_)
      refine lv_iload hx hb dX8_readEntry_37 (lv_at hl 0 rfl) ?_
      refine lv_bipush (v := 7) hx hb dX8_readEntry_39 (by decide) ?_
      refine lv_icmp_ge (tgt := 57) hx hb dX8_readEntry_41 (by decide) (fun hc => ?_) (fun hc => ?_)
      · replace h := (if_pos hc).symm.trans h
        refine lv_aload_n hx hb dX8_readEntry_57 rfl (lv_at hl 1 rfl) ?_
        refine va_get (D := D) (ci := 8) (v := .ref (b + 1)) (C := RX8) (T := TX8) (N := 21) hx hb hts (wqs inW_X8) hown hK.1 hC.1 (b - b) sg_gModel rfl 0 (by decide) (hts _ (wq wt_648)) (fun _ h9 => h9) rfl dX8_readEntry_58 ?_
        refine lv_iload hx hb dX8_readEntry_61 (lv_at hl 6 rfl) ?_
        obtain ⟨hg, h⟩ := sg_gd h
        refine va_iald hx hb hK.1 hC.1 ((b + 1) - b) 0 sg_ga_text rfl (sg_in hg) dX8_readEntry_63 ?_
        refine lv_bipush (v := 48) hx hb dX8_readEntry_64 (by decide) ?_
        refine lv_isub hx hb dX8_readEntry_66 ?_
        refine lv_iload_n hx hb dX8_readEntry_67 rfl (lv_at hl 4 rfl) ?_
        refine lv_iconst (v := 5) hx hb dX8_readEntry_68 (by decide) ?_
        refine lv_iload hx hb dX8_readEntry_69 (lv_at hl 0 rfl) ?_
        refine lv_bipush (v := 7) hx hb dX8_readEntry_71 (by decide) ?_
        refine lv_isub hx hb dX8_readEntry_73 ?_
        obtain ⟨r2, er2, h⟩ := Option.bind_eq_some_iff.mp h
        refine va_calli (va_runS (As := [.int x3, .int 5, .int (v1 - 7)]) (rest := [.int ((σ.1 (b + 1) (sg_x x5)) - 48)]) ⟨hx, hb, hml, hown, hts⟩ (c_X8_digitOf l D κ b σ x3 5 (v1 - 7) _ er2) (va_cwS 3 hts (gwS wt_745 wt_746 wt_9 wt_747) rfl rfl rfl (by decide +kernel) ⟨Nat.le_of_ble_eq_true rfl, Nat.le_of_ble_eq_true rfl⟩) (MW_preS hK hC) rfl rfl hl.1 rfl (lv_room (Nat.le_of_ble_eq_true rfl)) dX8_readEntry_74 ⟨Nat.zero_le _, Nat.zero_le _⟩) hS (fun _ _ h => h) (fun _ h => h) (fun r u t H locs ht _ hp hB _ _ hS => ?_)
        refine sg_topi hp.1 ?_
        have hC : MW D κ b σ H := MW_b hB ht hp.2
        refine lv_icmp_ne (tgt := 84) hx hb dX8_readEntry_77 (by decide) (fun hc => ?_) (fun hc => ?_)
        · replace h := (if_neg hc).symm.trans h
          refine lv_iconst (v := 0) hx hb dX8_readEntry_84 (by decide) ?_
          exact w_X8_readEntry_B85 ⟨hx, hb, hml, hown, hts, hK⟩ hret hr13 h (lv_sub hl [1, 2, 3, 4, 5, 6, 0] rfl) hC hS
        · replace h := (if_pos hc).symm.trans h
          refine lv_iconst (v := 1) hx hb dX8_readEntry_80 (by decide) ?_
          refine lv_goto (tgt := 85) hx hb dX8_readEntry_81 (by decide) ?_
          exact w_X8_readEntry_B85 ⟨hx, hb, hml, hown, hts, hK⟩ hret hr13 h (lv_sub hl [1, 2, 3, 4, 5, 6, 0] rfl) hC hS
      · replace h := (if_neg hc).symm.trans h
        refine lv_aload_n hx hb dX8_readEntry_44 rfl (lv_at hl 1 rfl) ?_
        refine va_get (D := D) (ci := 8) (v := .ref (b + 1)) (C := RX8) (T := TX8) (N := 21) hx hb hts (wqs inW_X8) hown hK.1 hC.1 (b - b) sg_gModel rfl 0 (by decide) (hts _ (wq wt_648)) (fun _ h9 => h9) rfl dX8_readEntry_45 ?_
        refine lv_iload hx hb dX8_readEntry_48 (lv_at hl 6 rfl) ?_
        obtain ⟨hg, h⟩ := sg_gd h
        refine va_iald hx hb hK.1 hC.1 ((b + 1) - b) 0 sg_ga_text rfl (sg_in hg) dX8_readEntry_50 ?_
        obtain ⟨r3, er3, h⟩ := Option.bind_eq_some_iff.mp h
        refine va_calli (va_runS (As := [.int (σ.1 (b + 1) (sg_x x5))]) (rest := []) ⟨hx, hb, hml, hown, hts⟩ (c_X8_isDigit l D κ b σ (σ.1 (b + 1) (sg_x x5)) _ er3) (va_cwS 1 hts (gwS wt_751 wt_752 wt_9 wt_753) rfl rfl rfl (by decide +kernel) ⟨Nat.le_of_ble_eq_true rfl, Nat.le_of_ble_eq_true rfl⟩) (MW_preS hK hC) rfl rfl hl.1 rfl (lv_room (Nat.le_of_ble_eq_true rfl)) dX8_readEntry_51 ⟨Nat.zero_le _, Nat.zero_le _⟩) hS (fun _ _ h => h) (fun _ h => h) (fun r u t H locs ht _ hp hB _ _ hS => ?_)
        refine sg_topi hp.1 ?_
        have hC : MW D κ b σ H := MW_b hB ht hp.2
        refine lv_goto (tgt := 85) hx hb dX8_readEntry_54 (by decide) ?_
        exact w_X8_readEntry_B85 ⟨hx, hb, hml, hown, hts, hK⟩ hret hr13 h (lv_sub hl [1, 2, 3, 4, 5, 6, 0] rfl) hC hS
set_option maxHeartbeats 4000000 in
theorem w_X8_readEntry_B13 {p : Program} {l : Launch} {e : Env} {s : State} {m : MethodId} {args : Array Value} {below : List Frame} {meth : Method} {c : Code} {Q : State → Prop} {D : va_G} {κ : Nat → ClassId} {b : Nat} {H0 : Heap} {rr : Sg} (hZ : sg_Z p c s m args D κ cX8_readEntry 8 RX8 wsX8_readEntry) (hret : ∀ (u : Sg) (H : Heap) (locs : List Loc) (pc : Nat) (ls : Array Slot), some u = some rr → MW D κ b u H → va_S (sg_A b 16) H0 H locs → decode cX8_readEntry pc = .ok (.return_, 1) → W p l e rm_X8_readEntry s m args below meth c H locs 0 0 Q (F0 m pc ls [])) : ∀ n : Nat, ∀ {σ : Sg} {x1 : Int32} {x2 : Int32} {x3 : Int32} {x4 : Int32} {x5 : Int32} {H : Heap} {locs : List Loc} {ls : Array Slot}, fn_X8_readEntry_B13 b n σ x1 x2 x3 x4 x5 = some rr → lv_has ls 8 [(0, .ref b), (1, .int x1), (2, .int x2), (3, .int x3), (4, .int x4), (5, .int x5)] → MW D κ b σ H → va_S (sg_A b 16) H0 H locs → W p l e rm_X8_readEntry s m args below meth c H locs 0 0 Q (F0 m 13 ls []) := by
  intro n
  induction n with
  | zero => intro σ x1 x2 x3 x4 x5 H locs ls h hl hC hS; cases (show (none : Option (Sg)) = some rr from h)
  | succ n ih =>
    intro σ x1 x2 x3 x4 x5 H locs ls h hl hC hS
    exact w_X8_readEntry_B13b hZ hret ih (show fn_X8_readEntry_B13b b (fn_X8_readEntry_B13 b n) σ x1 x2 x3 x4 x5 = some rr from h)  hl hC hS
def fn_X8_readEntry (b : Nat) (σ : Sg) (x1 : Int32) (x2 : Int32) (x3 : Int32) : Option (Sg) :=
  (sg_lt ((24 + (12 * x2)) : Int32) fun v1 =>
  fn_X8_readEntry_B13 b sg_N σ x1 x2 x3 v1 v1)
set_option maxHeartbeats 4000000 in
set_option maxRecDepth 100000 in
theorem w_X8_readEntry_B0 {p : Program} {l : Launch} {e : Env} {s : State} {m : MethodId} {args : Array Value} {below : List Frame} {meth : Method} {c : Code} {Q : State → Prop} {D : va_G} {κ : Nat → ClassId} {b : Nat} {H0 : Heap} {rr : Sg} (hZ : sg_Z p c s m args D κ cX8_readEntry 8 RX8 wsX8_readEntry) (hret : ∀ (u : Sg) (H : Heap) (locs : List Loc) (pc : Nat) (ls : Array Slot), some u = some rr → MW D κ b u H → va_S (sg_A b 16) H0 H locs → decode cX8_readEntry pc = .ok (.return_, 1) → W p l e rm_X8_readEntry s m args below meth c H locs 0 0 Q (F0 m pc ls [])) : ∀ {σ : Sg} {x1 : Int32} {x2 : Int32} {x3 : Int32} {H : Heap} {locs : List Loc} {ls : Array Slot}, fn_X8_readEntry b σ x1 x2 x3 = some rr → lv_has ls 8 [(0, .ref b), (1, .int x1), (2, .int x2), (3, .int x3)] → MW D κ b σ H → va_S (sg_A b 16) H0 H locs → W p l e rm_X8_readEntry s m args below meth c H locs 0 0 Q (F0 m 0 ls []) := by
  obtain ⟨hx, hb, hml, hown, hts, hK⟩ := hZ
  intro σ x1 x2 x3 H locs ls h hl hC hS
  unfold fn_X8_readEntry at h
  refine lv_bipush (v := 24) hx hb dX8_readEntry_0 (by decide) ?_
  refine lv_bipush (v := 12) hx hb dX8_readEntry_2 (by decide) ?_
  refine lv_iload_n hx hb dX8_readEntry_4 rfl (lv_at hl 2 rfl) ?_
  refine lv_imul hx hb dX8_readEntry_5 ?_
  refine lv_iadd hx hb dX8_readEntry_6 ?_
  obtain ⟨v1, ev1, h⟩ := sg_lte h
  refine sg_topi ev1 ?_
  refine lv_istore (lv' := [(4, .int v1), (0, .ref b), (1, .int x1), (2, .int x2), (3, .int x3)]) hx hb dX8_readEntry_7 hl (by decide) rfl (fun ls hl => ?_)
  refine lv_iload hx hb dX8_readEntry_9 (lv_at hl 0 rfl) ?_
  refine lv_istore (lv' := [(5, .int v1), (4, .int v1), (0, .ref b), (1, .int x1), (2, .int x2), (3, .int x3)]) hx hb dX8_readEntry_11 hl (by decide) rfl (fun ls hl => ?_)
  exact w_X8_readEntry_B13 ⟨hx, hb, hml, hown, hts, hK⟩ hret  sg_N h (lv_sub hl [2, 3, 4, 5, 1, 0] rfl) hC hS
set_option maxHeartbeats 4000000 in
set_option maxRecDepth 100000 in
theorem c_X8_readEntry (l : Launch) (D : va_G) (κ : Nat → ClassId) (b : Nat) (σ : Sg) (x1 : Int32) (x2 : Int32) (x3 : Int32) (rr : Sg)  (h : fn_X8_readEntry b σ x1 x2 x3 = some rr) : Met l yX8_readEntry wsX8_readEntry rm_X8_readEntry (va_Pc [.ref b, .int x1, .int x2, .int x3] (fun U => KK D κ U ∧ MW D κ b σ U.heap)) (va_Qv (fun u : Sg => u = rr) (fun u t => MW D κ b u t.heap) (sg_A b 16)) 0 0 (sg_A b 16) := by
  refine Met.ofW (cc := cX8_readEntry) (maxL := 8) (ret := none) (by decide) rfl ?_
  intro p e s m args below meth c s₁ B hml hv
  obtain ⟨rfl, hK, hC⟩ := hv
  have hr := B.returns
  have hlocks := B.notSynchronized
  have hl := lv_entry ([.ref b, .int x1, .int x2, .int x3]) (n := 8) (Nat.le_of_ble_eq_true rfl)
  rw [lg_entry_eq]
  generalize (lg_sl ([.ref b, .int x1, .int x2, .int x3]) ++ List.replicate (8 - (lg_sl ([.ref b, .int x1, .int x2, .int x3])).length) Slot.unset).toArray = ls at hl ⊢
  have hl : lv_has ls 8 [(0, .ref b), (1, .int x1), (2, .int x2), (3, .int x3)] := hl
  exact w_X8_readEntry_B0 ⟨B.exec, B.bytes, hml, findClass_of_methodNamed B.named, atoms_spec (ws := wsX8_readEntry) B.pre, hK⟩ (fun u H locs pc ls hq hC hS hd => W.vret B.exec B.bytes hr (fun t ht hW => ⟨⟨_, rfl, Option.some.inj hq, MW_e ht hC⟩, hS.F ht⟩) hS.2.2 hd) h  hl hC va_S.rf

-- RecordShelfModel.say(II)V
theorem dX8_say_0 : decode cX8_say 0 = .ok (.aload_n 0, 1) := by decide +kernel
theorem dX8_say_1 : decode cX8_say 1 = .ok (.getfield 37, 3) := by decide +kernel
theorem dX8_say_4 : decode cX8_say 4 = .ok (.bipush 20, 2) := by decide +kernel
theorem dX8_say_6 : decode cX8_say 6 = .ok (.iload_n 1, 1) := by decide +kernel
theorem dX8_say_7 : decode cX8_say 7 = .ok (.imul, 1) := by decide +kernel
theorem dX8_say_8 : decode cX8_say 8 = .ok (.aload_n 0, 1) := by decide +kernel
theorem dX8_say_9 : decode cX8_say 9 = .ok (.getfield 34, 3) := by decide +kernel
theorem dX8_say_12 : decode cX8_say 12 = .ok (.iload_n 1, 1) := by decide +kernel
theorem dX8_say_13 : decode cX8_say 13 = .ok (.iaload, 1) := by decide +kernel
theorem dX8_say_14 : decode cX8_say 14 = .ok (.iadd, 1) := by decide +kernel
theorem dX8_say_15 : decode cX8_say 15 = .ok (.iload_n 2, 1) := by decide +kernel
theorem dX8_say_16 : decode cX8_say 16 = .ok (.iastore, 1) := by decide +kernel
theorem dX8_say_17 : decode cX8_say 17 = .ok (.aload_n 0, 1) := by decide +kernel
theorem dX8_say_18 : decode cX8_say 18 = .ok (.getfield 34, 3) := by decide +kernel
theorem dX8_say_21 : decode cX8_say 21 = .ok (.iload_n 1, 1) := by decide +kernel
theorem dX8_say_22 : decode cX8_say 22 = .ok (.dup2, 1) := by decide +kernel
theorem dX8_say_23 : decode cX8_say 23 = .ok (.iaload, 1) := by decide +kernel
theorem dX8_say_24 : decode cX8_say 24 = .ok (.iconst 1, 1) := by decide +kernel
theorem dX8_say_25 : decode cX8_say 25 = .ok (.iadd, 1) := by decide +kernel
theorem dX8_say_26 : decode cX8_say 26 = .ok (.iastore, 1) := by decide +kernel
theorem dX8_say_27 : decode cX8_say 27 = .ok (.return_, 1) := by decide +kernel
def rm_X8_say : Room := { frames := 0, cells := 0, slots := 0, locals := 0 }
def fn_X8_say (b : Nat) (σ : Sg) (x1 : Int32) (x2 : Int32) : Option (Sg) :=
  (if sg_ib x1 192 then
  (if sg_ib ((20 * x1) + (σ.1 (b + 9) (sg_x x1))) 3840 then
  (sg_lt (sg_w σ (b + 10) (sg_x ((20 * x1) + (σ.1 (b + 9) (sg_x x1)))) x2) fun σ1 =>
  (if sg_ib x1 192 then
  (if sg_ib x1 192 then
  (sg_lt (sg_w σ1 (b + 9) (sg_x x1) ((σ1.1 (b + 9) (sg_x x1)) + 1)) fun σ2 =>
  some σ2)
  else none)
  else none))
  else none)
  else none)
set_option maxHeartbeats 4000000 in
set_option maxRecDepth 100000 in
theorem w_X8_say_B0 {p : Program} {l : Launch} {e : Env} {s : State} {m : MethodId} {args : Array Value} {below : List Frame} {meth : Method} {c : Code} {Q : State → Prop} {D : va_G} {κ : Nat → ClassId} {b : Nat} {H0 : Heap} {rr : Sg} (hZ : sg_Z p c s m args D κ cX8_say 3 RX8 wsX8_say) (hret : ∀ (u : Sg) (H : Heap) (locs : List Loc) (pc : Nat) (ls : Array Slot), some u = some rr → MW D κ b u H → va_S (sg_A b 16) H0 H locs → decode cX8_say pc = .ok (.return_, 1) → W p l e rm_X8_say s m args below meth c H locs 0 0 Q (F0 m pc ls [])) : ∀ {σ : Sg} {x1 : Int32} {x2 : Int32} {H : Heap} {locs : List Loc} {ls : Array Slot}, fn_X8_say b σ x1 x2 = some rr → lv_has ls 3 [(0, .ref b), (1, .int x1), (2, .int x2)] → MW D κ b σ H → va_S (sg_A b 16) H0 H locs → W p l e rm_X8_say s m args below meth c H locs 0 0 Q (F0 m 0 ls []) := by
  obtain ⟨hx, hb, hml, hown, hts, hK⟩ := hZ
  intro σ x1 x2 H locs ls h hl hC hS
  unfold fn_X8_say at h
  refine lv_aload_n hx hb dX8_say_0 rfl (lv_at hl 0 rfl) ?_
  refine va_get (D := D) (ci := 8) (v := .ref (b + 10)) (C := RX8) (T := TX8) (N := 21) hx hb hts (wqs inW_X8) hown hK.1 hC.1 (b - b) sg_gModel rfl 11 (by decide) (hts _ (wq wt_659)) (fun _ h9 => h9) rfl dX8_say_1 ?_
  refine lv_bipush (v := 20) hx hb dX8_say_4 (by decide) ?_
  refine lv_iload_n hx hb dX8_say_6 rfl (lv_at hl 1 rfl) ?_
  refine lv_imul hx hb dX8_say_7 ?_
  refine lv_aload_n hx hb dX8_say_8 rfl (lv_at hl 0 rfl) ?_
  refine va_get (D := D) (ci := 8) (v := .ref (b + 9)) (C := RX8) (T := TX8) (N := 21) hx hb hts (wqs inW_X8) hown hK.1 hC.1 (b - b) sg_gModel rfl 10 (by decide) (hts _ (wq wt_658)) (fun _ h9 => h9) rfl dX8_say_9 ?_
  refine lv_iload_n hx hb dX8_say_12 rfl (lv_at hl 1 rfl) ?_
  obtain ⟨hg, h⟩ := sg_gd h
  refine va_iald hx hb hK.1 hC.1 ((b + 9) - b) 0 sg_ga_sizes rfl (sg_in hg) dX8_say_13 ?_
  refine lv_iadd hx hb dX8_say_14 ?_
  refine lv_iload_n hx hb dX8_say_15 rfl (lv_at hl 2 rfl) ?_
  obtain ⟨hg, h⟩ := sg_gd h
  refine va_iast hx hb hK.1 hC.1 sg_D hS ((b + 10) - b) 0 sg_ga_characters rfl (sg_in hg) dX8_say_16 (fun H locs hP _ hS => ?_)
  obtain ⟨σ1, eσ1, h⟩ := sg_lte h
  have hC : MW D κ b σ1 H := eσ1 ▸ MW_put (k := sg_x ((20 * x1) + (σ.1 (b + 9) (sg_x x1)))) (v := x2) hC sg_aa_characters (sg_ya_characters _ _) hP
  refine lv_aload_n hx hb dX8_say_17 rfl (lv_at hl 0 rfl) ?_
  refine va_get (D := D) (ci := 8) (v := .ref (b + 9)) (C := RX8) (T := TX8) (N := 21) hx hb hts (wqs inW_X8) hown hK.1 hC.1 (b - b) sg_gModel rfl 10 (by decide) (hts _ (wq wt_658)) (fun _ h9 => h9) rfl dX8_say_18 ?_
  refine lv_iload_n hx hb dX8_say_21 rfl (lv_at hl 1 rfl) ?_
  refine lv_dup2_11 hx hb dX8_say_22 rfl rfl ?_
  obtain ⟨hg, h⟩ := sg_gd h
  refine va_iald hx hb hK.1 hC.1 ((b + 9) - b) 0 sg_ga_sizes rfl (sg_in hg) dX8_say_23 ?_
  refine lv_iconst (v := 1) hx hb dX8_say_24 (by decide) ?_
  refine lv_iadd hx hb dX8_say_25 ?_
  obtain ⟨hg, h⟩ := sg_gd h
  refine va_iast hx hb hK.1 hC.1 sg_D hS ((b + 9) - b) 0 sg_ga_sizes rfl (sg_in hg) dX8_say_26 (fun H locs hP _ hS => ?_)
  obtain ⟨σ2, eσ2, h⟩ := sg_lte h
  have hC : MW D κ b σ2 H := eσ2 ▸ MW_put (k := sg_x x1) (v := ((σ1.1 (b + 9) (sg_x x1)) + 1)) hC sg_aa_sizes (sg_ya_sizes _ _) hP
  exact hret _ _ _ _ _ h hC hS dX8_say_27
set_option maxHeartbeats 4000000 in
set_option maxRecDepth 100000 in
theorem c_X8_say (l : Launch) (D : va_G) (κ : Nat → ClassId) (b : Nat) (σ : Sg) (x1 : Int32) (x2 : Int32) (rr : Sg)  (h : fn_X8_say b σ x1 x2 = some rr) : Met l yX8_say wsX8_say rm_X8_say (va_Pc [.ref b, .int x1, .int x2] (fun U => KK D κ U ∧ MW D κ b σ U.heap)) (va_Qv (fun u : Sg => u = rr) (fun u t => MW D κ b u t.heap) (sg_A b 16)) 0 0 (sg_A b 16) := by
  refine Met.ofW (cc := cX8_say) (maxL := 3) (ret := none) (by decide) rfl ?_
  intro p e s m args below meth c s₁ B hml hv
  obtain ⟨rfl, hK, hC⟩ := hv
  have hr := B.returns
  have hlocks := B.notSynchronized
  have hl := lv_entry ([.ref b, .int x1, .int x2]) (n := 3) (Nat.le_of_ble_eq_true rfl)
  rw [lg_entry_eq]
  generalize (lg_sl ([.ref b, .int x1, .int x2]) ++ List.replicate (3 - (lg_sl ([.ref b, .int x1, .int x2])).length) Slot.unset).toArray = ls at hl ⊢
  have hl : lv_has ls 3 [(0, .ref b), (1, .int x1), (2, .int x2)] := hl
  exact w_X8_say_B0 ⟨B.exec, B.bytes, hml, findClass_of_methodNamed B.named, atoms_spec (ws := wsX8_say) B.pre, hK⟩ (fun u H locs pc ls hq hC hS hd => W.vret B.exec B.bytes hr (fun t ht hW => ⟨⟨_, rfl, Option.some.inj hq, MW_e ht hC⟩, hS.F ht⟩) hS.2.2 hd) h  hl hC va_S.rf

-- RecordShelfModel.open(II)V
theorem dX8_open_0 : decode cX8_open 0 = .ok (.iconst 4, 1) := by decide +kernel
theorem dX8_open_1 : decode cX8_open 1 = .ok (.iload_n 1, 1) := by decide +kernel
theorem dX8_open_2 : decode cX8_open 2 = .ok (.imul, 1) := by decide +kernel
theorem dX8_open_3 : decode cX8_open 3 = .ok (.aload_n 0, 1) := by decide +kernel
theorem dX8_open_4 : decode cX8_open 4 = .ok (.getfield 28, 3) := by decide +kernel
theorem dX8_open_7 : decode cX8_open 7 = .ok (.iload_n 1, 1) := by decide +kernel
theorem dX8_open_8 : decode cX8_open 8 = .ok (.iaload, 1) := by decide +kernel
theorem dX8_open_9 : decode cX8_open 9 = .ok (.iadd, 1) := by decide +kernel
theorem dX8_open_10 : decode cX8_open 10 = .ok (.istore_n 3, 1) := by decide +kernel
theorem dX8_open_11 : decode cX8_open 11 = .ok (.aload_n 0, 1) := by decide +kernel
theorem dX8_open_12 : decode cX8_open 12 = .ok (.getfield 31, 3) := by decide +kernel
theorem dX8_open_15 : decode cX8_open 15 = .ok (.iload_n 3, 1) := by decide +kernel
theorem dX8_open_16 : decode cX8_open 16 = .ok (.iload_n 2, 1) := by decide +kernel
theorem dX8_open_17 : decode cX8_open 17 = .ok (.iastore, 1) := by decide +kernel
theorem dX8_open_18 : decode cX8_open 18 = .ok (.aload_n 0, 1) := by decide +kernel
theorem dX8_open_19 : decode cX8_open 19 = .ok (.getfield 34, 3) := by decide +kernel
theorem dX8_open_22 : decode cX8_open 22 = .ok (.iload_n 3, 1) := by decide +kernel
theorem dX8_open_23 : decode cX8_open 23 = .ok (.iconst 0, 1) := by decide +kernel
theorem dX8_open_24 : decode cX8_open 24 = .ok (.iastore, 1) := by decide +kernel
theorem dX8_open_25 : decode cX8_open 25 = .ok (.aload_n 0, 1) := by decide +kernel
theorem dX8_open_26 : decode cX8_open 26 = .ok (.getfield 28, 3) := by decide +kernel
theorem dX8_open_29 : decode cX8_open 29 = .ok (.iload_n 1, 1) := by decide +kernel
theorem dX8_open_30 : decode cX8_open 30 = .ok (.dup2, 1) := by decide +kernel
theorem dX8_open_31 : decode cX8_open 31 = .ok (.iaload, 1) := by decide +kernel
theorem dX8_open_32 : decode cX8_open 32 = .ok (.iconst 1, 1) := by decide +kernel
theorem dX8_open_33 : decode cX8_open 33 = .ok (.iadd, 1) := by decide +kernel
theorem dX8_open_34 : decode cX8_open 34 = .ok (.iastore, 1) := by decide +kernel
theorem dX8_open_35 : decode cX8_open 35 = .ok (.return_, 1) := by decide +kernel
def rm_X8_open : Room := { frames := 0, cells := 0, slots := 0, locals := 0 }
def fn_X8_open (b : Nat) (σ : Sg) (x1 : Int32) (x2 : Int32) : Option (Sg) :=
  (if sg_ib x1 48 then
  (sg_lt (((4 * x1) + (σ.1 (b + 7) (sg_x x1))) : Int32) fun v1 =>
  (if sg_ib v1 192 then
  (sg_lt (sg_w σ (b + 8) (sg_x v1) x2) fun σ2 =>
  (if sg_ib v1 192 then
  (sg_lt (sg_w σ2 (b + 9) (sg_x v1) 0) fun σ3 =>
  (if sg_ib x1 48 then
  (if sg_ib x1 48 then
  (sg_lt (sg_w σ3 (b + 7) (sg_x x1) ((σ3.1 (b + 7) (sg_x x1)) + 1)) fun σ4 =>
  some σ4)
  else none)
  else none))
  else none))
  else none))
  else none)
set_option maxHeartbeats 4000000 in
set_option maxRecDepth 100000 in
theorem w_X8_open_B0 {p : Program} {l : Launch} {e : Env} {s : State} {m : MethodId} {args : Array Value} {below : List Frame} {meth : Method} {c : Code} {Q : State → Prop} {D : va_G} {κ : Nat → ClassId} {b : Nat} {H0 : Heap} {rr : Sg} (hZ : sg_Z p c s m args D κ cX8_open 4 RX8 wsX8_open) (hret : ∀ (u : Sg) (H : Heap) (locs : List Loc) (pc : Nat) (ls : Array Slot), some u = some rr → MW D κ b u H → va_S (sg_A b 16) H0 H locs → decode cX8_open pc = .ok (.return_, 1) → W p l e rm_X8_open s m args below meth c H locs 0 0 Q (F0 m pc ls [])) : ∀ {σ : Sg} {x1 : Int32} {x2 : Int32} {H : Heap} {locs : List Loc} {ls : Array Slot}, fn_X8_open b σ x1 x2 = some rr → lv_has ls 4 [(0, .ref b), (1, .int x1), (2, .int x2)] → MW D κ b σ H → va_S (sg_A b 16) H0 H locs → W p l e rm_X8_open s m args below meth c H locs 0 0 Q (F0 m 0 ls []) := by
  obtain ⟨hx, hb, hml, hown, hts, hK⟩ := hZ
  intro σ x1 x2 H locs ls h hl hC hS
  unfold fn_X8_open at h
  refine lv_iconst (v := 4) hx hb dX8_open_0 (by decide) ?_
  refine lv_iload_n hx hb dX8_open_1 rfl (lv_at hl 1 rfl) ?_
  refine lv_imul hx hb dX8_open_2 ?_
  refine lv_aload_n hx hb dX8_open_3 rfl (lv_at hl 0 rfl) ?_
  refine va_get (D := D) (ci := 8) (v := .ref (b + 7)) (C := RX8) (T := TX8) (N := 21) hx hb hts (wqs inW_X8) hown hK.1 hC.1 (b - b) sg_gModel rfl 8 (by decide) (hts _ (wq wt_656)) (fun _ h9 => h9) rfl dX8_open_4 ?_
  refine lv_iload_n hx hb dX8_open_7 rfl (lv_at hl 1 rfl) ?_
  obtain ⟨hg, h⟩ := sg_gd h
  refine va_iald hx hb hK.1 hC.1 ((b + 7) - b) 0 sg_ga_subfields rfl (sg_in hg) dX8_open_8 ?_
  refine lv_iadd hx hb dX8_open_9 ?_
  obtain ⟨v1, ev1, h⟩ := sg_lte h
  refine sg_topi ev1 ?_
  refine lv_istore_n (lv' := [(3, .int v1), (0, .ref b), (1, .int x1), (2, .int x2)]) hx hb dX8_open_10 rfl hl (by decide) rfl (fun ls hl => ?_)
  refine lv_aload_n hx hb dX8_open_11 rfl (lv_at hl 1 rfl) ?_
  refine va_get (D := D) (ci := 8) (v := .ref (b + 8)) (C := RX8) (T := TX8) (N := 21) hx hb hts (wqs inW_X8) hown hK.1 hC.1 (b - b) sg_gModel rfl 9 (by decide) (hts _ (wq wt_657)) (fun _ h9 => h9) rfl dX8_open_12 ?_
  refine lv_iload_n hx hb dX8_open_15 rfl (lv_at hl 0 rfl) ?_
  refine lv_iload_n hx hb dX8_open_16 rfl (lv_at hl 3 rfl) ?_
  obtain ⟨hg, h⟩ := sg_gd h
  refine va_iast hx hb hK.1 hC.1 sg_D hS ((b + 8) - b) 0 sg_ga_codes rfl (sg_in hg) dX8_open_17 (fun H locs hP _ hS => ?_)
  obtain ⟨σ2, eσ2, h⟩ := sg_lte h
  have hC : MW D κ b σ2 H := eσ2 ▸ MW_put (k := sg_x v1) (v := x2) hC sg_aa_codes (sg_ya_codes _ _) hP
  refine lv_aload_n hx hb dX8_open_18 rfl (lv_at hl 1 rfl) ?_
  refine va_get (D := D) (ci := 8) (v := .ref (b + 9)) (C := RX8) (T := TX8) (N := 21) hx hb hts (wqs inW_X8) hown hK.1 hC.1 (b - b) sg_gModel rfl 10 (by decide) (hts _ (wq wt_658)) (fun _ h9 => h9) rfl dX8_open_19 ?_
  refine lv_iload_n hx hb dX8_open_22 rfl (lv_at hl 0 rfl) ?_
  refine lv_iconst (v := 0) hx hb dX8_open_23 (by decide) ?_
  obtain ⟨hg, h⟩ := sg_gd h
  refine va_iast hx hb hK.1 hC.1 sg_D hS ((b + 9) - b) 0 sg_ga_sizes rfl (sg_in hg) dX8_open_24 (fun H locs hP _ hS => ?_)
  obtain ⟨σ3, eσ3, h⟩ := sg_lte h
  have hC : MW D κ b σ3 H := eσ3 ▸ MW_put (k := sg_x v1) (v := 0) hC sg_aa_sizes (sg_ya_sizes _ _) hP
  refine lv_aload_n hx hb dX8_open_25 rfl (lv_at hl 1 rfl) ?_
  refine va_get (D := D) (ci := 8) (v := .ref (b + 7)) (C := RX8) (T := TX8) (N := 21) hx hb hts (wqs inW_X8) hown hK.1 hC.1 (b - b) sg_gModel rfl 8 (by decide) (hts _ (wq wt_656)) (fun _ h9 => h9) rfl dX8_open_26 ?_
  refine lv_iload_n hx hb dX8_open_29 rfl (lv_at hl 2 rfl) ?_
  refine lv_dup2_11 hx hb dX8_open_30 rfl rfl ?_
  obtain ⟨hg, h⟩ := sg_gd h
  refine va_iald hx hb hK.1 hC.1 ((b + 7) - b) 0 sg_ga_subfields rfl (sg_in hg) dX8_open_31 ?_
  refine lv_iconst (v := 1) hx hb dX8_open_32 (by decide) ?_
  refine lv_iadd hx hb dX8_open_33 ?_
  obtain ⟨hg, h⟩ := sg_gd h
  refine va_iast hx hb hK.1 hC.1 sg_D hS ((b + 7) - b) 0 sg_ga_subfields rfl (sg_in hg) dX8_open_34 (fun H locs hP _ hS => ?_)
  obtain ⟨σ4, eσ4, h⟩ := sg_lte h
  have hC : MW D κ b σ4 H := eσ4 ▸ MW_put (k := sg_x x1) (v := ((σ3.1 (b + 7) (sg_x x1)) + 1)) hC sg_aa_subfields (sg_ya_subfields _ _) hP
  exact hret _ _ _ _ _ h hC hS dX8_open_35
set_option maxHeartbeats 4000000 in
set_option maxRecDepth 100000 in
theorem c_X8_open (l : Launch) (D : va_G) (κ : Nat → ClassId) (b : Nat) (σ : Sg) (x1 : Int32) (x2 : Int32) (rr : Sg)  (h : fn_X8_open b σ x1 x2 = some rr) : Met l yX8_open wsX8_open rm_X8_open (va_Pc [.ref b, .int x1, .int x2] (fun U => KK D κ U ∧ MW D κ b σ U.heap)) (va_Qv (fun u : Sg => u = rr) (fun u t => MW D κ b u t.heap) (sg_A b 16)) 0 0 (sg_A b 16) := by
  refine Met.ofW (cc := cX8_open) (maxL := 4) (ret := none) (by decide) rfl ?_
  intro p e s m args below meth c s₁ B hml hv
  obtain ⟨rfl, hK, hC⟩ := hv
  have hr := B.returns
  have hlocks := B.notSynchronized
  have hl := lv_entry ([.ref b, .int x1, .int x2]) (n := 4) (Nat.le_of_ble_eq_true rfl)
  rw [lg_entry_eq]
  generalize (lg_sl ([.ref b, .int x1, .int x2]) ++ List.replicate (4 - (lg_sl ([.ref b, .int x1, .int x2])).length) Slot.unset).toArray = ls at hl ⊢
  have hl : lv_has ls 4 [(0, .ref b), (1, .int x1), (2, .int x2)] := hl
  exact w_X8_open_B0 ⟨B.exec, B.bytes, hml, findClass_of_methodNamed B.named, atoms_spec (ws := wsX8_open) B.pre, hK⟩ (fun u H locs pc ls hq hC hS hd => W.vret B.exec B.bytes hr (fun t ht hW => ⟨⟨_, rfl, Option.some.inj hq, MW_e ht hC⟩, hS.F ht⟩) hS.2.2 hd) h  hl hC va_S.rf
