-- RecordShelf$Reader.takeLeader(LRecordShelf$Card;)Z
theorem dX4_takeLeader_0 : decode cX4_takeLeader 0 = .ok (.aload_n 0, 1) := by decide +kernel
theorem dX4_takeLeader_1 : decode cX4_takeLeader 1 = .ok (.aload_n 0, 1) := by decide +kernel
theorem dX4_takeLeader_2 : decode cX4_takeLeader 2 = .ok (.getfield 12, 3) := by decide +kernel
theorem dX4_takeLeader_5 : decode cX4_takeLeader 5 = .ok (.getfield 51, 3) := by decide +kernel
theorem dX4_takeLeader_8 : decode cX4_takeLeader 8 = .ok (.iconst 0, 1) := by decide +kernel
theorem dX4_takeLeader_9 : decode cX4_takeLeader 9 = .ok (.iconst 5, 1) := by decide +kernel
theorem dX4_takeLeader_10 : decode cX4_takeLeader 10 = .ok (.bipush (-3), 2) := by decide +kernel
theorem dX4_takeLeader_12 : decode cX4_takeLeader 12 = .ok (.invokevirtual 54, 3) := by decide +kernel
theorem dX4_takeLeader_15 : decode cX4_takeLeader 15 = .ok (.ifCond .eq 67, 3) := by decide +kernel
theorem dX4_takeLeader_18 : decode cX4_takeLeader 18 = .ok (.aload_n 0, 1) := by decide +kernel
theorem dX4_takeLeader_19 : decode cX4_takeLeader 19 = .ok (.aload_n 1, 1) := by decide +kernel
theorem dX4_takeLeader_20 : decode cX4_takeLeader 20 = .ok (.iconst 0, 1) := by decide +kernel
theorem dX4_takeLeader_21 : decode cX4_takeLeader 21 = .ok (.iconst 5, 1) := by decide +kernel
theorem dX4_takeLeader_22 : decode cX4_takeLeader 22 = .ok (.iconst 5, 1) := by decide +kernel
theorem dX4_takeLeader_23 : decode cX4_takeLeader 23 = .ok (.invokevirtual 58, 3) := by decide +kernel
theorem dX4_takeLeader_26 : decode cX4_takeLeader 26 = .ok (.ifCond .eq 56, 3) := by decide +kernel
theorem dX4_takeLeader_29 : decode cX4_takeLeader 29 = .ok (.aload_n 0, 1) := by decide +kernel
theorem dX4_takeLeader_30 : decode cX4_takeLeader 30 = .ok (.bipush 22, 2) := by decide +kernel
theorem dX4_takeLeader_32 : decode cX4_takeLeader 32 = .ok (.bipush 10, 2) := by decide +kernel
theorem dX4_takeLeader_34 : decode cX4_takeLeader 34 = .ok (.iconst 2, 1) := by decide +kernel
theorem dX4_takeLeader_35 : decode cX4_takeLeader 35 = .ok (.bipush (-3), 2) := by decide +kernel
theorem dX4_takeLeader_37 : decode cX4_takeLeader 37 = .ok (.invokevirtual 54, 3) := by decide +kernel
theorem dX4_takeLeader_40 : decode cX4_takeLeader 40 = .ok (.ifCond .eq 42, 3) := by decide +kernel
theorem dX4_takeLeader_43 : decode cX4_takeLeader 43 = .ok (.aload_n 0, 1) := by decide +kernel
theorem dX4_takeLeader_44 : decode cX4_takeLeader 44 = .ok (.invokevirtual 62, 3) := by decide +kernel
theorem dX4_takeLeader_47 : decode cX4_takeLeader 47 = .ok (.ifCond .eq 35, 3) := by decide +kernel
theorem dX4_takeLeader_50 : decode cX4_takeLeader 50 = .ok (.aload_n 0, 1) := by decide +kernel
theorem dX4_takeLeader_51 : decode cX4_takeLeader 51 = .ok (.aload_n 1, 1) := by decide +kernel
theorem dX4_takeLeader_52 : decode cX4_takeLeader 52 = .ok (.iconst 5, 1) := by decide +kernel
theorem dX4_takeLeader_53 : decode cX4_takeLeader 53 = .ok (.bipush 8, 2) := by decide +kernel
theorem dX4_takeLeader_55 : decode cX4_takeLeader 55 = .ok (.bipush 17, 2) := by decide +kernel
theorem dX4_takeLeader_57 : decode cX4_takeLeader 57 = .ok (.invokevirtual 58, 3) := by decide +kernel
theorem dX4_takeLeader_60 : decode cX4_takeLeader 60 = .ok (.ifCond .eq 22, 3) := by decide +kernel
theorem dX4_takeLeader_63 : decode cX4_takeLeader 63 = .ok (.aload_n 0, 1) := by decide +kernel
theorem dX4_takeLeader_64 : decode cX4_takeLeader 64 = .ok (.sipush 4500, 3) := by decide +kernel
theorem dX4_takeLeader_67 : decode cX4_takeLeader 67 = .ok (.bipush 20, 2) := by decide +kernel
theorem dX4_takeLeader_69 : decode cX4_takeLeader 69 = .ok (.iconst 4, 1) := by decide +kernel
theorem dX4_takeLeader_70 : decode cX4_takeLeader 70 = .ok (.bipush (-3), 2) := by decide +kernel
theorem dX4_takeLeader_72 : decode cX4_takeLeader 72 = .ok (.invokevirtual 54, 3) := by decide +kernel
theorem dX4_takeLeader_75 : decode cX4_takeLeader 75 = .ok (.ifCond .eq 7, 3) := by decide +kernel
theorem dX4_takeLeader_78 : decode cX4_takeLeader 78 = .ok (.iconst 1, 1) := by decide +kernel
theorem dX4_takeLeader_79 : decode cX4_takeLeader 79 = .ok (.goto 4, 3) := by decide +kernel
theorem dX4_takeLeader_82 : decode cX4_takeLeader 82 = .ok (.iconst 0, 1) := by decide +kernel
theorem dX4_takeLeader_83 : decode cX4_takeLeader 83 = .ok (.ireturn, 1) := by decide +kernel
def rm_X4_takeLeader : Room := { frames := 3, cells := 0, slots := 0, locals := 68 }
def fn_X4_takeLeader (b : Nat) (σ : Sg) (x1 : Nat) : Option (Int32 × Sg) :=
  ((fn_X4_expectNumber b σ (σ.1 (b + 2) 1) 0 5 (-3)).bind fun r1 =>
  (if r1.1 = 0 then
  some (0, r1.2)
  else ((fn_X4_takeLetters b r1.2 x1 0 5 5).bind fun r2 =>
  (if r2.1 = 0 then
  some (0, r2.2)
  else ((fn_X4_expectNumber b r2.2 22 10 2 (-3)).bind fun r3 =>
  (if r3.1 = 0 then
  some (0, r3.2)
  else ((fn_X4_takeBase b r3.2).bind fun r4 =>
  (if r4.1 = 0 then
  some (0, r4.2)
  else ((fn_X4_takeLetters b r4.2 x1 5 8 17).bind fun r5 =>
  (if r5.1 = 0 then
  some (0, r5.2)
  else ((fn_X4_expectNumber b r5.2 4500 20 4 (-3)).bind fun r6 =>
  (if r6.1 = 0 then
  some (0, r6.2)
  else some (1, r6.2)))))))))))))
set_option maxHeartbeats 4000000 in
set_option maxRecDepth 100000 in
theorem w_X4_takeLeader_B0 {p : Program} {l : Launch} {e : Env} {s : State} {m : MethodId} {args : Array Value} {below : List Frame} {meth : Method} {c : Code} {Q : State → Prop} {D : va_G} {κ : Nat → ClassId} {b : Nat} {H0 : Heap} {rr : Int32 × Sg} (hZ : sg_Z p c s m args D κ cX4_takeLeader 2 RX4 wsX4_takeLeader) (hret : ∀ (v : Int32) (u : Sg) (H : Heap) (locs : List Loc) (pc : Nat) (ls : Array Slot), some (v, u) = some rr → narrow .boolean (.int v) = .int v → CW D κ b u H → va_S (sg_A b 892) H0 H locs → decode cX4_takeLeader pc = .ok (.ireturn, 1) → W p l e rm_X4_takeLeader s m args below meth c H locs 0 0 Q (F0 m pc ls [.int v])) : ∀ {σ : Sg} {x1 : Nat} {H : Heap} {locs : List Loc} {ls : Array Slot}, fn_X4_takeLeader b σ x1 = some rr → is_Card b x1 → lv_has ls 2 [(0, .ref (b + 1)), (1, .ref x1)] → CW D κ b σ H → va_S (sg_A b 892) H0 H locs → W p l e rm_X4_takeLeader s m args below meth c H locs 0 0 Q (F0 m 0 ls []) := by
  obtain ⟨hx, hb, hml, hown, hts, hK⟩ := hZ
  intro σ x1 H locs ls h hx1 hl hC hS
  unfold fn_X4_takeLeader at h
  refine lv_aload_n hx hb dX4_takeLeader_0 rfl (lv_at hl 0 rfl) ?_
  refine lv_aload_n hx hb dX4_takeLeader_1 rfl (lv_at hl 0 rfl) ?_
  refine va_get (D := D) (ci := 4) (v := .ref (b + 2)) (C := RX4) (T := TX4) (N := 8) hx hb hts (wqs inW_X4) hown hK.1 hC.1 ((b + 1) - b) sg_gReader rfl 0 (by decide) (hts _ (wq wt_47)) (fun _ h9 => h9) rfl dX4_takeLeader_2 ?_
  refine va_getN (D := D) (ci := 6) (v := .int (σ.1 (b + 2) 1)) (C := RX6) (T := TX6) (N := 2) hx hb hts (wqs inW_X6) hown hK.1 hC.1 ((b + 2) - b) sg_gText rfl 1 (by decide) (nf_2 hK) (fun _ h9 => h9) rfl dX4_takeLeader_5 ?_
  refine lv_iconst (v := 0) hx hb dX4_takeLeader_8 (by decide) ?_
  refine lv_iconst (v := 5) hx hb dX4_takeLeader_9 (by decide) ?_
  refine lv_bipush (v := (-3)) hx hb dX4_takeLeader_10 (by decide) ?_
  obtain ⟨r1, er1, h⟩ := Option.bind_eq_some_iff.mp h
  refine va_calli (va_runV (As := [.int (σ.1 (b + 2) 1), .int 0, .int 5, .int (-3)]) (rest := []) ⟨hx, hb, hml, hown, hts⟩ (c_X4_expectNumber l D κ b σ (σ.1 (b + 2) 1) 0 5 (-3) _ er1) (cwV 4 hts (gwV wt_308 wt_310 wp_1 wt_2 wt_311) rfl rfl rfl (by decide +kernel) ⟨Nat.le_of_ble_eq_true rfl, Nat.le_of_ble_eq_true rfl⟩) (CW_preV hK hC sg_gReader rfl) rfl rfl hl.1 rfl (lv_room (Nat.le_of_ble_eq_true rfl)) dX4_takeLeader_12 ⟨Nat.zero_le _, Nat.zero_le _⟩) hS (fun _ _ h => h) (fun _ h => h) (fun r u t H locs ht _ hp hB _ _ hS => ?_)
  refine sg_topi hp.1 ?_
  have hC : CW D κ b r1.2 H := CW_b hB ht hp.2
  refine lv_if_eq (tgt := 82) hx hb dX4_takeLeader_15 (by decide) (fun hc => ?_) (fun hc => ?_)
  · replace h := (if_pos hc).symm.trans h
    refine lv_iconst (v := 0) hx hb dX4_takeLeader_82 (by decide) ?_
    exact hret _ _ _ _ _ _ h (by decide) hC hS dX4_takeLeader_83
  · replace h := (if_neg hc).symm.trans h
    refine lv_aload_n hx hb dX4_takeLeader_18 rfl (lv_at hl 0 rfl) ?_
    refine lv_aload_n hx hb dX4_takeLeader_19 rfl (lv_at hl 1 rfl) ?_
    refine lv_iconst (v := 0) hx hb dX4_takeLeader_20 (by decide) ?_
    refine lv_iconst (v := 5) hx hb dX4_takeLeader_21 (by decide) ?_
    refine lv_iconst (v := 5) hx hb dX4_takeLeader_22 (by decide) ?_
    obtain ⟨r2, er2, h⟩ := Option.bind_eq_some_iff.mp h
    refine va_calli (va_runV (As := [.ref x1, .int 0, .int 5, .int 5]) (rest := []) ⟨hx, hb, hml, hown, hts⟩ (c_X4_takeLetters l D κ b r1.2 x1 0 5 5 _ hx1 er2) (cwV 4 hts (gwV wt_320 wt_322 wp_3 wt_2 wt_323) rfl rfl rfl (by decide +kernel) ⟨Nat.le_of_ble_eq_true rfl, Nat.le_of_ble_eq_true rfl⟩) (CW_preV hK hC sg_gReader rfl) rfl rfl hl.1 rfl (lv_room (Nat.le_of_ble_eq_true rfl)) dX4_takeLeader_23 ⟨Nat.zero_le _, Nat.zero_le _⟩) hS (fun _ _ h => h) (fun _ h => h) (fun r u t H locs ht _ hp hB _ _ hS => ?_)
    refine sg_topi hp.1 ?_
    have hC : CW D κ b r2.2 H := CW_b hB ht hp.2
    refine lv_if_eq (tgt := 82) hx hb dX4_takeLeader_26 (by decide) (fun hc => ?_) (fun hc => ?_)
    · replace h := (if_pos hc).symm.trans h
      refine lv_iconst (v := 0) hx hb dX4_takeLeader_82 (by decide) ?_
      exact hret _ _ _ _ _ _ h (by decide) hC hS dX4_takeLeader_83
    · replace h := (if_neg hc).symm.trans h
      refine lv_aload_n hx hb dX4_takeLeader_29 rfl (lv_at hl 0 rfl) ?_
      refine lv_bipush (v := 22) hx hb dX4_takeLeader_30 (by decide) ?_
      refine lv_bipush (v := 10) hx hb dX4_takeLeader_32 (by decide) ?_
      refine lv_iconst (v := 2) hx hb dX4_takeLeader_34 (by decide) ?_
      refine lv_bipush (v := (-3)) hx hb dX4_takeLeader_35 (by decide) ?_
      obtain ⟨r3, er3, h⟩ := Option.bind_eq_some_iff.mp h
      refine va_calli (va_runV (As := [.int 22, .int 10, .int 2, .int (-3)]) (rest := []) ⟨hx, hb, hml, hown, hts⟩ (c_X4_expectNumber l D κ b r2.2 22 10 2 (-3) _ er3) (cwV 4 hts (gwV wt_308 wt_310 wp_1 wt_2 wt_311) rfl rfl rfl (by decide +kernel) ⟨Nat.le_of_ble_eq_true rfl, Nat.le_of_ble_eq_true rfl⟩) (CW_preV hK hC sg_gReader rfl) rfl rfl hl.1 rfl (lv_room (Nat.le_of_ble_eq_true rfl)) dX4_takeLeader_37 ⟨Nat.zero_le _, Nat.zero_le _⟩) hS (fun _ _ h => h) (fun _ h => h) (fun r u t H locs ht _ hp hB _ _ hS => ?_)
      refine sg_topi hp.1 ?_
      have hC : CW D κ b r3.2 H := CW_b hB ht hp.2
      refine lv_if_eq (tgt := 82) hx hb dX4_takeLeader_40 (by decide) (fun hc => ?_) (fun hc => ?_)
      · replace h := (if_pos hc).symm.trans h
        refine lv_iconst (v := 0) hx hb dX4_takeLeader_82 (by decide) ?_
        exact hret _ _ _ _ _ _ h (by decide) hC hS dX4_takeLeader_83
      · replace h := (if_neg hc).symm.trans h
        refine lv_aload_n hx hb dX4_takeLeader_43 rfl (lv_at hl 0 rfl) ?_
        obtain ⟨r4, er4, h⟩ := Option.bind_eq_some_iff.mp h
        refine va_calli (va_runV (As := []) (rest := []) ⟨hx, hb, hml, hown, hts⟩ (c_X4_takeBase l D κ b r3.2 _ er4) (cwV 0 hts (gwV wt_327 wt_329 wp_4 wt_2 wt_330) rfl rfl rfl (by decide +kernel) ⟨Nat.le_of_ble_eq_true rfl, Nat.le_of_ble_eq_true rfl⟩) (CW_preV hK hC sg_gReader rfl) rfl rfl hl.1 rfl (lv_room (Nat.le_of_ble_eq_true rfl)) dX4_takeLeader_44 ⟨Nat.zero_le _, Nat.zero_le _⟩) hS (fun _ _ h => h) (fun _ h => h) (fun r u t H locs ht _ hp hB _ _ hS => ?_)
        refine sg_topi hp.1 ?_
        have hC : CW D κ b r4.2 H := CW_b hB ht hp.2
        refine lv_if_eq (tgt := 82) hx hb dX4_takeLeader_47 (by decide) (fun hc => ?_) (fun hc => ?_)
        · replace h := (if_pos hc).symm.trans h
          refine lv_iconst (v := 0) hx hb dX4_takeLeader_82 (by decide) ?_
          exact hret _ _ _ _ _ _ h (by decide) hC hS dX4_takeLeader_83
        · replace h := (if_neg hc).symm.trans h
          refine lv_aload_n hx hb dX4_takeLeader_50 rfl (lv_at hl 0 rfl) ?_
          refine lv_aload_n hx hb dX4_takeLeader_51 rfl (lv_at hl 1 rfl) ?_
          refine lv_iconst (v := 5) hx hb dX4_takeLeader_52 (by decide) ?_
          refine lv_bipush (v := 8) hx hb dX4_takeLeader_53 (by decide) ?_
          refine lv_bipush (v := 17) hx hb dX4_takeLeader_55 (by decide) ?_
          obtain ⟨r5, er5, h⟩ := Option.bind_eq_some_iff.mp h
          refine va_calli (va_runV (As := [.ref x1, .int 5, .int 8, .int 17]) (rest := []) ⟨hx, hb, hml, hown, hts⟩ (c_X4_takeLetters l D κ b r4.2 x1 5 8 17 _ hx1 er5) (cwV 4 hts (gwV wt_320 wt_322 wp_3 wt_2 wt_323) rfl rfl rfl (by decide +kernel) ⟨Nat.le_of_ble_eq_true rfl, Nat.le_of_ble_eq_true rfl⟩) (CW_preV hK hC sg_gReader rfl) rfl rfl hl.1 rfl (lv_room (Nat.le_of_ble_eq_true rfl)) dX4_takeLeader_57 ⟨Nat.zero_le _, Nat.zero_le _⟩) hS (fun _ _ h => h) (fun _ h => h) (fun r u t H locs ht _ hp hB _ _ hS => ?_)
          refine sg_topi hp.1 ?_
          have hC : CW D κ b r5.2 H := CW_b hB ht hp.2
          refine lv_if_eq (tgt := 82) hx hb dX4_takeLeader_60 (by decide) (fun hc => ?_) (fun hc => ?_)
          · replace h := (if_pos hc).symm.trans h
            refine lv_iconst (v := 0) hx hb dX4_takeLeader_82 (by decide) ?_
            exact hret _ _ _ _ _ _ h (by decide) hC hS dX4_takeLeader_83
          · replace h := (if_neg hc).symm.trans h
            refine lv_aload_n hx hb dX4_takeLeader_63 rfl (lv_at hl 0 rfl) ?_
            refine lv_sipush (v := 4500) hx hb dX4_takeLeader_64 (by decide) ?_
            refine lv_bipush (v := 20) hx hb dX4_takeLeader_67 (by decide) ?_
            refine lv_iconst (v := 4) hx hb dX4_takeLeader_69 (by decide) ?_
            refine lv_bipush (v := (-3)) hx hb dX4_takeLeader_70 (by decide) ?_
            obtain ⟨r6, er6, h⟩ := Option.bind_eq_some_iff.mp h
            refine va_calli (va_runV (As := [.int 4500, .int 20, .int 4, .int (-3)]) (rest := []) ⟨hx, hb, hml, hown, hts⟩ (c_X4_expectNumber l D κ b r5.2 4500 20 4 (-3) _ er6) (cwV 4 hts (gwV wt_308 wt_310 wp_1 wt_2 wt_311) rfl rfl rfl (by decide +kernel) ⟨Nat.le_of_ble_eq_true rfl, Nat.le_of_ble_eq_true rfl⟩) (CW_preV hK hC sg_gReader rfl) rfl rfl hl.1 rfl (lv_room (Nat.le_of_ble_eq_true rfl)) dX4_takeLeader_72 ⟨Nat.zero_le _, Nat.zero_le _⟩) hS (fun _ _ h => h) (fun _ h => h) (fun r u t H locs ht _ hp hB _ _ hS => ?_)
            refine sg_topi hp.1 ?_
            have hC : CW D κ b r6.2 H := CW_b hB ht hp.2
            refine lv_if_eq (tgt := 82) hx hb dX4_takeLeader_75 (by decide) (fun hc => ?_) (fun hc => ?_)
            · replace h := (if_pos hc).symm.trans h
              refine lv_iconst (v := 0) hx hb dX4_takeLeader_82 (by decide) ?_
              exact hret _ _ _ _ _ _ h (by decide) hC hS dX4_takeLeader_83
            · replace h := (if_neg hc).symm.trans h
              refine lv_iconst (v := 1) hx hb dX4_takeLeader_78 (by decide) ?_
              refine lv_goto (tgt := 83) hx hb dX4_takeLeader_79 (by decide) ?_
              exact hret _ _ _ _ _ _ h (by decide) hC hS dX4_takeLeader_83
set_option maxHeartbeats 4000000 in
set_option maxRecDepth 100000 in
theorem c_X4_takeLeader (l : Launch) (D : va_G) (κ : Nat → ClassId) (b : Nat) (σ : Sg) (x1 : Nat) (rr : Int32 × Sg) (hx1 : is_Card b x1) (h : fn_X4_takeLeader b σ x1 = some rr) : Met l yX4_takeLeader wsX4_takeLeader rm_X4_takeLeader (va_Pc [.ref (b + 1), .ref x1] (fun U => KK D κ U ∧ CW D κ b σ U.heap)) (va_Qi (fun (r : Int32) (u : Sg) => r = rr.1 ∧ u = rr.2) (fun u t => CW D κ b u t.heap) (sg_A b 892)) 0 0 (sg_A b 892) := by
  refine Met.ofW (cc := cX4_takeLeader) (maxL := 2) (ret := (some .boolean)) (by decide) rfl ?_
  intro p e s m args below meth c s₁ B hml hv
  obtain ⟨rfl, hK, hC⟩ := hv
  have hr := B.returns
  have hlocks := B.notSynchronized
  have hl := lv_entry ([.ref (b + 1), .ref x1]) (n := 2) (Nat.le_of_ble_eq_true rfl)
  rw [lg_entry_eq]
  generalize (lg_sl ([.ref (b + 1), .ref x1]) ++ List.replicate (2 - (lg_sl ([.ref (b + 1), .ref x1])).length) Slot.unset).toArray = ls at hl ⊢
  have hl : lv_has ls 2 [(0, .ref (b + 1)), (1, .ref x1)] := hl
  exact w_X4_takeLeader_B0 ⟨B.exec, B.bytes, hml, findClass_of_methodNamed B.named, atoms_spec (ws := wsX4_takeLeader) B.pre, hK⟩ (fun v u H locs pc ls hq hbo hC hS hd => W.zret B.exec B.bytes hr hbo (fun t ht hW => ⟨⟨v, _, rfl, ⟨congrArg Prod.fst (Option.some.inj hq), congrArg Prod.snd (Option.some.inj hq)⟩, CW_e ht hC⟩, hS.F ht⟩) hS.2.2 hd) h hx1 hl hC va_S.rf

-- RecordShelf$Reader.takeEntry(LRecordShelf$Card;I)Z
theorem dX4_takeEntry_0 : decode cX4_takeEntry 0 = .ok (.bipush 24, 2) := by decide +kernel
theorem dX4_takeEntry_2 : decode cX4_takeEntry 2 = .ok (.bipush 12, 2) := by decide +kernel
theorem dX4_takeEntry_4 : decode cX4_takeEntry 4 = .ok (.iload_n 2, 1) := by decide +kernel
theorem dX4_takeEntry_5 : decode cX4_takeEntry 5 = .ok (.imul, 1) := by decide +kernel
theorem dX4_takeEntry_6 : decode cX4_takeEntry 6 = .ok (.iadd, 1) := by decide +kernel
theorem dX4_takeEntry_7 : decode cX4_takeEntry 7 = .ok (.istore_n 3, 1) := by decide +kernel
theorem dX4_takeEntry_8 : decode cX4_takeEntry 8 = .ok (.aload_n 0, 1) := by decide +kernel
theorem dX4_takeEntry_9 : decode cX4_takeEntry 9 = .ok (.iload_n 3, 1) := by decide +kernel
theorem dX4_takeEntry_10 : decode cX4_takeEntry 10 = .ok (.iconst 3, 1) := by decide +kernel
theorem dX4_takeEntry_11 : decode cX4_takeEntry 11 = .ok (.bipush (-4), 2) := by decide +kernel
theorem dX4_takeEntry_13 : decode cX4_takeEntry 13 = .ok (.invokevirtual 91, 3) := by decide +kernel
theorem dX4_takeEntry_16 : decode cX4_takeEntry 16 = .ok (.ifCond .ne 5, 3) := by decide +kernel
theorem dX4_takeEntry_19 : decode cX4_takeEntry 19 = .ok (.iconst 0, 1) := by decide +kernel
theorem dX4_takeEntry_20 : decode cX4_takeEntry 20 = .ok (.ireturn, 1) := by decide +kernel
theorem dX4_takeEntry_21 : decode cX4_takeEntry 21 = .ok (.aload_n 0, 1) := by decide +kernel
theorem dX4_takeEntry_22 : decode cX4_takeEntry 22 = .ok (.getfield 77, 3) := by decide +kernel
theorem dX4_takeEntry_25 : decode cX4_takeEntry 25 = .ok (.ifCond .ne 13, 3) := by decide +kernel
theorem dX4_takeEntry_28 : decode cX4_takeEntry 28 = .ok (.aload_n 0, 1) := by decide +kernel
theorem dX4_takeEntry_29 : decode cX4_takeEntry 29 = .ok (.bipush (-4), 2) := by decide +kernel
theorem dX4_takeEntry_31 : decode cX4_takeEntry 31 = .ok (.iload_n 3, 1) := by decide +kernel
theorem dX4_takeEntry_32 : decode cX4_takeEntry 32 = .ok (.iconst 2, 1) := by decide +kernel
theorem dX4_takeEntry_33 : decode cX4_takeEntry 33 = .ok (.iadd, 1) := by decide +kernel
theorem dX4_takeEntry_34 : decode cX4_takeEntry 34 = .ok (.invokevirtual 73, 3) := by decide +kernel
theorem dX4_takeEntry_37 : decode cX4_takeEntry 37 = .ok (.ireturn, 1) := by decide +kernel
theorem dX4_takeEntry_38 : decode cX4_takeEntry 38 = .ok (.aload_n 1, 1) := by decide +kernel
theorem dX4_takeEntry_39 : decode cX4_takeEntry 39 = .ok (.aload_n 0, 1) := by decide +kernel
theorem dX4_takeEntry_40 : decode cX4_takeEntry 40 = .ok (.getfield 77, 3) := by decide +kernel
theorem dX4_takeEntry_43 : decode cX4_takeEntry 43 = .ok (.invokevirtual 108, 3) := by decide +kernel
theorem dX4_takeEntry_46 : decode cX4_takeEntry 46 = .ok (.astore 4, 2) := by decide +kernel
theorem dX4_takeEntry_48 : decode cX4_takeEntry 48 = .ok (.aload_n 0, 1) := by decide +kernel
theorem dX4_takeEntry_49 : decode cX4_takeEntry 49 = .ok (.iload_n 3, 1) := by decide +kernel
theorem dX4_takeEntry_50 : decode cX4_takeEntry 50 = .ok (.iconst 3, 1) := by decide +kernel
theorem dX4_takeEntry_51 : decode cX4_takeEntry 51 = .ok (.iadd, 1) := by decide +kernel
theorem dX4_takeEntry_52 : decode cX4_takeEntry 52 = .ok (.iconst 4, 1) := by decide +kernel
theorem dX4_takeEntry_53 : decode cX4_takeEntry 53 = .ok (.bipush (-4), 2) := by decide +kernel
theorem dX4_takeEntry_55 : decode cX4_takeEntry 55 = .ok (.invokevirtual 91, 3) := by decide +kernel
theorem dX4_takeEntry_58 : decode cX4_takeEntry 58 = .ok (.ifCond .ne 5, 3) := by decide +kernel
theorem dX4_takeEntry_61 : decode cX4_takeEntry 61 = .ok (.iconst 0, 1) := by decide +kernel
theorem dX4_takeEntry_62 : decode cX4_takeEntry 62 = .ok (.ireturn, 1) := by decide +kernel
theorem dX4_takeEntry_63 : decode cX4_takeEntry 63 = .ok (.aload_n 0, 1) := by decide +kernel
theorem dX4_takeEntry_64 : decode cX4_takeEntry 64 = .ok (.getfield 77, 3) := by decide +kernel
theorem dX4_takeEntry_67 : decode cX4_takeEntry 67 = .ok (.aload 4, 2) := by decide +kernel
theorem dX4_takeEntry_69 : decode cX4_takeEntry 69 = .ok (.invokevirtual 112, 3) := by decide +kernel
theorem dX4_takeEntry_72 : decode cX4_takeEntry 72 = .ok (.ifCond .eq 7, 3) := by decide +kernel
theorem dX4_takeEntry_75 : decode cX4_takeEntry 75 = .ok (.iconst 1, 1) := by decide +kernel
theorem dX4_takeEntry_76 : decode cX4_takeEntry 76 = .ok (.goto 4, 3) := by decide +kernel
theorem dX4_takeEntry_79 : decode cX4_takeEntry 79 = .ok (.iconst 2, 1) := by decide +kernel
theorem dX4_takeEntry_80 : decode cX4_takeEntry 80 = .ok (.if_icmp .ge 14, 3) := by decide +kernel
theorem dX4_takeEntry_83 : decode cX4_takeEntry 83 = .ok (.aload_n 0, 1) := by decide +kernel
theorem dX4_takeEntry_84 : decode cX4_takeEntry 84 = .ok (.bipush (-4), 2) := by decide +kernel
theorem dX4_takeEntry_86 : decode cX4_takeEntry 86 = .ok (.iload_n 3, 1) := by decide +kernel
theorem dX4_takeEntry_87 : decode cX4_takeEntry 87 = .ok (.bipush 6, 2) := by decide +kernel
theorem dX4_takeEntry_89 : decode cX4_takeEntry 89 = .ok (.iadd, 1) := by decide +kernel
theorem dX4_takeEntry_90 : decode cX4_takeEntry 90 = .ok (.invokevirtual 73, 3) := by decide +kernel
theorem dX4_takeEntry_93 : decode cX4_takeEntry 93 = .ok (.ireturn, 1) := by decide +kernel
theorem dX4_takeEntry_94 : decode cX4_takeEntry 94 = .ok (.aload_n 0, 1) := by decide +kernel
theorem dX4_takeEntry_95 : decode cX4_takeEntry 95 = .ok (.getfield 18, 3) := by decide +kernel
theorem dX4_takeEntry_98 : decode cX4_takeEntry 98 = .ok (.iload_n 2, 1) := by decide +kernel
theorem dX4_takeEntry_99 : decode cX4_takeEntry 99 = .ok (.aload_n 0, 1) := by decide +kernel
theorem dX4_takeEntry_100 : decode cX4_takeEntry 100 = .ok (.getfield 77, 3) := by decide +kernel
theorem dX4_takeEntry_103 : decode cX4_takeEntry 103 = .ok (.iastore, 1) := by decide +kernel
theorem dX4_takeEntry_104 : decode cX4_takeEntry 104 = .ok (.aload_n 0, 1) := by decide +kernel
theorem dX4_takeEntry_105 : decode cX4_takeEntry 105 = .ok (.getfield 101, 3) := by decide +kernel
theorem dX4_takeEntry_108 : decode cX4_takeEntry 108 = .ok (.istore 5, 2) := by decide +kernel
theorem dX4_takeEntry_110 : decode cX4_takeEntry 110 = .ok (.aload_n 0, 1) := by decide +kernel
theorem dX4_takeEntry_111 : decode cX4_takeEntry 111 = .ok (.dup, 1) := by decide +kernel
theorem dX4_takeEntry_112 : decode cX4_takeEntry 112 = .ok (.getfield 101, 3) := by decide +kernel
theorem dX4_takeEntry_115 : decode cX4_takeEntry 115 = .ok (.aload_n 0, 1) := by decide +kernel
theorem dX4_takeEntry_116 : decode cX4_takeEntry 116 = .ok (.getfield 77, 3) := by decide +kernel
theorem dX4_takeEntry_119 : decode cX4_takeEntry 119 = .ok (.iadd, 1) := by decide +kernel
theorem dX4_takeEntry_120 : decode cX4_takeEntry 120 = .ok (.putfield 101, 3) := by decide +kernel
theorem dX4_takeEntry_123 : decode cX4_takeEntry 123 = .ok (.aload_n 0, 1) := by decide +kernel
theorem dX4_takeEntry_124 : decode cX4_takeEntry 124 = .ok (.iload 5, 2) := by decide +kernel
theorem dX4_takeEntry_126 : decode cX4_takeEntry 126 = .ok (.iload_n 3, 1) := by decide +kernel
theorem dX4_takeEntry_127 : decode cX4_takeEntry 127 = .ok (.bipush 7, 2) := by decide +kernel
theorem dX4_takeEntry_129 : decode cX4_takeEntry 129 = .ok (.iadd, 1) := by decide +kernel
theorem dX4_takeEntry_130 : decode cX4_takeEntry 130 = .ok (.iconst 5, 1) := by decide +kernel
theorem dX4_takeEntry_131 : decode cX4_takeEntry 131 = .ok (.bipush (-4), 2) := by decide +kernel
theorem dX4_takeEntry_133 : decode cX4_takeEntry 133 = .ok (.invokevirtual 54, 3) := by decide +kernel
theorem dX4_takeEntry_136 : decode cX4_takeEntry 136 = .ok (.ireturn, 1) := by decide +kernel
def rm_X4_takeEntry : Room := { frames := 2, cells := 0, slots := 0, locals := 48 }
def fn_X4_takeEntry_B80 (b : Nat) (σ : Sg) (x2 : Int32) (x3 : Int32) (y0 : Int32) (y1 : Int32) : Option (Int32 × Sg) :=
  (if (y0 : Int32) ≤ y1 then
  (if sg_ib x2 8 then
  (sg_lt (sg_w σ (b + 4) (sg_x x2) (σ.1 (b + 1) 5)) fun σ1 =>
  (sg_lt ((σ1.1 (b + 1) 4) : Int32) fun v2 =>
  (sg_lt (sg_w σ1 (b + 1) 4 ((σ1.1 (b + 1) 4) + (σ1.1 (b + 1) 5))) fun σ3 =>
  ((fn_X4_expectNumber b σ3 v2 (x3 + 7) 5 (-4)).bind fun r4 =>
  (if sg_bo r4.1 then some (r4.1, r4.2) else none)))))
  else none)
  else ((fn_X4_meet b σ (-4) (x3 + 6)).bind fun r5 =>
  (if sg_bo r5.1 then some (r5.1, r5.2) else none)))
set_option maxHeartbeats 4000000 in
set_option maxRecDepth 100000 in
theorem w_X4_takeEntry_B80 {p : Program} {l : Launch} {e : Env} {s : State} {m : MethodId} {args : Array Value} {below : List Frame} {meth : Method} {c : Code} {Q : State → Prop} {D : va_G} {κ : Nat → ClassId} {b : Nat} {H0 : Heap} {rr : Int32 × Sg} (hZ : sg_Z p c s m args D κ cX4_takeEntry 6 RX4 wsX4_takeEntry) (hret : ∀ (v : Int32) (u : Sg) (H : Heap) (locs : List Loc) (pc : Nat) (ls : Array Slot), some (v, u) = some rr → narrow .boolean (.int v) = .int v → CW D κ b u H → va_S (sg_A b 892) H0 H locs → decode cX4_takeEntry pc = .ok (.ireturn, 1) → W p l e rm_X4_takeEntry s m args below meth c H locs 0 0 Q (F0 m pc ls [.int v])) : ∀ {σ : Sg} {x2 : Int32} {x3 : Int32} {y0 : Int32} {y1 : Int32} {H : Heap} {locs : List Loc} {ls : Array Slot}, fn_X4_takeEntry_B80 b σ x2 x3 y0 y1 = some rr → lv_has ls 6 [(0, .ref (b + 1)), (2, .int x2), (3, .int x3)] → CW D κ b σ H → va_S (sg_A b 892) H0 H locs → W p l e rm_X4_takeEntry s m args below meth c H locs 0 0 Q (F0 m 80 ls [.int y0, .int y1]) := by
  obtain ⟨hx, hb, hml, hown, hts, hK⟩ := hZ
  intro σ x2 x3 y0 y1 H locs ls h hl hC hS
  unfold fn_X4_takeEntry_B80 at h
  refine lv_icmp_ge (tgt := 94) hx hb dX4_takeEntry_80 (by decide) (fun hc => ?_) (fun hc => ?_)
  · replace h := (if_pos hc).symm.trans h
    refine lv_aload_n hx hb dX4_takeEntry_94 rfl (lv_at hl 0 rfl) ?_
    refine va_get (D := D) (ci := 4) (v := .ref (b + 4)) (C := RX4) (T := TX4) (N := 8) hx hb hts (wqs inW_X4) hown hK.1 hC.1 ((b + 1) - b) sg_gReader rfl 1 (by decide) (hts _ (wq wt_49)) (fun _ h9 => h9) rfl dX4_takeEntry_95 ?_
    refine lv_iload_n hx hb dX4_takeEntry_98 rfl (lv_at hl 1 rfl) ?_
    refine lv_aload_n hx hb dX4_takeEntry_99 rfl (lv_at hl 0 rfl) ?_
    refine va_get (D := D) (ci := 4) (v := .int (σ.1 (b + 1) 5)) (C := RX4) (T := TX4) (N := 8) hx hb hts (wqs inW_X4) hown hK.1 hC.1 ((b + 1) - b) sg_gReader rfl 5 (by decide) (hts _ (wq wt_53)) (fun _ h9 => h9) rfl dX4_takeEntry_100 ?_
    obtain ⟨hg, h⟩ := sg_gd h
    refine va_iast hx hb hK.1 hC.1 sg_D hS ((b + 4) - b) 0 sg_gsizes rfl (sg_in hg) dX4_takeEntry_103 (fun H locs hP _ hS => ?_)
    obtain ⟨σ1, eσ1, h⟩ := sg_lte h
    have hC : CW D κ b σ1 H := eσ1 ▸ CW_put (k := sg_x x2) (v := (σ.1 (b + 1) 5)) hC sg_asizes (sg_ysizes _ _) hP
    refine lv_aload_n hx hb dX4_takeEntry_104 rfl (lv_at hl 0 rfl) ?_
    refine va_get (D := D) (ci := 4) (v := .int (σ1.1 (b + 1) 4)) (C := RX4) (T := TX4) (N := 8) hx hb hts (wqs inW_X4) hown hK.1 hC.1 ((b + 1) - b) sg_gReader rfl 4 (by decide) (hts _ (wq wt_52)) (fun _ h9 => h9) rfl dX4_takeEntry_105 ?_
    obtain ⟨v2, ev2, h⟩ := sg_lte h
    refine sg_topi ev2 ?_
    refine lv_istore (lv' := [(5, .int v2), (0, .ref (b + 1)), (2, .int x2), (3, .int x3)]) hx hb dX4_takeEntry_108 hl (by decide) rfl (fun ls hl => ?_)
    refine lv_aload_n hx hb dX4_takeEntry_110 rfl (lv_at hl 1 rfl) ?_
    refine lv_dup hx hb dX4_takeEntry_111 rfl ?_
    refine va_get (D := D) (ci := 4) (v := .int (σ1.1 (b + 1) 4)) (C := RX4) (T := TX4) (N := 8) hx hb hts (wqs inW_X4) hown hK.1 hC.1 ((b + 1) - b) sg_gReader rfl 4 (by decide) (hts _ (wq wt_52)) (fun _ h9 => h9) rfl dX4_takeEntry_112 ?_
    refine lv_aload_n hx hb dX4_takeEntry_115 rfl (lv_at hl 1 rfl) ?_
    refine va_get (D := D) (ci := 4) (v := .int (σ1.1 (b + 1) 5)) (C := RX4) (T := TX4) (N := 8) hx hb hts (wqs inW_X4) hown hK.1 hC.1 ((b + 1) - b) sg_gReader rfl 5 (by decide) (hts _ (wq wt_53)) (fun _ h9 => h9) rfl dX4_takeEntry_116 ?_
    refine lv_iadd hx hb dX4_takeEntry_119 ?_
    refine va_put (D := D) (ci := 4) (v := .int ((σ1.1 (b + 1) 4) + (σ1.1 (b + 1) 5))) (ty := .int) (C := RX4) (T := TX4) (N := 8) hx hb hts (wqs inW_X4) tyX4 tyX4_ok nmX4 hown hK.1 hC.1 sg_D hS ((b + 1) - b) sg_gReader rfl 4 (by decide) (hts _ (wq wt_52)) (fun _ h9 => h9) rfl (by decide +kernel) rfl rfl (Nat.le_of_ble_eq_true rfl) dX4_takeEntry_120 (fun H locs hP _ hS => ?_)
    obtain ⟨σ3, eσ3, h⟩ := sg_lte h
    have hC : CW D κ b σ3 H := eσ3 ▸ CW_put (k := 4) (v := ((σ1.1 (b + 1) 4) + (σ1.1 (b + 1) 5))) hC sg_aReader (sg_yReader _ _) hP
    refine lv_aload_n hx hb dX4_takeEntry_123 rfl (lv_at hl 1 rfl) ?_
    refine lv_iload hx hb dX4_takeEntry_124 (lv_at hl 0 rfl) ?_
    refine lv_iload_n hx hb dX4_takeEntry_126 rfl (lv_at hl 3 rfl) ?_
    refine lv_bipush (v := 7) hx hb dX4_takeEntry_127 (by decide) ?_
    refine lv_iadd hx hb dX4_takeEntry_129 ?_
    refine lv_iconst (v := 5) hx hb dX4_takeEntry_130 (by decide) ?_
    refine lv_bipush (v := (-4)) hx hb dX4_takeEntry_131 (by decide) ?_
    obtain ⟨r4, er4, h⟩ := Option.bind_eq_some_iff.mp h
    refine va_calli (va_runV (As := [.int v2, .int (x3 + 7), .int 5, .int (-4)]) (rest := []) ⟨hx, hb, hml, hown, hts⟩ (c_X4_expectNumber l D κ b σ3 v2 (x3 + 7) 5 (-4) _ er4) (cwV 4 hts (gwV wt_308 wt_310 wp_1 wt_2 wt_311) rfl rfl rfl (by decide +kernel) ⟨Nat.le_of_ble_eq_true rfl, Nat.le_of_ble_eq_true rfl⟩) (CW_preV hK hC sg_gReader rfl) rfl rfl hl.1 rfl (lv_room (Nat.le_of_ble_eq_true rfl)) dX4_takeEntry_133 ⟨Nat.zero_le _, Nat.zero_le _⟩) hS (fun _ _ h => h) (fun _ h => h) (fun r u t H locs ht _ hp hB _ _ hS => ?_)
    refine sg_topi hp.1 ?_
    have hC : CW D κ b r4.2 H := CW_b hB ht hp.2
    obtain ⟨hg, h⟩ := sg_gd h
    exact hret _ _ _ _ _ _ h (sg_bn hg) hC hS dX4_takeEntry_136
  · replace h := (if_neg hc).symm.trans h
    refine lv_aload_n hx hb dX4_takeEntry_83 rfl (lv_at hl 0 rfl) ?_
    refine lv_bipush (v := (-4)) hx hb dX4_takeEntry_84 (by decide) ?_
    refine lv_iload_n hx hb dX4_takeEntry_86 rfl (lv_at hl 2 rfl) ?_
    refine lv_bipush (v := 6) hx hb dX4_takeEntry_87 (by decide) ?_
    refine lv_iadd hx hb dX4_takeEntry_89 ?_
    obtain ⟨r5, er5, h⟩ := Option.bind_eq_some_iff.mp h
    refine va_calli (va_runV (As := [.int (-4), .int (x3 + 6)]) (rest := []) ⟨hx, hb, hml, hown, hts⟩ (c_X4_meet l D κ b σ (-4) (x3 + 6) _ er5) (cwV 2 hts (gwV wt_316 wt_318 wp_2 wt_2 wt_319) rfl rfl rfl (by decide +kernel) ⟨Nat.le_of_ble_eq_true rfl, Nat.le_of_ble_eq_true rfl⟩) (CW_preV hK hC sg_gReader rfl) rfl rfl hl.1 rfl (lv_room (Nat.le_of_ble_eq_true rfl)) dX4_takeEntry_90 ⟨Nat.zero_le _, Nat.zero_le _⟩) hS (fun _ _ h => h) (fun _ h => h) (fun r u t H locs ht _ hp hB _ _ hS => ?_)
    refine sg_topi hp.1 ?_
    have hC : CW D κ b r5.2 H := CW_b hB ht hp.2
    obtain ⟨hg, h⟩ := sg_gd h
    exact hret _ _ _ _ _ _ h (sg_bn hg) hC hS dX4_takeEntry_93
def fn_X4_takeEntry (b : Nat) (σ : Sg) (x1 : Nat) (x2 : Int32) : Option (Int32 × Sg) :=
  (sg_lt ((24 + (12 * x2)) : Int32) fun v1 =>
  ((fn_X4_takeNumber b σ v1 3 (-4)).bind fun r2 =>
  (if r2.1 = 0 then
  some (0, r2.2)
  else (if (r2.2.1 (b + 1) 5) = 0 then
  ((fn_X4_meet b r2.2 (-4) (v1 + 2)).bind fun r7 =>
  (if sg_bo r7.1 then some (r7.1, r7.2) else none))
  else ((fn_X0_addField b r2.2 x1 (r2.2.1 (b + 1) 5)).bind fun r3 =>
  ((fn_X4_takeNumber b r3.2 (v1 + 3) 4 (-4)).bind fun r5 =>
  (if r5.1 = 0 then
  some (0, r5.2)
  else ((fn_X1_isSimple b r5.2 r3.1).bind fun r6 =>
  (if r6 = 0 then
  fn_X4_takeEntry_B80 b r5.2 x2 v1 2 (r5.2.1 (b + 1) 5)
  else fn_X4_takeEntry_B80 b r5.2 x2 v1 1 (r5.2.1 (b + 1) 5))))))))))
set_option maxHeartbeats 4000000 in
set_option maxRecDepth 100000 in
theorem w_X4_takeEntry_B0 {p : Program} {l : Launch} {e : Env} {s : State} {m : MethodId} {args : Array Value} {below : List Frame} {meth : Method} {c : Code} {Q : State → Prop} {D : va_G} {κ : Nat → ClassId} {b : Nat} {H0 : Heap} {rr : Int32 × Sg} (hZ : sg_Z p c s m args D κ cX4_takeEntry 6 RX4 wsX4_takeEntry) (hret : ∀ (v : Int32) (u : Sg) (H : Heap) (locs : List Loc) (pc : Nat) (ls : Array Slot), some (v, u) = some rr → narrow .boolean (.int v) = .int v → CW D κ b u H → va_S (sg_A b 892) H0 H locs → decode cX4_takeEntry pc = .ok (.ireturn, 1) → W p l e rm_X4_takeEntry s m args below meth c H locs 0 0 Q (F0 m pc ls [.int v])) : ∀ {σ : Sg} {x1 : Nat} {x2 : Int32} {H : Heap} {locs : List Loc} {ls : Array Slot}, fn_X4_takeEntry b σ x1 x2 = some rr → is_Card b x1 → lv_has ls 6 [(0, .ref (b + 1)), (1, .ref x1), (2, .int x2)] → CW D κ b σ H → va_S (sg_A b 892) H0 H locs → W p l e rm_X4_takeEntry s m args below meth c H locs 0 0 Q (F0 m 0 ls []) := by
  obtain ⟨hx, hb, hml, hown, hts, hK⟩ := hZ
  intro σ x1 x2 H locs ls h hx1 hl hC hS
  unfold fn_X4_takeEntry at h
  refine lv_bipush (v := 24) hx hb dX4_takeEntry_0 (by decide) ?_
  refine lv_bipush (v := 12) hx hb dX4_takeEntry_2 (by decide) ?_
  refine lv_iload_n hx hb dX4_takeEntry_4 rfl (lv_at hl 2 rfl) ?_
  refine lv_imul hx hb dX4_takeEntry_5 ?_
  refine lv_iadd hx hb dX4_takeEntry_6 ?_
  obtain ⟨v1, ev1, h⟩ := sg_lte h
  refine sg_topi ev1 ?_
  refine lv_istore_n (lv' := [(3, .int v1), (0, .ref (b + 1)), (1, .ref x1), (2, .int x2)]) hx hb dX4_takeEntry_7 rfl hl (by decide) rfl (fun ls hl => ?_)
  refine lv_aload_n hx hb dX4_takeEntry_8 rfl (lv_at hl 1 rfl) ?_
  refine lv_iload_n hx hb dX4_takeEntry_9 rfl (lv_at hl 0 rfl) ?_
  refine lv_iconst (v := 3) hx hb dX4_takeEntry_10 (by decide) ?_
  refine lv_bipush (v := (-4)) hx hb dX4_takeEntry_11 (by decide) ?_
  obtain ⟨r2, er2, h⟩ := Option.bind_eq_some_iff.mp h
  refine va_calli (va_runV (As := [.int v1, .int 3, .int (-4)]) (rest := []) ⟨hx, hb, hml, hown, hts⟩ (c_X4_takeNumber l D κ b σ v1 3 (-4) _ er2) (cwV 3 hts (gwV wt_331 wt_333 wp_5 wt_2 wt_334) rfl rfl rfl (by decide +kernel) ⟨Nat.le_of_ble_eq_true rfl, Nat.le_of_ble_eq_true rfl⟩) (CW_preV hK hC sg_gReader rfl) rfl rfl hl.1 rfl (lv_room (Nat.le_of_ble_eq_true rfl)) dX4_takeEntry_13 ⟨Nat.zero_le _, Nat.zero_le _⟩) hS (fun _ _ h => h) (fun _ h => h) (fun r u t H locs ht _ hp hB _ _ hS => ?_)
  refine sg_topi hp.1 ?_
  have hC : CW D κ b r2.2 H := CW_b hB ht hp.2
  refine lv_if_ne (tgt := 21) hx hb dX4_takeEntry_16 (by decide) (fun hc => ?_) (fun hc => ?_)
  · replace h := (if_neg hc).symm.trans h
    refine lv_aload_n hx hb dX4_takeEntry_21 rfl (lv_at hl 1 rfl) ?_
    refine va_get (D := D) (ci := 4) (v := .int (r2.2.1 (b + 1) 5)) (C := RX4) (T := TX4) (N := 8) hx hb hts (wqs inW_X4) hown hK.1 hC.1 ((b + 1) - b) sg_gReader rfl 5 (by decide) (hts _ (wq wt_53)) (fun _ h9 => h9) rfl dX4_takeEntry_22 ?_
    refine lv_if_ne (tgt := 38) hx hb dX4_takeEntry_25 (by decide) (fun hc => ?_) (fun hc => ?_)
    · replace h := (if_neg hc).symm.trans h
      refine lv_aload_n hx hb dX4_takeEntry_38 rfl (lv_at hl 2 rfl) ?_
      refine lv_aload_n hx hb dX4_takeEntry_39 rfl (lv_at hl 1 rfl) ?_
      refine va_get (D := D) (ci := 4) (v := .int (r2.2.1 (b + 1) 5)) (C := RX4) (T := TX4) (N := 8) hx hb hts (wqs inW_X4) hown hK.1 hC.1 ((b + 1) - b) sg_gReader rfl 5 (by decide) (hts _ (wq wt_53)) (fun _ h9 => h9) rfl dX4_takeEntry_40 ?_
      obtain ⟨r3, er3, h⟩ := Option.bind_eq_some_iff.mp h
      refine va_callr (va_runV (As := [.int (r2.2.1 (b + 1) 5)]) (rest := []) ⟨hx, hb, hml, hown, hts⟩ (c_X0_addField l D κ b r2.2 x1 (r2.2.1 (b + 1) 5) _ hx1 er3) (cwV 1 hts (gwV wt_346 wt_347 wt_348 wt_6 wt_349) rfl rfl rfl (by decide +kernel) ⟨Nat.le_of_ble_eq_true rfl, Nat.le_of_ble_eq_true rfl⟩) (CW_preV hK hC (sg_gCard hx1) rfl) rfl rfl hl.1 rfl (lv_room (Nat.le_of_ble_eq_true rfl)) dX4_takeEntry_43 ⟨Nat.zero_le _, Nat.zero_le _⟩) hS (fun _ _ h => h) (fun _ h => h) (fun u ra t H locs ht _ _ hB _ _ hS => ?_)
      obtain ⟨hp1, hp2, hv4, hB⟩ := hB
      refine sg_topr hp1 ?_
      have hC : CW D κ b r3.2 H := CW_b hB ht hp2
      refine lv_astore (lv' := [(4, .ref r3.1), (3, .int v1), (0, .ref (b + 1)), (1, .ref x1), (2, .int x2)]) hx hb dX4_takeEntry_46 hl (by decide) rfl (fun ls hl => ?_)
      refine lv_aload_n hx hb dX4_takeEntry_48 rfl (lv_at hl 2 rfl) ?_
      refine lv_iload_n hx hb dX4_takeEntry_49 rfl (lv_at hl 1 rfl) ?_
      refine lv_iconst (v := 3) hx hb dX4_takeEntry_50 (by decide) ?_
      refine lv_iadd hx hb dX4_takeEntry_51 ?_
      refine lv_iconst (v := 4) hx hb dX4_takeEntry_52 (by decide) ?_
      refine lv_bipush (v := (-4)) hx hb dX4_takeEntry_53 (by decide) ?_
      obtain ⟨r5, er5, h⟩ := Option.bind_eq_some_iff.mp h
      refine va_calli (va_runV (As := [.int (v1 + 3), .int 4, .int (-4)]) (rest := []) ⟨hx, hb, hml, hown, hts⟩ (c_X4_takeNumber l D κ b r3.2 (v1 + 3) 4 (-4) _ er5) (cwV 3 hts (gwV wt_331 wt_333 wp_5 wt_2 wt_334) rfl rfl rfl (by decide +kernel) ⟨Nat.le_of_ble_eq_true rfl, Nat.le_of_ble_eq_true rfl⟩) (CW_preV hK hC sg_gReader rfl) rfl rfl hl.1 rfl (lv_room (Nat.le_of_ble_eq_true rfl)) dX4_takeEntry_55 ⟨Nat.zero_le _, Nat.zero_le _⟩) hS (fun _ _ h => h) (fun _ h => h) (fun r u t H locs ht _ hp hB _ _ hS => ?_)
      refine sg_topi hp.1 ?_
      have hC : CW D κ b r5.2 H := CW_b hB ht hp.2
      refine lv_if_ne (tgt := 63) hx hb dX4_takeEntry_58 (by decide) (fun hc => ?_) (fun hc => ?_)
      · replace h := (if_neg hc).symm.trans h
        refine lv_aload_n hx hb dX4_takeEntry_63 rfl (lv_at hl 2 rfl) ?_
        refine va_get (D := D) (ci := 4) (v := .int (r5.2.1 (b + 1) 5)) (C := RX4) (T := TX4) (N := 8) hx hb hts (wqs inW_X4) hown hK.1 hC.1 ((b + 1) - b) sg_gReader rfl 5 (by decide) (hts _ (wq wt_53)) (fun _ h9 => h9) rfl dX4_takeEntry_64 ?_
        refine lv_aload hx hb dX4_takeEntry_67 (lv_at hl 0 rfl) ?_
        obtain ⟨r6, er6, h⟩ := Option.bind_eq_some_iff.mp h
        refine va_calli (va_runV (As := []) (rest := [.int (r5.2.1 (b + 1) 5)]) ⟨hx, hb, hml, hown, hts⟩ (c_X1_isSimple l D κ b r5.2 r3.1 _ hv4 er6) (cwV 0 hts (gwV wt_354 wt_355 wt_356 wt_7 wt_357) rfl rfl rfl (by decide +kernel) ⟨Nat.le_of_ble_eq_true rfl, Nat.le_of_ble_eq_true rfl⟩) (CW_preV hK hC (sg_gField hv4) rfl) rfl rfl hl.1 rfl (lv_room (Nat.le_of_ble_eq_true rfl)) dX4_takeEntry_69 ⟨Nat.zero_le _, Nat.zero_le _⟩) hS (fun _ _ h => h) (fun _ h => h) (fun r u t H locs ht _ hp hB _ _ hS => ?_)
        refine sg_topi hp.1 ?_
        have hC : CW D κ b r5.2 H := CW_b hB ht hp.2
        refine lv_if_eq (tgt := 79) hx hb dX4_takeEntry_72 (by decide) (fun hc => ?_) (fun hc => ?_)
        · replace h := (if_pos hc).symm.trans h
          refine lv_iconst (v := 2) hx hb dX4_takeEntry_79 (by decide) ?_
          exact w_X4_takeEntry_B80 ⟨hx, hb, hml, hown, hts, hK⟩ hret  h (lv_sub hl [2, 4, 1] rfl) hC hS
        · replace h := (if_neg hc).symm.trans h
          refine lv_iconst (v := 1) hx hb dX4_takeEntry_75 (by decide) ?_
          refine lv_goto (tgt := 80) hx hb dX4_takeEntry_76 (by decide) ?_
          exact w_X4_takeEntry_B80 ⟨hx, hb, hml, hown, hts, hK⟩ hret  h (lv_sub hl [2, 4, 1] rfl) hC hS
      · replace h := (if_pos hc).symm.trans h
        refine lv_iconst (v := 0) hx hb dX4_takeEntry_61 (by decide) ?_
        exact hret _ _ _ _ _ _ h (by decide) hC hS dX4_takeEntry_62
    · replace h := (if_pos hc).symm.trans h
      refine lv_aload_n hx hb dX4_takeEntry_28 rfl (lv_at hl 1 rfl) ?_
      refine lv_bipush (v := (-4)) hx hb dX4_takeEntry_29 (by decide) ?_
      refine lv_iload_n hx hb dX4_takeEntry_31 rfl (lv_at hl 0 rfl) ?_
      refine lv_iconst (v := 2) hx hb dX4_takeEntry_32 (by decide) ?_
      refine lv_iadd hx hb dX4_takeEntry_33 ?_
      obtain ⟨r7, er7, h⟩ := Option.bind_eq_some_iff.mp h
      refine va_calli (va_runV (As := [.int (-4), .int (v1 + 2)]) (rest := []) ⟨hx, hb, hml, hown, hts⟩ (c_X4_meet l D κ b r2.2 (-4) (v1 + 2) _ er7) (cwV 2 hts (gwV wt_316 wt_318 wp_2 wt_2 wt_319) rfl rfl rfl (by decide +kernel) ⟨Nat.le_of_ble_eq_true rfl, Nat.le_of_ble_eq_true rfl⟩) (CW_preV hK hC sg_gReader rfl) rfl rfl hl.1 rfl (lv_room (Nat.le_of_ble_eq_true rfl)) dX4_takeEntry_34 ⟨Nat.zero_le _, Nat.zero_le _⟩) hS (fun _ _ h => h) (fun _ h => h) (fun r u t H locs ht _ hp hB _ _ hS => ?_)
      refine sg_topi hp.1 ?_
      have hC : CW D κ b r7.2 H := CW_b hB ht hp.2
      obtain ⟨hg, h⟩ := sg_gd h
      exact hret _ _ _ _ _ _ h (sg_bn hg) hC hS dX4_takeEntry_37
  · replace h := (if_pos hc).symm.trans h
    refine lv_iconst (v := 0) hx hb dX4_takeEntry_19 (by decide) ?_
    exact hret _ _ _ _ _ _ h (by decide) hC hS dX4_takeEntry_20
set_option maxHeartbeats 4000000 in
set_option maxRecDepth 100000 in
theorem c_X4_takeEntry (l : Launch) (D : va_G) (κ : Nat → ClassId) (b : Nat) (σ : Sg) (x1 : Nat) (x2 : Int32) (rr : Int32 × Sg) (hx1 : is_Card b x1) (h : fn_X4_takeEntry b σ x1 x2 = some rr) : Met l yX4_takeEntry wsX4_takeEntry rm_X4_takeEntry (va_Pc [.ref (b + 1), .ref x1, .int x2] (fun U => KK D κ U ∧ CW D κ b σ U.heap)) (va_Qi (fun (r : Int32) (u : Sg) => r = rr.1 ∧ u = rr.2) (fun u t => CW D κ b u t.heap) (sg_A b 892)) 0 0 (sg_A b 892) := by
  refine Met.ofW (cc := cX4_takeEntry) (maxL := 6) (ret := (some .boolean)) (by decide) rfl ?_
  intro p e s m args below meth c s₁ B hml hv
  obtain ⟨rfl, hK, hC⟩ := hv
  have hr := B.returns
  have hlocks := B.notSynchronized
  have hl := lv_entry ([.ref (b + 1), .ref x1, .int x2]) (n := 6) (Nat.le_of_ble_eq_true rfl)
  rw [lg_entry_eq]
  generalize (lg_sl ([.ref (b + 1), .ref x1, .int x2]) ++ List.replicate (6 - (lg_sl ([.ref (b + 1), .ref x1, .int x2])).length) Slot.unset).toArray = ls at hl ⊢
  have hl : lv_has ls 6 [(0, .ref (b + 1)), (1, .ref x1), (2, .int x2)] := hl
  exact w_X4_takeEntry_B0 ⟨B.exec, B.bytes, hml, findClass_of_methodNamed B.named, atoms_spec (ws := wsX4_takeEntry) B.pre, hK⟩ (fun v u H locs pc ls hq hbo hC hS hd => W.zret B.exec B.bytes hr hbo (fun t ht hW => ⟨⟨v, _, rfl, ⟨congrArg Prod.fst (Option.some.inj hq), congrArg Prod.snd (Option.some.inj hq)⟩, CW_e ht hC⟩, hS.F ht⟩) hS.2.2 hd) h hx1 hl hC va_S.rf

-- RecordShelf$Reader.takeDirectory(LRecordShelf$Card;)Z
theorem dX4_takeDirectory_0 : decode cX4_takeDirectory 0 = .ok (.aload_n 0, 1) := by decide +kernel
theorem dX4_takeDirectory_1 : decode cX4_takeDirectory 1 = .ok (.iconst 0, 1) := by decide +kernel
theorem dX4_takeDirectory_2 : decode cX4_takeDirectory 2 = .ok (.putfield 101, 3) := by decide +kernel
theorem dX4_takeDirectory_5 : decode cX4_takeDirectory 5 = .ok (.iconst 0, 1) := by decide +kernel
theorem dX4_takeDirectory_6 : decode cX4_takeDirectory 6 = .ok (.istore_n 2, 1) := by decide +kernel
theorem dX4_takeDirectory_7 : decode cX4_takeDirectory 7 = .ok (.iload_n 2, 1) := by decide +kernel
theorem dX4_takeDirectory_8 : decode cX4_takeDirectory 8 = .ok (.aload_n 0, 1) := by decide +kernel
theorem dX4_takeDirectory_9 : decode cX4_takeDirectory 9 = .ok (.getfield 98, 3) := by decide +kernel
theorem dX4_takeDirectory_12 : decode cX4_takeDirectory 12 = .ok (.if_icmp .ge 20, 3) := by decide +kernel
theorem dX4_takeDirectory_15 : decode cX4_takeDirectory 15 = .ok (.aload_n 0, 1) := by decide +kernel
theorem dX4_takeDirectory_16 : decode cX4_takeDirectory 16 = .ok (.aload_n 1, 1) := by decide +kernel
theorem dX4_takeDirectory_17 : decode cX4_takeDirectory 17 = .ok (.iload_n 2, 1) := by decide +kernel
theorem dX4_takeDirectory_18 : decode cX4_takeDirectory 18 = .ok (.invokevirtual 104, 3) := by decide +kernel
theorem dX4_takeDirectory_21 : decode cX4_takeDirectory 21 = .ok (.ifCond .ne 5, 3) := by decide +kernel
theorem dX4_takeDirectory_24 : decode cX4_takeDirectory 24 = .ok (.iconst 0, 1) := by decide +kernel
theorem dX4_takeDirectory_25 : decode cX4_takeDirectory 25 = .ok (.ireturn, 1) := by decide +kernel
theorem dX4_takeDirectory_26 : decode cX4_takeDirectory 26 = .ok (.iinc 2 1, 3) := by decide +kernel
theorem dX4_takeDirectory_29 : decode cX4_takeDirectory 29 = .ok (.goto (-22), 3) := by decide +kernel
theorem dX4_takeDirectory_32 : decode cX4_takeDirectory 32 = .ok (.aload_n 0, 1) := by decide +kernel
theorem dX4_takeDirectory_33 : decode cX4_takeDirectory 33 = .ok (.getfield 12, 3) := by decide +kernel
theorem dX4_takeDirectory_36 : decode cX4_takeDirectory 36 = .ok (.aload_n 0, 1) := by decide +kernel
theorem dX4_takeDirectory_37 : decode cX4_takeDirectory 37 = .ok (.getfield 95, 3) := by decide +kernel
theorem dX4_takeDirectory_40 : decode cX4_takeDirectory 40 = .ok (.iconst 1, 1) := by decide +kernel
theorem dX4_takeDirectory_41 : decode cX4_takeDirectory 41 = .ok (.isub, 1) := by decide +kernel
theorem dX4_takeDirectory_42 : decode cX4_takeDirectory 42 = .ok (.invokevirtual 65, 3) := by decide +kernel
theorem dX4_takeDirectory_45 : decode cX4_takeDirectory 45 = .ok (.bipush 30, 2) := by decide +kernel
theorem dX4_takeDirectory_47 : decode cX4_takeDirectory 47 = .ok (.if_icmp .eq 18, 3) := by decide +kernel
theorem dX4_takeDirectory_50 : decode cX4_takeDirectory 50 = .ok (.aload_n 0, 1) := by decide +kernel
theorem dX4_takeDirectory_51 : decode cX4_takeDirectory 51 = .ok (.bipush (-4), 2) := by decide +kernel
theorem dX4_takeDirectory_53 : decode cX4_takeDirectory 53 = .ok (.aload_n 0, 1) := by decide +kernel
theorem dX4_takeDirectory_54 : decode cX4_takeDirectory 54 = .ok (.getfield 95, 3) := by decide +kernel
theorem dX4_takeDirectory_57 : decode cX4_takeDirectory 57 = .ok (.iconst 1, 1) := by decide +kernel
theorem dX4_takeDirectory_58 : decode cX4_takeDirectory 58 = .ok (.isub, 1) := by decide +kernel
theorem dX4_takeDirectory_59 : decode cX4_takeDirectory 59 = .ok (.invokevirtual 73, 3) := by decide +kernel
theorem dX4_takeDirectory_62 : decode cX4_takeDirectory 62 = .ok (.ifCond .eq 7, 3) := by decide +kernel
theorem dX4_takeDirectory_65 : decode cX4_takeDirectory 65 = .ok (.iconst 1, 1) := by decide +kernel
theorem dX4_takeDirectory_66 : decode cX4_takeDirectory 66 = .ok (.goto 4, 3) := by decide +kernel
theorem dX4_takeDirectory_69 : decode cX4_takeDirectory 69 = .ok (.iconst 0, 1) := by decide +kernel
theorem dX4_takeDirectory_70 : decode cX4_takeDirectory 70 = .ok (.ireturn, 1) := by decide +kernel
def rm_X4_takeDirectory : Room := { frames := 3, cells := 0, slots := 0, locals := 73 }
def fn_X4_takeDirectory_B65 (b : Nat) (σ : Sg) : Option (Int32 × Sg) :=
  some (1, σ)
set_option maxHeartbeats 4000000 in
set_option maxRecDepth 100000 in
theorem w_X4_takeDirectory_B65 {p : Program} {l : Launch} {e : Env} {s : State} {m : MethodId} {args : Array Value} {below : List Frame} {meth : Method} {c : Code} {Q : State → Prop} {D : va_G} {κ : Nat → ClassId} {b : Nat} {H0 : Heap} {rr : Int32 × Sg} (hZ : sg_Z p c s m args D κ cX4_takeDirectory 3 RX4 wsX4_takeDirectory) (hret : ∀ (v : Int32) (u : Sg) (H : Heap) (locs : List Loc) (pc : Nat) (ls : Array Slot), some (v, u) = some rr → narrow .boolean (.int v) = .int v → CW D κ b u H → va_S (sg_A b 892) H0 H locs → decode cX4_takeDirectory pc = .ok (.ireturn, 1) → W p l e rm_X4_takeDirectory s m args below meth c H locs 0 0 Q (F0 m pc ls [.int v])) : ∀ {σ : Sg} {H : Heap} {locs : List Loc} {ls : Array Slot}, fn_X4_takeDirectory_B65 b σ = some rr → lv_has ls 3 [] → CW D κ b σ H → va_S (sg_A b 892) H0 H locs → W p l e rm_X4_takeDirectory s m args below meth c H locs 0 0 Q (F0 m 65 ls []) := by
  obtain ⟨hx, hb, hml, hown, hts, hK⟩ := hZ
  intro σ H locs ls h hl hC hS
  unfold fn_X4_takeDirectory_B65 at h
  refine lv_iconst (v := 1) hx hb dX4_takeDirectory_65 (by decide) ?_
  refine lv_goto (tgt := 70) hx hb dX4_takeDirectory_66 (by decide) ?_
  exact hret _ _ _ _ _ _ h (by decide) hC hS dX4_takeDirectory_70
def fn_X4_takeDirectory_B7b (b : Nat) (z7 : Sg → Nat → Int32 → Option (Int32 × Sg)) (σ : Sg) (x1 : Nat) (x2 : Int32) : Option (Int32 × Sg) :=
  (if ((σ.1 (b + 1) 3) : Int32) ≤ x2 then
  ((fn_X6_codeAt b σ ((σ.1 (b + 1) 2) - 1)).bind fun r1 =>
  (if r1 = 30 then
  fn_X4_takeDirectory_B65 b σ
  else ((fn_X4_meet b σ (-4) ((σ.1 (b + 1) 2) - 1)).bind fun r2 =>
  (if r2.1 = 0 then
  some (0, r2.2)
  else fn_X4_takeDirectory_B65 b r2.2))))
  else ((fn_X4_takeEntry b σ x1 x2).bind fun r3 =>
  (if r3.1 = 0 then
  some (0, r3.2)
  else (sg_lt (x2 + 1 : Int32) fun v4 =>
  z7 r3.2 x1 v4))))
def fn_X4_takeDirectory_B7 (b : Nat) : Nat → Sg → Nat → Int32 → Option (Int32 × Sg)
  | 0 => fun _ _ _ => none
  | n + 1 => fun σ x1 x2 => fn_X4_takeDirectory_B7b b (fn_X4_takeDirectory_B7 b n) σ x1 x2
set_option maxHeartbeats 4000000 in
set_option maxRecDepth 100000 in
theorem w_X4_takeDirectory_B7b {p : Program} {l : Launch} {e : Env} {s : State} {m : MethodId} {args : Array Value} {below : List Frame} {meth : Method} {c : Code} {Q : State → Prop} {D : va_G} {κ : Nat → ClassId} {b : Nat} {H0 : Heap} {rr : Int32 × Sg} (hZ : sg_Z p c s m args D κ cX4_takeDirectory 3 RX4 wsX4_takeDirectory) (hret : ∀ (v : Int32) (u : Sg) (H : Heap) (locs : List Loc) (pc : Nat) (ls : Array Slot), some (v, u) = some rr → narrow .boolean (.int v) = .int v → CW D κ b u H → va_S (sg_A b 892) H0 H locs → decode cX4_takeDirectory pc = .ok (.ireturn, 1) → W p l e rm_X4_takeDirectory s m args below meth c H locs 0 0 Q (F0 m pc ls [.int v])) {z7 : Sg → Nat → Int32 → Option (Int32 × Sg)} (hr7 : ∀ {σ : Sg} {x1 : Nat} {x2 : Int32} {H : Heap} {locs : List Loc} {ls : Array Slot}, z7 σ x1 x2 = some rr → is_Card b x1 → lv_has ls 3 [(0, .ref (b + 1)), (1, .ref x1), (2, .int x2)] → CW D κ b σ H → va_S (sg_A b 892) H0 H locs → W p l e rm_X4_takeDirectory s m args below meth c H locs 0 0 Q (F0 m 7 ls [])) : ∀ {σ : Sg} {x1 : Nat} {x2 : Int32} {H : Heap} {locs : List Loc} {ls : Array Slot}, fn_X4_takeDirectory_B7b b z7 σ x1 x2 = some rr → is_Card b x1 → lv_has ls 3 [(0, .ref (b + 1)), (1, .ref x1), (2, .int x2)] → CW D κ b σ H → va_S (sg_A b 892) H0 H locs → W p l e rm_X4_takeDirectory s m args below meth c H locs 0 0 Q (F0 m 7 ls []) := by
  obtain ⟨hx, hb, hml, hown, hts, hK⟩ := hZ
  intro σ x1 x2 H locs ls h hx1 hl hC hS
  unfold fn_X4_takeDirectory_B7b at h
  refine lv_iload_n hx hb dX4_takeDirectory_7 rfl (lv_at hl 2 rfl) ?_
  refine lv_aload_n hx hb dX4_takeDirectory_8 rfl (lv_at hl 0 rfl) ?_
  refine va_get (D := D) (ci := 4) (v := .int (σ.1 (b + 1) 3)) (C := RX4) (T := TX4) (N := 8) hx hb hts (wqs inW_X4) hown hK.1 hC.1 ((b + 1) - b) sg_gReader rfl 3 (by decide) (hts _ (wq wt_51)) (fun _ h9 => h9) rfl dX4_takeDirectory_9 ?_
  refine lv_icmp_ge (tgt := 32) hx hb dX4_takeDirectory_12 (by decide) (fun hc => ?_) (fun hc => ?_)
  · replace h := (if_pos hc).symm.trans h
    refine lv_aload_n hx hb dX4_takeDirectory_32 rfl (lv_at hl 0 rfl) ?_
    refine va_get (D := D) (ci := 4) (v := .ref (b + 2)) (C := RX4) (T := TX4) (N := 8) hx hb hts (wqs inW_X4) hown hK.1 hC.1 ((b + 1) - b) sg_gReader rfl 0 (by decide) (hts _ (wq wt_47)) (fun _ h9 => h9) rfl dX4_takeDirectory_33 ?_
    refine lv_aload_n hx hb dX4_takeDirectory_36 rfl (lv_at hl 0 rfl) ?_
    refine va_get (D := D) (ci := 4) (v := .int (σ.1 (b + 1) 2)) (C := RX4) (T := TX4) (N := 8) hx hb hts (wqs inW_X4) hown hK.1 hC.1 ((b + 1) - b) sg_gReader rfl 2 (by decide) (hts _ (wq wt_50)) (fun _ h9 => h9) rfl dX4_takeDirectory_37 ?_
    refine lv_iconst (v := 1) hx hb dX4_takeDirectory_40 (by decide) ?_
    refine lv_isub hx hb dX4_takeDirectory_41 ?_
    obtain ⟨r1, er1, h⟩ := Option.bind_eq_some_iff.mp h
    refine va_calli (va_runV (As := [.int ((σ.1 (b + 1) 2) - 1)]) (rest := []) ⟨hx, hb, hml, hown, hts⟩ (c_X6_codeAt l D κ b σ ((σ.1 (b + 1) 2) - 1) _ er1) (cwV 1 hts (gwV wt_312 wt_244 wt_245 wt_3 wt_246) rfl rfl rfl (by decide +kernel) ⟨Nat.le_of_ble_eq_true rfl, Nat.le_of_ble_eq_true rfl⟩) (CW_preV hK hC sg_gText rfl) rfl rfl hl.1 rfl (lv_room (Nat.le_of_ble_eq_true rfl)) dX4_takeDirectory_42 ⟨Nat.zero_le _, Nat.zero_le _⟩) hS (fun _ _ h => h) (fun _ h => h) (fun r u t H locs ht _ hp hB _ _ hS => ?_)
    refine sg_topi hp.1 ?_
    have hC : CW D κ b σ H := CW_b hB ht hp.2
    refine lv_bipush (v := 30) hx hb dX4_takeDirectory_45 (by decide) ?_
    refine lv_icmp_eq (tgt := 65) hx hb dX4_takeDirectory_47 (by decide) (fun hc => ?_) (fun hc => ?_)
    · replace h := (if_pos hc).symm.trans h
      exact w_X4_takeDirectory_B65 ⟨hx, hb, hml, hown, hts, hK⟩ hret  h (lv_sub hl [] rfl) hC hS
    · replace h := (if_neg hc).symm.trans h
      refine lv_aload_n hx hb dX4_takeDirectory_50 rfl (lv_at hl 0 rfl) ?_
      refine lv_bipush (v := (-4)) hx hb dX4_takeDirectory_51 (by decide) ?_
      refine lv_aload_n hx hb dX4_takeDirectory_53 rfl (lv_at hl 0 rfl) ?_
      refine va_get (D := D) (ci := 4) (v := .int (σ.1 (b + 1) 2)) (C := RX4) (T := TX4) (N := 8) hx hb hts (wqs inW_X4) hown hK.1 hC.1 ((b + 1) - b) sg_gReader rfl 2 (by decide) (hts _ (wq wt_50)) (fun _ h9 => h9) rfl dX4_takeDirectory_54 ?_
      refine lv_iconst (v := 1) hx hb dX4_takeDirectory_57 (by decide) ?_
      refine lv_isub hx hb dX4_takeDirectory_58 ?_
      obtain ⟨r2, er2, h⟩ := Option.bind_eq_some_iff.mp h
      refine va_calli (va_runV (As := [.int (-4), .int ((σ.1 (b + 1) 2) - 1)]) (rest := []) ⟨hx, hb, hml, hown, hts⟩ (c_X4_meet l D κ b σ (-4) ((σ.1 (b + 1) 2) - 1) _ er2) (cwV 2 hts (gwV wt_316 wt_318 wp_2 wt_2 wt_319) rfl rfl rfl (by decide +kernel) ⟨Nat.le_of_ble_eq_true rfl, Nat.le_of_ble_eq_true rfl⟩) (CW_preV hK hC sg_gReader rfl) rfl rfl hl.1 rfl (lv_room (Nat.le_of_ble_eq_true rfl)) dX4_takeDirectory_59 ⟨Nat.zero_le _, Nat.zero_le _⟩) hS (fun _ _ h => h) (fun _ h => h) (fun r u t H locs ht _ hp hB _ _ hS => ?_)
      refine sg_topi hp.1 ?_
      have hC : CW D κ b r2.2 H := CW_b hB ht hp.2
      refine lv_if_eq (tgt := 69) hx hb dX4_takeDirectory_62 (by decide) (fun hc => ?_) (fun hc => ?_)
      · replace h := (if_pos hc).symm.trans h
        refine lv_iconst (v := 0) hx hb dX4_takeDirectory_69 (by decide) ?_
        exact hret _ _ _ _ _ _ h (by decide) hC hS dX4_takeDirectory_70
      · replace h := (if_neg hc).symm.trans h
        exact w_X4_takeDirectory_B65 ⟨hx, hb, hml, hown, hts, hK⟩ hret  h (lv_sub hl [] rfl) hC hS
  · replace h := (if_neg hc).symm.trans h
    refine lv_aload_n hx hb dX4_takeDirectory_15 rfl (lv_at hl 0 rfl) ?_
    refine lv_aload_n hx hb dX4_takeDirectory_16 rfl (lv_at hl 1 rfl) ?_
    refine lv_iload_n hx hb dX4_takeDirectory_17 rfl (lv_at hl 2 rfl) ?_
    obtain ⟨r3, er3, h⟩ := Option.bind_eq_some_iff.mp h
    refine va_calli (va_runV (As := [.ref x1, .int x2]) (rest := []) ⟨hx, hb, hml, hown, hts⟩ (c_X4_takeEntry l D κ b σ x1 x2 _ hx1 er3) (cwV 2 hts (gwV wt_342 wt_344 wp_7 wt_2 wt_345) rfl rfl rfl (by decide +kernel) ⟨Nat.le_of_ble_eq_true rfl, Nat.le_of_ble_eq_true rfl⟩) (CW_preV hK hC sg_gReader rfl) rfl rfl hl.1 rfl (lv_room (Nat.le_of_ble_eq_true rfl)) dX4_takeDirectory_18 ⟨Nat.zero_le _, Nat.zero_le _⟩) hS (fun _ _ h => h) (fun _ h => h) (fun r u t H locs ht _ hp hB _ _ hS => ?_)
    refine sg_topi hp.1 ?_
    have hC : CW D κ b r3.2 H := CW_b hB ht hp.2
    refine lv_if_ne (tgt := 26) hx hb dX4_takeDirectory_21 (by decide) (fun hc => ?_) (fun hc => ?_)
    · replace h := (if_neg hc).symm.trans h
      obtain ⟨v4, ev4, h⟩ := sg_lte h
      refine lv_iinc (v := v4) (lv' := [(2, .int v4), (0, .ref (b + 1)), (1, .ref x1)]) (k := 2) hx hb dX4_takeDirectory_26 hl rfl (sg_inc (by decide) ev4) (by decide) rfl (fun ls hl => ?_)
      refine lv_goto (tgt := 7) hx hb dX4_takeDirectory_29 (by decide) ?_
      exact hr7 h hx1 (lv_sub hl [1, 2, 0] rfl) hC hS
    · replace h := (if_pos hc).symm.trans h
      refine lv_iconst (v := 0) hx hb dX4_takeDirectory_24 (by decide) ?_
      exact hret _ _ _ _ _ _ h (by decide) hC hS dX4_takeDirectory_25
set_option maxHeartbeats 4000000 in
theorem w_X4_takeDirectory_B7 {p : Program} {l : Launch} {e : Env} {s : State} {m : MethodId} {args : Array Value} {below : List Frame} {meth : Method} {c : Code} {Q : State → Prop} {D : va_G} {κ : Nat → ClassId} {b : Nat} {H0 : Heap} {rr : Int32 × Sg} (hZ : sg_Z p c s m args D κ cX4_takeDirectory 3 RX4 wsX4_takeDirectory) (hret : ∀ (v : Int32) (u : Sg) (H : Heap) (locs : List Loc) (pc : Nat) (ls : Array Slot), some (v, u) = some rr → narrow .boolean (.int v) = .int v → CW D κ b u H → va_S (sg_A b 892) H0 H locs → decode cX4_takeDirectory pc = .ok (.ireturn, 1) → W p l e rm_X4_takeDirectory s m args below meth c H locs 0 0 Q (F0 m pc ls [.int v])) : ∀ n : Nat, ∀ {σ : Sg} {x1 : Nat} {x2 : Int32} {H : Heap} {locs : List Loc} {ls : Array Slot}, fn_X4_takeDirectory_B7 b n σ x1 x2 = some rr → is_Card b x1 → lv_has ls 3 [(0, .ref (b + 1)), (1, .ref x1), (2, .int x2)] → CW D κ b σ H → va_S (sg_A b 892) H0 H locs → W p l e rm_X4_takeDirectory s m args below meth c H locs 0 0 Q (F0 m 7 ls []) := by
  intro n
  induction n with
  | zero => intro σ x1 x2 H locs ls h hx1 hl hC hS; cases (show (none : Option (Int32 × Sg)) = some rr from h)
  | succ n ih =>
    intro σ x1 x2 H locs ls h hx1 hl hC hS
    exact w_X4_takeDirectory_B7b hZ hret ih (show fn_X4_takeDirectory_B7b b (fn_X4_takeDirectory_B7 b n) σ x1 x2 = some rr from h) hx1 hl hC hS
def fn_X4_takeDirectory (b : Nat) (σ : Sg) (x1 : Nat) : Option (Int32 × Sg) :=
  (sg_lt (sg_w σ (b + 1) 4 0) fun σ1 =>
  fn_X4_takeDirectory_B7 b sg_N σ1 x1 0)
set_option maxHeartbeats 4000000 in
set_option maxRecDepth 100000 in
theorem w_X4_takeDirectory_B0 {p : Program} {l : Launch} {e : Env} {s : State} {m : MethodId} {args : Array Value} {below : List Frame} {meth : Method} {c : Code} {Q : State → Prop} {D : va_G} {κ : Nat → ClassId} {b : Nat} {H0 : Heap} {rr : Int32 × Sg} (hZ : sg_Z p c s m args D κ cX4_takeDirectory 3 RX4 wsX4_takeDirectory) (hret : ∀ (v : Int32) (u : Sg) (H : Heap) (locs : List Loc) (pc : Nat) (ls : Array Slot), some (v, u) = some rr → narrow .boolean (.int v) = .int v → CW D κ b u H → va_S (sg_A b 892) H0 H locs → decode cX4_takeDirectory pc = .ok (.ireturn, 1) → W p l e rm_X4_takeDirectory s m args below meth c H locs 0 0 Q (F0 m pc ls [.int v])) : ∀ {σ : Sg} {x1 : Nat} {H : Heap} {locs : List Loc} {ls : Array Slot}, fn_X4_takeDirectory b σ x1 = some rr → is_Card b x1 → lv_has ls 3 [(0, .ref (b + 1)), (1, .ref x1)] → CW D κ b σ H → va_S (sg_A b 892) H0 H locs → W p l e rm_X4_takeDirectory s m args below meth c H locs 0 0 Q (F0 m 0 ls []) := by
  obtain ⟨hx, hb, hml, hown, hts, hK⟩ := hZ
  intro σ x1 H locs ls h hx1 hl hC hS
  unfold fn_X4_takeDirectory at h
  refine lv_aload_n hx hb dX4_takeDirectory_0 rfl (lv_at hl 0 rfl) ?_
  refine lv_iconst (v := 0) hx hb dX4_takeDirectory_1 (by decide) ?_
  refine va_put (D := D) (ci := 4) (v := .int 0) (ty := .int) (C := RX4) (T := TX4) (N := 8) hx hb hts (wqs inW_X4) tyX4 tyX4_ok nmX4 hown hK.1 hC.1 sg_D hS ((b + 1) - b) sg_gReader rfl 4 (by decide) (hts _ (wq wt_52)) (fun _ h9 => h9) rfl (by decide +kernel) rfl rfl (Nat.le_of_ble_eq_true rfl) dX4_takeDirectory_2 (fun H locs hP _ hS => ?_)
  obtain ⟨σ1, eσ1, h⟩ := sg_lte h
  have hC : CW D κ b σ1 H := eσ1 ▸ CW_put (k := 4) (v := 0) hC sg_aReader (sg_yReader _ _) hP
  refine lv_iconst (v := 0) hx hb dX4_takeDirectory_5 (by decide) ?_
  refine lv_istore_n (lv' := [(2, .int 0), (0, .ref (b + 1)), (1, .ref x1)]) hx hb dX4_takeDirectory_6 rfl hl (by decide) rfl (fun ls hl => ?_)
  exact w_X4_takeDirectory_B7 ⟨hx, hb, hml, hown, hts, hK⟩ hret  sg_N h hx1 (lv_sub hl [1, 2, 0] rfl) hC hS
set_option maxHeartbeats 4000000 in
set_option maxRecDepth 100000 in
theorem c_X4_takeDirectory (l : Launch) (D : va_G) (κ : Nat → ClassId) (b : Nat) (σ : Sg) (x1 : Nat) (rr : Int32 × Sg) (hx1 : is_Card b x1) (h : fn_X4_takeDirectory b σ x1 = some rr) : Met l yX4_takeDirectory wsX4_takeDirectory rm_X4_takeDirectory (va_Pc [.ref (b + 1), .ref x1] (fun U => KK D κ U ∧ CW D κ b σ U.heap)) (va_Qi (fun (r : Int32) (u : Sg) => r = rr.1 ∧ u = rr.2) (fun u t => CW D κ b u t.heap) (sg_A b 892)) 0 0 (sg_A b 892) := by
  refine Met.ofW (cc := cX4_takeDirectory) (maxL := 3) (ret := (some .boolean)) (by decide) rfl ?_
  intro p e s m args below meth c s₁ B hml hv
  obtain ⟨rfl, hK, hC⟩ := hv
  have hr := B.returns
  have hlocks := B.notSynchronized
  have hl := lv_entry ([.ref (b + 1), .ref x1]) (n := 3) (Nat.le_of_ble_eq_true rfl)
  rw [lg_entry_eq]
  generalize (lg_sl ([.ref (b + 1), .ref x1]) ++ List.replicate (3 - (lg_sl ([.ref (b + 1), .ref x1])).length) Slot.unset).toArray = ls at hl ⊢
  have hl : lv_has ls 3 [(0, .ref (b + 1)), (1, .ref x1)] := hl
  exact w_X4_takeDirectory_B0 ⟨B.exec, B.bytes, hml, findClass_of_methodNamed B.named, atoms_spec (ws := wsX4_takeDirectory) B.pre, hK⟩ (fun v u H locs pc ls hq hbo hC hS hd => W.zret B.exec B.bytes hr hbo (fun t ht hW => ⟨⟨v, _, rfl, ⟨congrArg Prod.fst (Option.some.inj hq), congrArg Prod.snd (Option.some.inj hq)⟩, CW_e ht hC⟩, hS.F ht⟩) hS.2.2 hd) h hx1 hl hC va_S.rf

-- RecordShelf$Reader.takeFields(LRecordShelf$Card;)Z
theorem dX4_takeFields_0 : decode cX4_takeFields 0 = .ok (.aload_n 0, 1) := by decide +kernel
theorem dX4_takeFields_1 : decode cX4_takeFields 1 = .ok (.getfield 95, 3) := by decide +kernel
theorem dX4_takeFields_4 : decode cX4_takeFields 4 = .ok (.istore_n 2, 1) := by decide +kernel
theorem dX4_takeFields_5 : decode cX4_takeFields 5 = .ok (.iconst 0, 1) := by decide +kernel
theorem dX4_takeFields_6 : decode cX4_takeFields 6 = .ok (.istore_n 3, 1) := by decide +kernel
theorem dX4_takeFields_7 : decode cX4_takeFields 7 = .ok (.iload_n 3, 1) := by decide +kernel
theorem dX4_takeFields_8 : decode cX4_takeFields 8 = .ok (.aload_n 1, 1) := by decide +kernel
theorem dX4_takeFields_9 : decode cX4_takeFields 9 = .ok (.getfield 117, 3) := by decide +kernel
theorem dX4_takeFields_12 : decode cX4_takeFields 12 = .ok (.if_icmp .ge 72, 3) := by decide +kernel
theorem dX4_takeFields_15 : decode cX4_takeFields 15 = .ok (.aload_n 1, 1) := by decide +kernel
theorem dX4_takeFields_16 : decode cX4_takeFields 16 = .ok (.getfield 120, 3) := by decide +kernel
theorem dX4_takeFields_19 : decode cX4_takeFields 19 = .ok (.iload_n 3, 1) := by decide +kernel
theorem dX4_takeFields_20 : decode cX4_takeFields 20 = .ok (.aaload, 1) := by decide +kernel
theorem dX4_takeFields_21 : decode cX4_takeFields 21 = .ok (.astore 4, 2) := by decide +kernel
theorem dX4_takeFields_23 : decode cX4_takeFields 23 = .ok (.iload_n 2, 1) := by decide +kernel
theorem dX4_takeFields_24 : decode cX4_takeFields 24 = .ok (.aload_n 0, 1) := by decide +kernel
theorem dX4_takeFields_25 : decode cX4_takeFields 25 = .ok (.getfield 18, 3) := by decide +kernel
theorem dX4_takeFields_28 : decode cX4_takeFields 28 = .ok (.iload_n 3, 1) := by decide +kernel
theorem dX4_takeFields_29 : decode cX4_takeFields 29 = .ok (.iaload, 1) := by decide +kernel
theorem dX4_takeFields_30 : decode cX4_takeFields 30 = .ok (.iadd, 1) := by decide +kernel
theorem dX4_takeFields_31 : decode cX4_takeFields 31 = .ok (.iconst 1, 1) := by decide +kernel
theorem dX4_takeFields_32 : decode cX4_takeFields 32 = .ok (.isub, 1) := by decide +kernel
theorem dX4_takeFields_33 : decode cX4_takeFields 33 = .ok (.istore 5, 2) := by decide +kernel
theorem dX4_takeFields_35 : decode cX4_takeFields 35 = .ok (.aload 4, 2) := by decide +kernel
theorem dX4_takeFields_37 : decode cX4_takeFields 37 = .ok (.invokevirtual 112, 3) := by decide +kernel
theorem dX4_takeFields_40 : decode cX4_takeFields 40 = .ok (.ifCond .eq 15, 3) := by decide +kernel
theorem dX4_takeFields_43 : decode cX4_takeFields 43 = .ok (.aload_n 0, 1) := by decide +kernel
theorem dX4_takeFields_44 : decode cX4_takeFields 44 = .ok (.aload 4, 2) := by decide +kernel
theorem dX4_takeFields_46 : decode cX4_takeFields 46 = .ok (.iload_n 2, 1) := by decide +kernel
theorem dX4_takeFields_47 : decode cX4_takeFields 47 = .ok (.iload 5, 2) := by decide +kernel
theorem dX4_takeFields_49 : decode cX4_takeFields 49 = .ok (.invokevirtual 124, 3) := by decide +kernel
theorem dX4_takeFields_52 : decode cX4_takeFields 52 = .ok (.goto 12, 3) := by decide +kernel
theorem dX4_takeFields_55 : decode cX4_takeFields 55 = .ok (.aload_n 0, 1) := by decide +kernel
theorem dX4_takeFields_56 : decode cX4_takeFields 56 = .ok (.aload 4, 2) := by decide +kernel
theorem dX4_takeFields_58 : decode cX4_takeFields 58 = .ok (.iload_n 2, 1) := by decide +kernel
theorem dX4_takeFields_59 : decode cX4_takeFields 59 = .ok (.iload 5, 2) := by decide +kernel
theorem dX4_takeFields_61 : decode cX4_takeFields 61 = .ok (.invokevirtual 128, 3) := by decide +kernel
theorem dX4_takeFields_64 : decode cX4_takeFields 64 = .ok (.istore 6, 2) := by decide +kernel
theorem dX4_takeFields_66 : decode cX4_takeFields 66 = .ok (.iload 6, 2) := by decide +kernel
theorem dX4_takeFields_68 : decode cX4_takeFields 68 = .ok (.ifCond .ne 5, 3) := by decide +kernel
theorem dX4_takeFields_71 : decode cX4_takeFields 71 = .ok (.iconst 0, 1) := by decide +kernel
theorem dX4_takeFields_72 : decode cX4_takeFields 72 = .ok (.ireturn, 1) := by decide +kernel
theorem dX4_takeFields_73 : decode cX4_takeFields 73 = .ok (.iload 5, 2) := by decide +kernel
theorem dX4_takeFields_75 : decode cX4_takeFields 75 = .ok (.iconst 1, 1) := by decide +kernel
theorem dX4_takeFields_76 : decode cX4_takeFields 76 = .ok (.iadd, 1) := by decide +kernel
theorem dX4_takeFields_77 : decode cX4_takeFields 77 = .ok (.istore_n 2, 1) := by decide +kernel
theorem dX4_takeFields_78 : decode cX4_takeFields 78 = .ok (.iinc 3 1, 3) := by decide +kernel
theorem dX4_takeFields_81 : decode cX4_takeFields 81 = .ok (.goto (-74), 3) := by decide +kernel
theorem dX4_takeFields_84 : decode cX4_takeFields 84 = .ok (.iconst 1, 1) := by decide +kernel
theorem dX4_takeFields_85 : decode cX4_takeFields 85 = .ok (.ireturn, 1) := by decide +kernel
def rm_X4_takeFields : Room := { frames := 5, cells := 0, slots := 0, locals := 112 }
def fn_X4_takeFields_B64 (b : Nat) (z7 : Sg → Nat → Int32 → Int32 → Option (Int32 × Sg)) (σ : Sg) (x1 : Nat) (x3 : Int32) (x5 : Int32) (y0 : Int32) : Option (Int32 × Sg) :=
  (if y0 = 0 then
  some (0, σ)
  else (sg_lt ((x5 + 1) : Int32) fun v1 =>
  (sg_lt (x3 + 1 : Int32) fun v2 =>
  z7 σ x1 v1 v2)))
set_option maxHeartbeats 4000000 in
set_option maxRecDepth 100000 in
theorem w_X4_takeFields_B64 {p : Program} {l : Launch} {e : Env} {s : State} {m : MethodId} {args : Array Value} {below : List Frame} {meth : Method} {c : Code} {Q : State → Prop} {D : va_G} {κ : Nat → ClassId} {b : Nat} {H0 : Heap} {rr : Int32 × Sg} (hZ : sg_Z p c s m args D κ cX4_takeFields 7 RX4 wsX4_takeFields) (hret : ∀ (v : Int32) (u : Sg) (H : Heap) (locs : List Loc) (pc : Nat) (ls : Array Slot), some (v, u) = some rr → narrow .boolean (.int v) = .int v → CW D κ b u H → va_S (sg_A b 892) H0 H locs → decode cX4_takeFields pc = .ok (.ireturn, 1) → W p l e rm_X4_takeFields s m args below meth c H locs 0 0 Q (F0 m pc ls [.int v])) {z7 : Sg → Nat → Int32 → Int32 → Option (Int32 × Sg)} (hr7 : ∀ {σ : Sg} {x1 : Nat} {x2 : Int32} {x3 : Int32} {H : Heap} {locs : List Loc} {ls : Array Slot}, z7 σ x1 x2 x3 = some rr → is_Card b x1 → lv_has ls 7 [(0, .ref (b + 1)), (1, .ref x1), (2, .int x2), (3, .int x3)] → CW D κ b σ H → va_S (sg_A b 892) H0 H locs → W p l e rm_X4_takeFields s m args below meth c H locs 0 0 Q (F0 m 7 ls [])) : ∀ {σ : Sg} {x1 : Nat} {x3 : Int32} {x5 : Int32} {y0 : Int32} {H : Heap} {locs : List Loc} {ls : Array Slot}, fn_X4_takeFields_B64 b z7 σ x1 x3 x5 y0 = some rr → is_Card b x1 → lv_has ls 7 [(0, .ref (b + 1)), (1, .ref x1), (3, .int x3), (5, .int x5)] → CW D κ b σ H → va_S (sg_A b 892) H0 H locs → W p l e rm_X4_takeFields s m args below meth c H locs 0 0 Q (F0 m 64 ls [.int y0]) := by
  obtain ⟨hx, hb, hml, hown, hts, hK⟩ := hZ
  intro σ x1 x3 x5 y0 H locs ls h hx1 hl hC hS
  unfold fn_X4_takeFields_B64 at h
  refine lv_istore (lv' := [(6, .int y0), (0, .ref (b + 1)), (1, .ref x1), (3, .int x3), (5, .int x5)]) hx hb dX4_takeFields_64 hl (by decide) rfl (fun ls hl => ?_)
  refine lv_iload hx hb dX4_takeFields_66 (lv_at hl 0 rfl) ?_
  refine lv_if_ne (tgt := 73) hx hb dX4_takeFields_68 (by decide) (fun hc => ?_) (fun hc => ?_)
  · replace h := (if_neg hc).symm.trans h
    refine lv_iload hx hb dX4_takeFields_73 (lv_at hl 4 rfl) ?_
    refine lv_iconst (v := 1) hx hb dX4_takeFields_75 (by decide) ?_
    refine lv_iadd hx hb dX4_takeFields_76 ?_
    obtain ⟨v1, ev1, h⟩ := sg_lte h
    refine sg_topi ev1 ?_
    refine lv_istore_n (lv' := [(2, .int v1), (6, .int y0), (0, .ref (b + 1)), (1, .ref x1), (3, .int x3), (5, .int x5)]) hx hb dX4_takeFields_77 rfl hl (by decide) rfl (fun ls hl => ?_)
    obtain ⟨v2, ev2, h⟩ := sg_lte h
    refine lv_iinc (v := v2) (lv' := [(3, .int v2), (2, .int v1), (6, .int y0), (0, .ref (b + 1)), (1, .ref x1), (5, .int x5)]) (k := 4) hx hb dX4_takeFields_78 hl rfl (sg_inc (by decide) ev2) (by decide) rfl (fun ls hl => ?_)
    refine lv_goto (tgt := 7) hx hb dX4_takeFields_81 (by decide) ?_
    exact hr7 h hx1 (lv_sub hl [3, 4, 1, 0] rfl) hC hS
  · replace h := (if_pos hc).symm.trans h
    refine lv_iconst (v := 0) hx hb dX4_takeFields_71 (by decide) ?_
    exact hret _ _ _ _ _ _ h (by decide) hC hS dX4_takeFields_72
def fn_X4_takeFields_B7b (b : Nat) (z7 : Sg → Nat → Int32 → Int32 → Option (Int32 × Sg)) (σ : Sg) (x1 : Nat) (x2 : Int32) (x3 : Int32) : Option (Int32 × Sg) :=
  (if ((σ.1 x1 2) : Int32) ≤ x3 then
  some (1, σ)
  else (if sg_ib x3 8 then
  (sg_lt ((σ.2 (x1 + 2) (sg_x x3)) : Nat) fun a2 =>
  (if sg_ib x3 8 then
  (sg_lt (((x2 + (σ.1 (b + 4) (sg_x x3))) - 1) : Int32) fun v3 =>
  ((fn_X1_isSimple b σ a2).bind fun r4 =>
  (if r4 = 0 then
  ((fn_X4_takeDivided b σ a2 x2 v3).bind fun r5 =>
  fn_X4_takeFields_B64 b z7 r5.2 x1 x3 v3 r5.1)
  else ((fn_X4_takeSimple b σ a2 x2 v3).bind fun r6 =>
  fn_X4_takeFields_B64 b z7 r6.2 x1 x3 v3 r6.1))))
  else none))
  else none))
def fn_X4_takeFields_B7 (b : Nat) : Nat → Sg → Nat → Int32 → Int32 → Option (Int32 × Sg)
  | 0 => fun _ _ _ _ => none
  | n + 1 => fun σ x1 x2 x3 => fn_X4_takeFields_B7b b (fn_X4_takeFields_B7 b n) σ x1 x2 x3
set_option maxHeartbeats 4000000 in
set_option maxRecDepth 100000 in
theorem w_X4_takeFields_B7b {p : Program} {l : Launch} {e : Env} {s : State} {m : MethodId} {args : Array Value} {below : List Frame} {meth : Method} {c : Code} {Q : State → Prop} {D : va_G} {κ : Nat → ClassId} {b : Nat} {H0 : Heap} {rr : Int32 × Sg} (hZ : sg_Z p c s m args D κ cX4_takeFields 7 RX4 wsX4_takeFields) (hret : ∀ (v : Int32) (u : Sg) (H : Heap) (locs : List Loc) (pc : Nat) (ls : Array Slot), some (v, u) = some rr → narrow .boolean (.int v) = .int v → CW D κ b u H → va_S (sg_A b 892) H0 H locs → decode cX4_takeFields pc = .ok (.ireturn, 1) → W p l e rm_X4_takeFields s m args below meth c H locs 0 0 Q (F0 m pc ls [.int v])) {z7 : Sg → Nat → Int32 → Int32 → Option (Int32 × Sg)} (hr7 : ∀ {σ : Sg} {x1 : Nat} {x2 : Int32} {x3 : Int32} {H : Heap} {locs : List Loc} {ls : Array Slot}, z7 σ x1 x2 x3 = some rr → is_Card b x1 → lv_has ls 7 [(0, .ref (b + 1)), (1, .ref x1), (2, .int x2), (3, .int x3)] → CW D κ b σ H → va_S (sg_A b 892) H0 H locs → W p l e rm_X4_takeFields s m args below meth c H locs 0 0 Q (F0 m 7 ls [])) : ∀ {σ : Sg} {x1 : Nat} {x2 : Int32} {x3 : Int32} {H : Heap} {locs : List Loc} {ls : Array Slot}, fn_X4_takeFields_B7b b z7 σ x1 x2 x3 = some rr → is_Card b x1 → lv_has ls 7 [(0, .ref (b + 1)), (1, .ref x1), (2, .int x2), (3, .int x3)] → CW D κ b σ H → va_S (sg_A b 892) H0 H locs → W p l e rm_X4_takeFields s m args below meth c H locs 0 0 Q (F0 m 7 ls []) := by
  obtain ⟨hx, hb, hml, hown, hts, hK⟩ := hZ
  intro σ x1 x2 x3 H locs ls h hx1 hl hC hS
  unfold fn_X4_takeFields_B7b at h
  refine lv_iload_n hx hb dX4_takeFields_7 rfl (lv_at hl 3 rfl) ?_
  refine lv_aload_n hx hb dX4_takeFields_8 rfl (lv_at hl 1 rfl) ?_
  refine va_getN (D := D) (ci := 0) (v := .int (σ.1 x1 2)) (C := RX0) (T := TX0) (N := 3) hx hb hts (wqs inW_X0) hown hK.1 hC.1 (x1 - b) (sg_gCard hx1) rfl 2 (by decide) (nf_30 hK) (fun _ h9 => h9) rfl dX4_takeFields_9 ?_
  refine lv_icmp_ge (tgt := 84) hx hb dX4_takeFields_12 (by decide) (fun hc => ?_) (fun hc => ?_)
  · replace h := (if_pos hc).symm.trans h
    refine lv_iconst (v := 1) hx hb dX4_takeFields_84 (by decide) ?_
    exact hret _ _ _ _ _ _ h (by decide) hC hS dX4_takeFields_85
  · replace h := (if_neg hc).symm.trans h
    refine lv_aload_n hx hb dX4_takeFields_15 rfl (lv_at hl 1 rfl) ?_
    refine va_getN (D := D) (ci := 0) (v := .ref (x1 + 2)) (C := RX0) (T := TX0) (N := 3) hx hb hts (wqs inW_X0) hown hK.1 hC.1 (x1 - b) (sg_gCard hx1) rfl 1 (by decide) (nf_28 hK) (fun _ h9 => h9) rfl dX4_takeFields_16 ?_
    refine lv_iload_n hx hb dX4_takeFields_19 rfl (lv_at hl 3 rfl) ?_
    obtain ⟨hg, h⟩ := sg_gd h
    refine va_aldq (C := "RecordShelf$Field") hx hb hK.1 hC.1 ((x1 + 2) - b) 3 (sg_gfields hx1) rfl (sg_in hg) dX4_takeFields_20 ?_
    have hv1 := hC.2 _ hx1 _ hg.2
    refine W.eq (g2 := F0 m 21 ls [.ref (σ.2 (x1 + 2) (sg_x x3))]) rfl ?_
    obtain ⟨a2, ea2, h⟩ := sg_lte h
    have ha2 := ea2 ▸ hv1
    refine sg_topr ea2 ?_
    refine lv_astore (lv' := [(4, .ref a2), (0, .ref (b + 1)), (1, .ref x1), (2, .int x2), (3, .int x3)]) hx hb dX4_takeFields_21 hl (by decide) rfl (fun ls hl => ?_)
    refine lv_iload_n hx hb dX4_takeFields_23 rfl (lv_at hl 3 rfl) ?_
    refine lv_aload_n hx hb dX4_takeFields_24 rfl (lv_at hl 1 rfl) ?_
    refine va_get (D := D) (ci := 4) (v := .ref (b + 4)) (C := RX4) (T := TX4) (N := 8) hx hb hts (wqs inW_X4) hown hK.1 hC.1 ((b + 1) - b) sg_gReader rfl 1 (by decide) (hts _ (wq wt_49)) (fun _ h9 => h9) rfl dX4_takeFields_25 ?_
    refine lv_iload_n hx hb dX4_takeFields_28 rfl (lv_at hl 4 rfl) ?_
    obtain ⟨hg, h⟩ := sg_gd h
    refine va_iald hx hb hK.1 hC.1 ((b + 4) - b) 0 sg_gsizes rfl (sg_in hg) dX4_takeFields_29 ?_
    refine lv_iadd hx hb dX4_takeFields_30 ?_
    refine lv_iconst (v := 1) hx hb dX4_takeFields_31 (by decide) ?_
    refine lv_isub hx hb dX4_takeFields_32 ?_
    obtain ⟨v3, ev3, h⟩ := sg_lte h
    refine sg_topi ev3 ?_
    refine lv_istore (lv' := [(5, .int v3), (4, .ref a2), (0, .ref (b + 1)), (1, .ref x1), (2, .int x2), (3, .int x3)]) hx hb dX4_takeFields_33 hl (by decide) rfl (fun ls hl => ?_)
    refine lv_aload hx hb dX4_takeFields_35 (lv_at hl 1 rfl) ?_
    obtain ⟨r4, er4, h⟩ := Option.bind_eq_some_iff.mp h
    refine va_calli (va_runV (As := []) (rest := []) ⟨hx, hb, hml, hown, hts⟩ (c_X1_isSimple l D κ b σ a2 _ ha2 er4) (cwV 0 hts (gwV wt_354 wt_355 wt_356 wt_7 wt_357) rfl rfl rfl (by decide +kernel) ⟨Nat.le_of_ble_eq_true rfl, Nat.le_of_ble_eq_true rfl⟩) (CW_preV hK hC (sg_gField ha2) rfl) rfl rfl hl.1 rfl (lv_room (Nat.le_of_ble_eq_true rfl)) dX4_takeFields_37 ⟨Nat.zero_le _, Nat.zero_le _⟩) hS (fun _ _ h => h) (fun _ h => h) (fun r u t H locs ht _ hp hB _ _ hS => ?_)
    refine sg_topi hp.1 ?_
    have hC : CW D κ b σ H := CW_b hB ht hp.2
    refine lv_if_eq (tgt := 55) hx hb dX4_takeFields_40 (by decide) (fun hc => ?_) (fun hc => ?_)
    · replace h := (if_pos hc).symm.trans h
      refine lv_aload_n hx hb dX4_takeFields_55 rfl (lv_at hl 2 rfl) ?_
      refine lv_aload hx hb dX4_takeFields_56 (lv_at hl 1 rfl) ?_
      refine lv_iload_n hx hb dX4_takeFields_58 rfl (lv_at hl 4 rfl) ?_
      refine lv_iload hx hb dX4_takeFields_59 (lv_at hl 0 rfl) ?_
      obtain ⟨r5, er5, h⟩ := Option.bind_eq_some_iff.mp h
      refine va_calli (va_runV (As := [.ref a2, .int x2, .int v3]) (rest := []) ⟨hx, hb, hml, hown, hts⟩ (c_X4_takeDivided l D κ b σ a2 x2 v3 _ ha2 er5) (cwV 3 hts (gwV wt_410 wt_412 wp_13 wt_2 wt_413) rfl rfl rfl (by decide +kernel) ⟨Nat.le_of_ble_eq_true rfl, Nat.le_of_ble_eq_true rfl⟩) (CW_preV hK hC sg_gReader rfl) rfl rfl hl.1 rfl (lv_room (Nat.le_of_ble_eq_true rfl)) dX4_takeFields_61 ⟨Nat.zero_le _, Nat.zero_le _⟩) hS (fun _ _ h => h) (fun _ h => h) (fun r u t H locs ht _ hp hB _ _ hS => ?_)
      refine sg_topi hp.1 ?_
      have hC : CW D κ b r5.2 H := CW_b hB ht hp.2
      exact w_X4_takeFields_B64 ⟨hx, hb, hml, hown, hts, hK⟩ hret hr7 h hx1 (lv_sub hl [2, 3, 5, 0] rfl) hC hS
    · replace h := (if_neg hc).symm.trans h
      refine lv_aload_n hx hb dX4_takeFields_43 rfl (lv_at hl 2 rfl) ?_
      refine lv_aload hx hb dX4_takeFields_44 (lv_at hl 1 rfl) ?_
      refine lv_iload_n hx hb dX4_takeFields_46 rfl (lv_at hl 4 rfl) ?_
      refine lv_iload hx hb dX4_takeFields_47 (lv_at hl 0 rfl) ?_
      obtain ⟨r6, er6, h⟩ := Option.bind_eq_some_iff.mp h
      refine va_calli (va_runV (As := [.ref a2, .int x2, .int v3]) (rest := []) ⟨hx, hb, hml, hown, hts⟩ (c_X4_takeSimple l D κ b σ a2 x2 v3 _ ha2 er6) (cwV 3 hts (gwV wt_366 wt_368 wp_10 wt_2 wt_369) rfl rfl rfl (by decide +kernel) ⟨Nat.le_of_ble_eq_true rfl, Nat.le_of_ble_eq_true rfl⟩) (CW_preV hK hC sg_gReader rfl) rfl rfl hl.1 rfl (lv_room (Nat.le_of_ble_eq_true rfl)) dX4_takeFields_49 ⟨Nat.zero_le _, Nat.zero_le _⟩) hS (fun _ _ h => h) (fun _ h => h) (fun r u t H locs ht _ hp hB _ _ hS => ?_)
      refine sg_topi hp.1 ?_
      have hC : CW D κ b r6.2 H := CW_b hB ht hp.2
      refine lv_goto (tgt := 64) hx hb dX4_takeFields_52 (by decide) ?_
      exact w_X4_takeFields_B64 ⟨hx, hb, hml, hown, hts, hK⟩ hret hr7 h hx1 (lv_sub hl [2, 3, 5, 0] rfl) hC hS
set_option maxHeartbeats 4000000 in
theorem w_X4_takeFields_B7 {p : Program} {l : Launch} {e : Env} {s : State} {m : MethodId} {args : Array Value} {below : List Frame} {meth : Method} {c : Code} {Q : State → Prop} {D : va_G} {κ : Nat → ClassId} {b : Nat} {H0 : Heap} {rr : Int32 × Sg} (hZ : sg_Z p c s m args D κ cX4_takeFields 7 RX4 wsX4_takeFields) (hret : ∀ (v : Int32) (u : Sg) (H : Heap) (locs : List Loc) (pc : Nat) (ls : Array Slot), some (v, u) = some rr → narrow .boolean (.int v) = .int v → CW D κ b u H → va_S (sg_A b 892) H0 H locs → decode cX4_takeFields pc = .ok (.ireturn, 1) → W p l e rm_X4_takeFields s m args below meth c H locs 0 0 Q (F0 m pc ls [.int v])) : ∀ n : Nat, ∀ {σ : Sg} {x1 : Nat} {x2 : Int32} {x3 : Int32} {H : Heap} {locs : List Loc} {ls : Array Slot}, fn_X4_takeFields_B7 b n σ x1 x2 x3 = some rr → is_Card b x1 → lv_has ls 7 [(0, .ref (b + 1)), (1, .ref x1), (2, .int x2), (3, .int x3)] → CW D κ b σ H → va_S (sg_A b 892) H0 H locs → W p l e rm_X4_takeFields s m args below meth c H locs 0 0 Q (F0 m 7 ls []) := by
  intro n
  induction n with
  | zero => intro σ x1 x2 x3 H locs ls h hx1 hl hC hS; cases (show (none : Option (Int32 × Sg)) = some rr from h)
  | succ n ih =>
    intro σ x1 x2 x3 H locs ls h hx1 hl hC hS
    exact w_X4_takeFields_B7b hZ hret ih (show fn_X4_takeFields_B7b b (fn_X4_takeFields_B7 b n) σ x1 x2 x3 = some rr from h) hx1 hl hC hS
def fn_X4_takeFields (b : Nat) (σ : Sg) (x1 : Nat) : Option (Int32 × Sg) :=
  (sg_lt ((σ.1 (b + 1) 2) : Int32) fun v1 =>
  fn_X4_takeFields_B7 b sg_N σ x1 v1 0)
set_option maxHeartbeats 4000000 in
set_option maxRecDepth 100000 in
theorem w_X4_takeFields_B0 {p : Program} {l : Launch} {e : Env} {s : State} {m : MethodId} {args : Array Value} {below : List Frame} {meth : Method} {c : Code} {Q : State → Prop} {D : va_G} {κ : Nat → ClassId} {b : Nat} {H0 : Heap} {rr : Int32 × Sg} (hZ : sg_Z p c s m args D κ cX4_takeFields 7 RX4 wsX4_takeFields) (hret : ∀ (v : Int32) (u : Sg) (H : Heap) (locs : List Loc) (pc : Nat) (ls : Array Slot), some (v, u) = some rr → narrow .boolean (.int v) = .int v → CW D κ b u H → va_S (sg_A b 892) H0 H locs → decode cX4_takeFields pc = .ok (.ireturn, 1) → W p l e rm_X4_takeFields s m args below meth c H locs 0 0 Q (F0 m pc ls [.int v])) : ∀ {σ : Sg} {x1 : Nat} {H : Heap} {locs : List Loc} {ls : Array Slot}, fn_X4_takeFields b σ x1 = some rr → is_Card b x1 → lv_has ls 7 [(0, .ref (b + 1)), (1, .ref x1)] → CW D κ b σ H → va_S (sg_A b 892) H0 H locs → W p l e rm_X4_takeFields s m args below meth c H locs 0 0 Q (F0 m 0 ls []) := by
  obtain ⟨hx, hb, hml, hown, hts, hK⟩ := hZ
  intro σ x1 H locs ls h hx1 hl hC hS
  unfold fn_X4_takeFields at h
  refine lv_aload_n hx hb dX4_takeFields_0 rfl (lv_at hl 0 rfl) ?_
  refine va_get (D := D) (ci := 4) (v := .int (σ.1 (b + 1) 2)) (C := RX4) (T := TX4) (N := 8) hx hb hts (wqs inW_X4) hown hK.1 hC.1 ((b + 1) - b) sg_gReader rfl 2 (by decide) (hts _ (wq wt_50)) (fun _ h9 => h9) rfl dX4_takeFields_1 ?_
  obtain ⟨v1, ev1, h⟩ := sg_lte h
  refine sg_topi ev1 ?_
  refine lv_istore_n (lv' := [(2, .int v1), (0, .ref (b + 1)), (1, .ref x1)]) hx hb dX4_takeFields_4 rfl hl (by decide) rfl (fun ls hl => ?_)
  refine lv_iconst (v := 0) hx hb dX4_takeFields_5 (by decide) ?_
  refine lv_istore_n (lv' := [(3, .int 0), (2, .int v1), (0, .ref (b + 1)), (1, .ref x1)]) hx hb dX4_takeFields_6 rfl hl (by decide) rfl (fun ls hl => ?_)
  exact w_X4_takeFields_B7 ⟨hx, hb, hml, hown, hts, hK⟩ hret  sg_N h hx1 (lv_sub hl [2, 3, 1, 0] rfl) hC hS
set_option maxHeartbeats 4000000 in
set_option maxRecDepth 100000 in
theorem c_X4_takeFields (l : Launch) (D : va_G) (κ : Nat → ClassId) (b : Nat) (σ : Sg) (x1 : Nat) (rr : Int32 × Sg) (hx1 : is_Card b x1) (h : fn_X4_takeFields b σ x1 = some rr) : Met l yX4_takeFields wsX4_takeFields rm_X4_takeFields (va_Pc [.ref (b + 1), .ref x1] (fun U => KK D κ U ∧ CW D κ b σ U.heap)) (va_Qi (fun (r : Int32) (u : Sg) => r = rr.1 ∧ u = rr.2) (fun u t => CW D κ b u t.heap) (sg_A b 892)) 0 0 (sg_A b 892) := by
  refine Met.ofW (cc := cX4_takeFields) (maxL := 7) (ret := (some .boolean)) (by decide) rfl ?_
  intro p e s m args below meth c s₁ B hml hv
  obtain ⟨rfl, hK, hC⟩ := hv
  have hr := B.returns
  have hlocks := B.notSynchronized
  have hl := lv_entry ([.ref (b + 1), .ref x1]) (n := 7) (Nat.le_of_ble_eq_true rfl)
  rw [lg_entry_eq]
  generalize (lg_sl ([.ref (b + 1), .ref x1]) ++ List.replicate (7 - (lg_sl ([.ref (b + 1), .ref x1])).length) Slot.unset).toArray = ls at hl ⊢
  have hl : lv_has ls 7 [(0, .ref (b + 1)), (1, .ref x1)] := hl
  exact w_X4_takeFields_B0 ⟨B.exec, B.bytes, hml, findClass_of_methodNamed B.named, atoms_spec (ws := wsX4_takeFields) B.pre, hK⟩ (fun v u H locs pc ls hq hbo hC hS hd => W.zret B.exec B.bytes hr hbo (fun t ht hW => ⟨⟨v, _, rfl, ⟨congrArg Prod.fst (Option.some.inj hq), congrArg Prod.snd (Option.some.inj hq)⟩, CW_e ht hC⟩, hS.F ht⟩) hS.2.2 hd) h hx1 hl hC va_S.rf
