/-- the letters of the constant -/
def sg_nam (j : Nat) : Int32 := ([110, 97, 109, 32, 97, 32, 32, 32] : List Int32).getD j 0
theorem sg_nam_c : ∀ j, j < 8 → sg_c (sg_nam j &&& 255) = sg_nam j := by decide
/-- the String constant of a fresh record's letters, and the two statics that reading it asks for -/
theorem sg_cc (x : Int32) : sg_c (sg_c x) = sg_c x := by
  show ((sg_c x).toUInt32 % 65536).toInt32 = sg_c x
  rw [pk_char, show sg_c x = nI (x.toBitVec.toNat % 65536) from pk_char x, pk_tn (by omega), Nat.mod_mod]
def SS (b q v : Nat) (U : State) (H : Heap) : Prop := vk_R "RecordShelf$Card" 26 "nam a   " q U ∧ va_O "java/lang/String" q (sg_A b 892) U H ∧ va_OF "java/lang/String" "coder" "B" (.int 0) q (sg_A b 892) U H ∧ va_OF "java/lang/String" "value" "[B" (.ref v) q (sg_A b 892) U H ∧ va_T .byte v 8 (fun j => .int (sg_nam j)) (sg_A b 892) U H ∧ va_Z "java/lang/String" "COMPACT_STRINGS" "Z" (.int 1) (sg_A b 892) U H ∧ va_Zq "jdk/internal/util/Preconditions" "SIOOBE_FORMATTER" "Ljava/util/function/BiFunction;" (sg_A b 892) U H
theorem SS.go {b q v : Nat} {s U : State} {H : Heap} {locs : List Loc} (h : SS b q v s s.heap) (hS : va_S (sg_A b 892) s.heap H locs) (hW : s.WarmedH U.vm) (hU : U.heap = H) : SS b q v U U.heap := by
  rw [hU]
  have hk := hS.2.1
  exact ⟨h.1.warm hW, va_O.moved hW.alike (h.2.1.kept hk), va_OF.moved hW.alike (h.2.2.1.kept hk), va_OF.moved hW.alike (h.2.2.2.1.kept hk), va_T.moved hW.alike (h.2.2.2.2.1.kept hk), va_Z.moved hW.alike (h.2.2.2.2.2.1.kept hk), va_Zq.moved hW.alike (h.2.2.2.2.2.2.kept hk)⟩
theorem SS.call {b q v : Nat} {U : State} {g : JFrame} {mk : MethodId} {a : Array Value} (h : SS b q v U U.heap) : SS b q v (U.calling g mk a) (U.calling g mk a).heap :=
  ⟨vk_R.same (u := U) rfl h.1, va_O.moved (u := U) (Vm.Alike.refl U.vm) h.2.1, va_OF.moved (u := U) (Vm.Alike.refl U.vm) h.2.2.1, va_OF.moved (u := U) (Vm.Alike.refl U.vm) h.2.2.2.1, va_T.moved (u := U) (Vm.Alike.refl U.vm) h.2.2.2.2.1, va_Z.moved (u := U) (Vm.Alike.refl U.vm) h.2.2.2.2.2.1, va_Zq.moved (u := U) (Vm.Alike.refl U.vm) h.2.2.2.2.2.2⟩
section SSp
variable {D : va_G} {κ : Nat → ClassId} {b q v : Nat} {σ : Sg} {H : Heap} {s : State} {locs : List Loc}
theorem SS_preS (hC : CW D κ b σ H) (hV : SS b q v s s.heap) (hS : va_S (sg_A b 892) s.heap H locs) {As : List Value} : PreS s H (va_Pc As (fun U => CW D κ b σ U.heap ∧ SS b q v U U.heap)) As :=
  ⟨fun a U g mk z => ⟨z.1, z.2.1, z.2.2.call⟩, fun U hU hW => ⟨rfl, by rw [hU]; exact hC, hV.go hS hW hU⟩⟩
theorem SS_preV (hC : CW D κ b σ H) (hV : SS b q v s s.heap) (hS : va_S (sg_A b 892) s.heap H locs) {As : List Value} : PreV s H "java/lang/String" q (va_Pc (.ref q :: As) (fun U => CW D κ b σ U.heap ∧ SS b q v U U.heap)) As :=
  ⟨fun a U g mk z => ⟨z.1, z.2.1, z.2.2.call⟩, by
    obtain ⟨cell, h1, h2, h3, -⟩ := hV.2.1.kept hS.2.1
    exact ⟨cell, h1, h2, h3⟩, fun U hU hW => ⟨rfl, by rw [hU]; exact hC, hV.go hS hW hU⟩⟩
theorem CWS_preV (hK : KK D κ s) (hC : CW D κ b σ H) (hV : SS b q v s s.heap) (hS : va_S (sg_A b 892) s.heap H locs) {As : List Value} {a z ci : Nat} {fs : List Value} {r : vw_C} (hg : (sg_L 892 (lyC κ b) b σ)[z]? = some (a, .inr (ci, fs))) (hc : vwCl[ci]? = some r) : PreV s H r.1 a (va_Pc (.ref a :: As) (fun U => KK D κ U ∧ CW D κ b σ U.heap ∧ SS b q v U U.heap)) As :=
  ⟨fun a U g mk z => ⟨z.1, z.2.1.call, z.2.2.1, z.2.2.2.call⟩, va_recv hK.1 hC.1 hc hg, fun U hU hW => ⟨rfl, hK.warm hW, by rw [hU]; exact hC, hV.go hS hW hU⟩⟩
end SSp
abbrev cJ_pc : ByteArray := prog_16_method_11_code
def yJ_pc : MethodName := ⟨"jdk/internal/util/Preconditions", "checkIndex", "(IILjava/util/function/BiFunction;)I"⟩
def wsJ_pc : List Cond := .code yJ_pc cJ_pc 3 (some .int) :: WA
theorem dJ_pc_0 : decode cJ_pc 0 = .ok (.iload_n 0, 1) := by decide +kernel
theorem dJ_pc_1 : decode cJ_pc 1 = .ok (.ifCond .lt 8, 3) := by decide +kernel
theorem dJ_pc_4 : decode cJ_pc 4 = .ok (.iload_n 0, 1) := by decide +kernel
theorem dJ_pc_5 : decode cJ_pc 5 = .ok (.iload_n 1, 1) := by decide +kernel
theorem dJ_pc_6 : decode cJ_pc 6 = .ok (.if_icmp .lt 10, 3) := by decide +kernel
theorem dJ_pc_16 : decode cJ_pc 16 = .ok (.iload_n 0, 1) := by decide +kernel
theorem dJ_pc_17 : decode cJ_pc 17 = .ok (.ireturn, 1) := by decide +kernel
abbrev cJ_ci : ByteArray := prog_12_method_155_code
def yJ_ci : MethodName := ⟨"java/lang/String", "checkIndex", "(II)V"⟩
def wsJ_ci : List Cond := .code yJ_ci cJ_ci 2 none :: WA
theorem dJ_ci_0 : decode cJ_ci 0 = .ok (.iload_n 0, 1) := by decide +kernel
theorem dJ_ci_1 : decode cJ_ci 1 = .ok (.iload_n 1, 1) := by decide +kernel
theorem dJ_ci_2 : decode cJ_ci 2 = .ok (.getstatic 1053, 3) := by decide +kernel
theorem dJ_ci_5 : decode cJ_ci 5 = .ok (.invokestatic 1059, 3) := by decide +kernel
theorem dJ_ci_8 : decode cJ_ci 8 = .ok (.pop, 1) := by decide +kernel
theorem dJ_ci_9 : decode cJ_ci 9 = .ok (.return_, 1) := by decide +kernel
abbrev cJ_lc : ByteArray := prog_13_method_2_code
def yJ_lc : MethodName := ⟨"java/lang/StringLatin1", "charAt", "([BI)C"⟩
def wsJ_lc : List Cond := .code yJ_lc cJ_lc 2 (some .char) :: WA
theorem dJ_lc_0 : decode cJ_lc 0 = .ok (.iload_n 1, 1) := by decide +kernel
theorem dJ_lc_1 : decode cJ_lc 1 = .ok (.aload_n 0, 1) := by decide +kernel
theorem dJ_lc_2 : decode cJ_lc 2 = .ok (.arraylength, 1) := by decide +kernel
theorem dJ_lc_3 : decode cJ_lc 3 = .ok (.invokestatic 9, 3) := by decide +kernel
theorem dJ_lc_6 : decode cJ_lc 6 = .ok (.aload_n 0, 1) := by decide +kernel
theorem dJ_lc_7 : decode cJ_lc 7 = .ok (.iload_n 1, 1) := by decide +kernel
theorem dJ_lc_8 : decode cJ_lc 8 = .ok (.baload, 1) := by decide +kernel
theorem dJ_lc_9 : decode cJ_lc 9 = .ok (.sipush 255, 3) := by decide +kernel
theorem dJ_lc_12 : decode cJ_lc 12 = .ok (.iand, 1) := by decide +kernel
theorem dJ_lc_13 : decode cJ_lc 13 = .ok (.i2c, 1) := by decide +kernel
theorem dJ_lc_14 : decode cJ_lc 14 = .ok (.ireturn, 1) := by decide +kernel
abbrev cJ_il : ByteArray := prog_12_method_154_code
def yJ_il : MethodName := ⟨"java/lang/String", "isLatin1", "()Z"⟩
def wsJ_il : List Cond := .code yJ_il cJ_il 1 (some .boolean) :: WA
theorem dJ_il_0 : decode cJ_il 0 = .ok (.getstatic 38, 3) := by decide +kernel
theorem dJ_il_3 : decode cJ_il 3 = .ok (.ifCond .eq 14, 3) := by decide +kernel
theorem dJ_il_6 : decode cJ_il 6 = .ok (.aload_n 0, 1) := by decide +kernel
theorem dJ_il_7 : decode cJ_il 7 = .ok (.getfield 15, 3) := by decide +kernel
theorem dJ_il_10 : decode cJ_il 10 = .ok (.ifCond .ne 7, 3) := by decide +kernel
theorem dJ_il_13 : decode cJ_il 13 = .ok (.iconst 1, 1) := by decide +kernel
theorem dJ_il_14 : decode cJ_il 14 = .ok (.goto 4, 3) := by decide +kernel
theorem dJ_il_18 : decode cJ_il 18 = .ok (.ireturn, 1) := by decide +kernel
abbrev cJ_ca : ByteArray := prog_12_method_56_code
def yJ_ca : MethodName := ⟨"java/lang/String", "charAt", "(I)C"⟩
def wsJ_ca : List Cond := .code yJ_ca cJ_ca 2 (some .char) :: WA
theorem dJ_ca_0 : decode cJ_ca 0 = .ok (.aload_n 0, 1) := by decide +kernel
theorem dJ_ca_1 : decode cJ_ca 1 = .ok (.invokevirtual 492, 3) := by decide +kernel
theorem dJ_ca_4 : decode cJ_ca 4 = .ok (.ifCond .eq 12, 3) := by decide +kernel
theorem dJ_ca_7 : decode cJ_ca 7 = .ok (.aload_n 0, 1) := by decide +kernel
theorem dJ_ca_8 : decode cJ_ca 8 = .ok (.getfield 9, 3) := by decide +kernel
theorem dJ_ca_11 : decode cJ_ca 11 = .ok (.iload_n 1, 1) := by decide +kernel
theorem dJ_ca_12 : decode cJ_ca 12 = .ok (.invokestatic 495, 3) := by decide +kernel
theorem dJ_ca_15 : decode cJ_ca 15 = .ok (.ireturn, 1) := by decide +kernel
def rmJ_pc : Room := { frames := 0, cells := 0, slots := 0, locals := 0 }
def rmJ_ci : Room := { frames := 1, cells := 0, slots := 0, locals := 22 }
def rmJ_lc : Room := { frames := 2, cells := 0, slots := 0, locals := 43 }
def rmJ_il : Room := { frames := 0, cells := 0, slots := 0, locals := 0 }
def rmJ_ca : Room := { frames := 3, cells := 0, slots := 0, locals := 64 }
set_option maxHeartbeats 4000000 in
set_option maxRecDepth 100000 in
theorem kJ_ckn (l : Launch) (D : va_G) (κ : Nat → ClassId) (b : Nat) (σ : Sg) (q v : Nat) (i n : Int32)  (h0 : ¬ i < 0) (h1 : i < n) : Met l yJ_pc wsJ_pc rmJ_pc (va_Pc [.int i, .int n, .null] (fun U => CW D κ b σ U.heap ∧ SS b q v U U.heap)) (va_Qi (fun (r : Int32) (u : Sg) => r = i ∧ u = σ) (fun u t => CW D κ b u t.heap) (sg_A b 892)) 0 0 (sg_A b 892) := by
  refine Met.ofW (cc := cJ_pc) (maxL := 3) (ret := (some .int)) (by decide) rfl ?_
  intro p e s m args below meth c s₁ B hml hv
  obtain ⟨rfl, hC, hV⟩ := hv
  have hx := B.exec
  have hb := B.bytes
  have hr := B.returns
  have hts := atoms_spec (ws := wsJ_pc) B.pre
  have hown : s.vm.findClass "jdk/internal/util/Preconditions" = some m.cls := findClass_of_methodNamed B.named
  have hlocks := B.notSynchronized
  have hS : va_S (sg_A b 892) s.heap s.heap [] := va_S.rf
  have hl := lv_entry ([.int i, .int n, .null]) (n := 3) (Nat.le_of_ble_eq_true rfl)
  rw [lg_entry_eq]
  generalize (lg_sl ([.int i, .int n, .null]) ++ List.replicate (3 - (lg_sl ([.int i, .int n, .null])).length) Slot.unset).toArray = ls at hl ⊢
  have hl : lv_has ls 3 [(0, .int i), (1, .int n), (2, .null)] := hl
  refine lv_iload_n hx hb dJ_pc_0 rfl (lv_at hl 0 rfl) ?_
  refine lv_if_lt (tgt := 9) hx hb dJ_pc_1 (by decide) (fun hc => absurd hc h0) (fun _ => ?_)
  refine lv_iload_n hx hb dJ_pc_4 rfl (lv_at hl 0 rfl) ?_
  refine lv_iload_n hx hb dJ_pc_5 rfl (lv_at hl 1 rfl) ?_
  refine lv_icmp_lt (tgt := 16) hx hb dJ_pc_6 (by decide) (fun _ => ?_) (fun hc => absurd h1 hc)
  refine lv_iload_n hx hb dJ_pc_16 rfl (lv_at hl 0 rfl) ?_
  exact W.iret hx hb hr (fun t ht hW => ⟨⟨i, σ, rfl, ⟨rfl, rfl⟩, CW_e ht hC⟩, hS.F ht⟩) hS.2.2 dJ_pc_17
set_option maxHeartbeats 4000000 in
set_option maxRecDepth 100000 in
theorem kJ_ckr (l : Launch) (D : va_G) (κ : Nat → ClassId) (b : Nat) (σ : Sg) (q v : Nat) (i n : Int32) (w0 : Nat) (h0 : ¬ i < 0) (h1 : i < n) : Met l yJ_pc wsJ_pc rmJ_pc (va_Pc [.int i, .int n, .ref w0] (fun U => CW D κ b σ U.heap ∧ SS b q v U U.heap)) (va_Qi (fun (r : Int32) (u : Sg) => r = i ∧ u = σ) (fun u t => CW D κ b u t.heap) (sg_A b 892)) 0 0 (sg_A b 892) := by
  refine Met.ofW (cc := cJ_pc) (maxL := 3) (ret := (some .int)) (by decide) rfl ?_
  intro p e s m args below meth c s₁ B hml hv
  obtain ⟨rfl, hC, hV⟩ := hv
  have hx := B.exec
  have hb := B.bytes
  have hr := B.returns
  have hts := atoms_spec (ws := wsJ_pc) B.pre
  have hown : s.vm.findClass "jdk/internal/util/Preconditions" = some m.cls := findClass_of_methodNamed B.named
  have hlocks := B.notSynchronized
  have hS : va_S (sg_A b 892) s.heap s.heap [] := va_S.rf
  have hl := lv_entry ([.int i, .int n, .ref w0]) (n := 3) (Nat.le_of_ble_eq_true rfl)
  rw [lg_entry_eq]
  generalize (lg_sl ([.int i, .int n, .ref w0]) ++ List.replicate (3 - (lg_sl ([.int i, .int n, .ref w0])).length) Slot.unset).toArray = ls at hl ⊢
  have hl : lv_has ls 3 [(0, .int i), (1, .int n), (2, .ref w0)] := hl
  refine lv_iload_n hx hb dJ_pc_0 rfl (lv_at hl 0 rfl) ?_
  refine lv_if_lt (tgt := 9) hx hb dJ_pc_1 (by decide) (fun hc => absurd hc h0) (fun _ => ?_)
  refine lv_iload_n hx hb dJ_pc_4 rfl (lv_at hl 0 rfl) ?_
  refine lv_iload_n hx hb dJ_pc_5 rfl (lv_at hl 1 rfl) ?_
  refine lv_icmp_lt (tgt := 16) hx hb dJ_pc_6 (by decide) (fun _ => ?_) (fun hc => absurd h1 hc)
  refine lv_iload_n hx hb dJ_pc_16 rfl (lv_at hl 0 rfl) ?_
  exact W.iret hx hb hr (fun t ht hW => ⟨⟨i, σ, rfl, ⟨rfl, rfl⟩, CW_e ht hC⟩, hS.F ht⟩) hS.2.2 dJ_pc_17
set_option maxHeartbeats 4000000 in
set_option maxRecDepth 100000 in
theorem kJ_ci (l : Launch) (D : va_G) (κ : Nat → ClassId) (b : Nat) (σ : Sg) (q v : Nat) (i n : Int32) (h0 : ¬ i < 0) (h1 : i < n) : Met l yJ_ci wsJ_ci rmJ_ci (va_Pc [.int i, .int n] (fun U => CW D κ b σ U.heap ∧ SS b q v U U.heap)) (va_Qv (fun u : Sg => u = σ) (fun u t => CW D κ b u t.heap) (sg_A b 892)) 0 0 (sg_A b 892) := by
  refine Met.ofW (cc := cJ_ci) (maxL := 2) (ret := none) (by decide) rfl ?_
  intro p e s m args below meth c s₁ B hml hv
  obtain ⟨rfl, hC, hV⟩ := hv
  have hx := B.exec
  have hb := B.bytes
  have hr := B.returns
  have hts := atoms_spec (ws := wsJ_ci) B.pre
  have hown : s.vm.findClass "java/lang/String" = some m.cls := findClass_of_methodNamed B.named
  have hlocks := B.notSynchronized
  have hS : va_S (sg_A b 892) s.heap s.heap [] := va_S.rf
  have hl := lv_entry ([.int i, .int n]) (n := 2) (Nat.le_of_ble_eq_true rfl)
  rw [lg_entry_eq]
  generalize (lg_sl ([.int i, .int n]) ++ List.replicate (2 - (lg_sl ([.int i, .int n])).length) Slot.unset).toArray = ls at hl ⊢
  have hl : lv_has ls 2 [(0, .int i), (1, .int n)] := hl
  refine lv_iload_n hx hb dJ_ci_0 rfl (lv_at hl 0 rfl) ?_
  refine lv_iload_n hx hb dJ_ci_1 rfl (lv_at hl 1 rfl) ?_
  rcases hV.2.2.2.2.2.2 with hZ | ⟨w0, hZ⟩
  · refine va_gets hx hb hZ hS hown (hts _ (wq wt_280)) (fun _ h9 => h9) dJ_ci_2 ?_
    refine va_calli (va_runS (As := [.int i, .int n, .null]) (rest := []) ⟨hx, hb, hml, hown, hts⟩ (kJ_ckn l D κ b σ q v i n  h0 h1) (va_cwS 3 hts (gwS wt_282 wt_283 wt_13 wt_284) rfl rfl rfl (by decide +kernel) ⟨Nat.le_of_ble_eq_true rfl, Nat.le_of_ble_eq_true rfl⟩) (SS_preS hC hV hS) rfl rfl hl.1 rfl (lv_room (Nat.le_of_ble_eq_true rfl)) dJ_ci_5 ⟨Nat.zero_le _, Nat.zero_le _⟩) hS (fun _ _ h => h) (fun _ h => h) (fun r u t H locs ht _ hp hB _ _ hS => ?_)
    have hC : CW D κ b σ H := CW_b hB ht hp.2
    refine lv_pop hx hb dJ_ci_8 rfl ?_
    exact W.vret hx hb hr (fun t ht hW => ⟨⟨σ, rfl, rfl, CW_e ht hC⟩, hS.F ht⟩) hS.2.2 dJ_ci_9
  · refine va_gets hx hb hZ hS hown (hts _ (wq wt_280)) (fun _ h9 => h9) dJ_ci_2 ?_
    refine va_calli (va_runS (As := [.int i, .int n, .ref w0]) (rest := []) ⟨hx, hb, hml, hown, hts⟩ (kJ_ckr l D κ b σ q v i n w0 h0 h1) (va_cwS 3 hts (gwS wt_282 wt_283 wt_13 wt_284) rfl rfl rfl (by decide +kernel) ⟨Nat.le_of_ble_eq_true rfl, Nat.le_of_ble_eq_true rfl⟩) (SS_preS hC hV hS) rfl rfl hl.1 rfl (lv_room (Nat.le_of_ble_eq_true rfl)) dJ_ci_5 ⟨Nat.zero_le _, Nat.zero_le _⟩) hS (fun _ _ h => h) (fun _ h => h) (fun r u t H locs ht _ hp hB _ _ hS => ?_)
    have hC : CW D κ b σ H := CW_b hB ht hp.2
    refine lv_pop hx hb dJ_ci_8 rfl ?_
    exact W.vret hx hb hr (fun t ht hW => ⟨⟨σ, rfl, rfl, CW_e ht hC⟩, hS.F ht⟩) hS.2.2 dJ_ci_9

set_option maxHeartbeats 4000000 in
set_option maxRecDepth 100000 in
theorem kJ_lc (l : Launch) (D : va_G) (κ : Nat → ClassId) (b : Nat) (σ : Sg) (q v : Nat) (i : Int32) (hi : sg_ib i 8) : Met l yJ_lc wsJ_lc rmJ_lc (va_Pc [.ref v, .int i] (fun U => CW D κ b σ U.heap ∧ SS b q v U U.heap)) (va_Qi (fun (r : Int32) (u : Sg) => r = sg_nam (sg_x i) ∧ u = σ) (fun u t => CW D κ b u t.heap) (sg_A b 892)) 0 0 (sg_A b 892) := by
  refine Met.ofW (cc := cJ_lc) (maxL := 2) (ret := (some .char)) (by decide) rfl ?_
  intro p e s m args below meth c s₁ B hml hv
  obtain ⟨rfl, hC, hV⟩ := hv
  have hx := B.exec
  have hb := B.bytes
  have hr := B.returns
  have hts := atoms_spec (ws := wsJ_lc) B.pre
  have hown : s.vm.findClass "java/lang/StringLatin1" = some m.cls := findClass_of_methodNamed B.named
  have hlocks := B.notSynchronized
  have hS : va_S (sg_A b 892) s.heap s.heap [] := va_S.rf
  have hl := lv_entry ([.ref v, .int i]) (n := 2) (Nat.le_of_ble_eq_true rfl)
  rw [lg_entry_eq]
  generalize (lg_sl ([.ref v, .int i]) ++ List.replicate (2 - (lg_sl ([.ref v, .int i])).length) Slot.unset).toArray = ls at hl ⊢
  have hl : lv_has ls 2 [(0, .ref v), (1, .int i)] := hl
  have hlt : i < 8 := by
    obtain ⟨j, hj, rfl⟩ := nI_of hi.1
    exact nI_lt (by have := hi.2; rw [nI_clamp hj] at this; exact this) (by decide)
  refine lv_iload_n hx hb dJ_lc_0 rfl (lv_at hl 1 rfl) ?_
  refine lv_aload_n hx hb dJ_lc_1 rfl (lv_at hl 0 rfl) ?_
  refine va_tlen (v := 8) hx hb hV.2.2.2.2.1 hS rfl dJ_lc_2 ?_
  refine va_callv (va_runS (As := [.int i, .int 8]) (rest := []) ⟨hx, hb, hml, hown, hts⟩ (kJ_ci l D κ b σ q v i 8 hi.1 hlt) (va_cwS 2 hts (gwS wt_277 wt_278 wt_11 wt_279) rfl rfl rfl (by decide +kernel) ⟨Nat.le_of_ble_eq_true rfl, Nat.le_of_ble_eq_true rfl⟩) (SS_preS hC hV hS) rfl rfl hl.1 rfl (lv_room (Nat.le_of_ble_eq_true rfl)) dJ_lc_3 ⟨Nat.zero_le _, Nat.zero_le _⟩) hS (fun _ _ h => h) (fun _ h => h) (fun u t H locs ht _ hp hB _ _ hS => ?_)
  have hC : CW D κ b σ H := CW_b hB ht hp
  refine lv_aload_n hx hb dJ_lc_6 rfl (lv_at hl 0 rfl) ?_
  refine lv_iload_n hx hb dJ_lc_7 rfl (lv_at hl 1 rfl) ?_
  refine va_tb (v := .int (sg_nam (sg_x i))) hx hb hV.2.2.2.2.1 hS (sg_in hi) rfl dJ_lc_8 ?_
  refine lv_sipush (v := 255) hx hb dJ_lc_9 (by decide) ?_
  refine lv_iand hx hb dJ_lc_12 ?_
  refine lv_i2c (v := sg_nam (sg_x i)) hx hb dJ_lc_13 (sg_nam_c _ hi.2) ?_
  exact W.zret hx hb hr (sg_cn (show sg_c (sg_nam (sg_x i)) = sg_nam (sg_x i) by rw [← sg_nam_c _ hi.2]; exact sg_cc _)) (fun t ht hW => ⟨⟨_, σ, rfl, ⟨rfl, rfl⟩, CW_e ht hC⟩, hS.F ht⟩) hS.2.2 dJ_lc_14
set_option maxHeartbeats 4000000 in
set_option maxRecDepth 100000 in
theorem kJ_il (l : Launch) (D : va_G) (κ : Nat → ClassId) (b : Nat) (σ : Sg) (q v : Nat)  : Met l yJ_il wsJ_il rmJ_il (va_Pc [.ref q] (fun U => CW D κ b σ U.heap ∧ SS b q v U U.heap)) (va_Qi (fun (r : Int32) (u : Sg) => r = 1 ∧ u = σ) (fun u t => CW D κ b u t.heap) (sg_A b 892)) 0 0 (sg_A b 892) := by
  refine Met.ofW (cc := cJ_il) (maxL := 1) (ret := (some .boolean)) (by decide) rfl ?_
  intro p e s m args below meth c s₁ B hml hv
  obtain ⟨rfl, hC, hV⟩ := hv
  have hx := B.exec
  have hb := B.bytes
  have hr := B.returns
  have hts := atoms_spec (ws := wsJ_il) B.pre
  have hown : s.vm.findClass "java/lang/String" = some m.cls := findClass_of_methodNamed B.named
  have hlocks := B.notSynchronized
  have hS : va_S (sg_A b 892) s.heap s.heap [] := va_S.rf
  have hl := lv_entry ([.ref q]) (n := 1) (Nat.le_of_ble_eq_true rfl)
  rw [lg_entry_eq]
  generalize (lg_sl ([.ref q]) ++ List.replicate (1 - (lg_sl ([.ref q])).length) Slot.unset).toArray = ls at hl ⊢
  have hl : lv_has ls 1 [(0, .ref q)] := hl
  refine va_gets hx hb hV.2.2.2.2.2.1 hS hown (hts _ (wq wt_272)) (fun _ h9 => h9) dJ_il_0 ?_
  refine lv_if_eq (tgt := 17) hx hb dJ_il_3 (by decide) (fun hc => absurd hc (by decide)) (fun _ => ?_)
  refine lv_aload_n hx hb dJ_il_6 rfl (lv_at hl 0 rfl) ?_
  refine vk_getf hx hb hV.2.2.1 hS hown (hts _ (wq wt_892)) (fun _ h9 => h9) dJ_il_7 ?_
  refine lv_if_ne (tgt := 17) hx hb dJ_il_10 (by decide) (fun hc => absurd rfl hc) (fun _ => ?_)
  refine lv_iconst (v := 1) hx hb dJ_il_13 (by decide) ?_
  refine lv_goto (tgt := 18) hx hb dJ_il_14 (by decide) ?_
  exact W.zret hx hb hr (by decide) (fun t ht hW => ⟨⟨_, σ, rfl, ⟨rfl, rfl⟩, CW_e ht hC⟩, hS.F ht⟩) hS.2.2 dJ_il_18
set_option maxHeartbeats 4000000 in
set_option maxRecDepth 100000 in
theorem kJ_ca (l : Launch) (D : va_G) (κ : Nat → ClassId) (b : Nat) (σ : Sg) (q v : Nat) (i : Int32) (hi : sg_ib i 8) : Met l yJ_ca wsJ_ca rmJ_ca (va_Pc [.ref q, .int i] (fun U => CW D κ b σ U.heap ∧ SS b q v U U.heap)) (va_Qi (fun (r : Int32) (u : Sg) => r = sg_nam (sg_x i) ∧ u = σ) (fun u t => CW D κ b u t.heap) (sg_A b 892)) 0 0 (sg_A b 892) := by
  refine Met.ofW (cc := cJ_ca) (maxL := 2) (ret := (some .char)) (by decide) rfl ?_
  intro p e s m args below meth c s₁ B hml hv
  obtain ⟨rfl, hC, hV⟩ := hv
  have hx := B.exec
  have hb := B.bytes
  have hr := B.returns
  have hts := atoms_spec (ws := wsJ_ca) B.pre
  have hown : s.vm.findClass "java/lang/String" = some m.cls := findClass_of_methodNamed B.named
  have hlocks := B.notSynchronized
  have hS : va_S (sg_A b 892) s.heap s.heap [] := va_S.rf
  have hl := lv_entry ([.ref q, .int i]) (n := 2) (Nat.le_of_ble_eq_true rfl)
  rw [lg_entry_eq]
  generalize (lg_sl ([.ref q, .int i]) ++ List.replicate (2 - (lg_sl ([.ref q, .int i])).length) Slot.unset).toArray = ls at hl ⊢
  have hl : lv_has ls 2 [(0, .ref q), (1, .int i)] := hl
  refine lv_aload_n hx hb dJ_ca_0 rfl (lv_at hl 0 rfl) ?_
  refine va_calli (va_runV (C := "java/lang/String") (As := []) (rest := []) ⟨hx, hb, hml, hown, hts⟩ (kJ_il l D κ b σ q v) (cwV 0 hts (gwV wt_268 wt_269 wt_270 wt_11 wt_271) rfl rfl rfl (by decide +kernel) ⟨Nat.le_of_ble_eq_true rfl, Nat.le_of_ble_eq_true rfl⟩) (SS_preV hC hV hS) rfl rfl hl.1 rfl (lv_room (Nat.le_of_ble_eq_true rfl)) dJ_ca_1 ⟨Nat.zero_le _, Nat.zero_le _⟩) hS (fun _ _ h => h) (fun _ h => h) (fun r u t H locs ht _ hp hB _ _ hS => ?_)
  refine sg_topi hp.1 ?_
  have hC : CW D κ b σ H := CW_b hB ht hp.2
  refine lv_if_eq (tgt := 16) hx hb dJ_ca_4 (by decide) (fun hc => absurd hc (by decide)) (fun _ => ?_)
  refine lv_aload_n hx hb dJ_ca_7 rfl (lv_at hl 0 rfl) ?_
  refine vk_getf hx hb hV.2.2.2.1 hS hown (hts _ (wq wt_893)) (fun _ h9 => h9) dJ_ca_8 ?_
  refine lv_iload_n hx hb dJ_ca_11 rfl (lv_at hl 1 rfl) ?_
  refine va_calli (va_runS (As := [.ref v, .int i]) (rest := []) ⟨hx, hb, hml, hown, hts⟩ (kJ_lc l D κ b σ q v i hi) (va_cwS 2 hts (gwS wt_274 wt_275 wt_12 wt_276) rfl rfl rfl (by decide +kernel) ⟨Nat.le_of_ble_eq_true rfl, Nat.le_of_ble_eq_true rfl⟩) (SS_preS hC hV hS) rfl rfl hl.1 rfl (lv_room (Nat.le_of_ble_eq_true rfl)) dJ_ca_12 ⟨Nat.zero_le _, Nat.zero_le _⟩) hS (fun _ _ h => h) (fun _ h => h) (fun r u t H locs ht _ hp hB _ _ hS => ?_)
  refine sg_topi hp.1 ?_
  have hC : CW D κ b σ H := CW_b hB ht hp.2
  exact W.zret hx hb hr (sg_cn (show sg_c (sg_nam (sg_x i)) = sg_nam (sg_x i) by rw [← sg_nam_c _ hi.2]; exact sg_cc _)) (fun t ht hW => ⟨⟨_, σ, rfl, ⟨rfl, rfl⟩, CW_e ht hC⟩, hS.F ht⟩) hS.2.2 dJ_ca_15
