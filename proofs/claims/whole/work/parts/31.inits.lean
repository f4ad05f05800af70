theorem dX6_init_0 : decode cX6_init 0 = .ok (.aload_n 0, 1) := by decide +kernel
theorem dX6_init_1 : decode cX6_init 1 = .ok (.invokespecial 3, 3) := by decide +kernel
theorem dX6_init_4 : decode cX6_init 4 = .ok (.aload_n 0, 1) := by decide +kernel
theorem dX6_init_5 : decode cX6_init 5 = .ok (.sipush 600, 3) := by decide +kernel
theorem dX6_init_8 : decode cX6_init 8 = .ok (.newarray .char, 2) := by decide +kernel
theorem dX6_init_10 : decode cX6_init 10 = .ok (.putfield 9, 3) := by decide +kernel
theorem dX6_init_13 : decode cX6_init 13 = .ok (.return_, 1) := by decide +kernel
def rm_X6_init : Room := { frames := 1, cells := 1, slots := 600, locals := 12 }
def ct_X6_init (κ : Nat → ClassId) (b n : Nat) : List va_E := [.inr (6, [.ref (b + (n + 1)), .int 0]), .inl (κ 1, 600, .inl (fun _ => 0))]
set_option maxHeartbeats 4000000 in
set_option maxRecDepth 100000 in
theorem c_X6_init (l : Launch) (D : va_G) (κ : Nat → ClassId) (b n : Nat) (es : List va_E) (hn : es.length = n) : Met l yX6_init wsX6_init (rm_X6_init) (va_Pc [.ref (b + n)] (fun U => KK D κ U ∧ GW D b (es ++ [.inr (6, [.null, .int 0])]) U.heap)) (va_Qv (fun _ : Unit => True) (fun _ t => GW D b (es ++ ct_X6_init κ b n) t.heap) (fun q => b + n ≤ q)) 1 600 (fun q => b + n ≤ q) := by
  refine Met.ofW (cc := cX6_init) (maxL := 1) (ret := none) (by decide) rfl ?_
  intro p e s m args below meth c s₁ B hml hv
  obtain ⟨rfl, hK, hG⟩ := hv
  have hx := B.exec
  have hb := B.bytes
  have hr := B.returns
  have hts := atoms_spec (ws := wsX6_init) B.pre
  have hown : s.vm.findClass RX6 = some m.cls := findClass_of_methodNamed B.named
  have hlocks := B.notSynchronized
  have hin : meth.name = "<init>" := (name_of_methodNamed B.named B.method).1
  have hS : va_S (fun q => b + n ≤ q) s.heap s.heap [] := va_S.rf
  have hl := lv_entry ([.ref (b + n)]) (n := 1) (Nat.le_of_ble_eq_true rfl)
  rw [lg_entry_eq]
  generalize (lg_sl ([.ref (b + n)]) ++ List.replicate (1 - (lg_sl ([.ref (b + n)])).length) Slot.unset).toArray = ls at hl ⊢
  have hl : lv_has ls 1 [(0, .ref (b + n))] := hl
  refine lv_aload_n hx hb dX6_init_0 rfl (lv_at hl 0 rfl) ?_
  refine W.objInit hx hb hown (hts _ (wq wt_35)) (hts _ (wq wt_22)) (hts _ (wq wt_23)) rfl (by rw [hml]; exact hl.1) rfl dX6_init_1 (Nat.le_of_ble_eq_true rfl) (Nat.le_of_ble_eq_true rfl) ?_
  refine W.eq (g2 := F0 m 4 ls []) rfl ?_
  refine lv_aload_n hx hb dX6_init_4 rfl (lv_at hl 0 rfl) ?_
  refine lv_sipush (v := 600) hx hb dX6_init_5 (by decide) ?_
  refine gc_newa (atype := .char) (a0 := (600, .inl (fun _ => 0))) (t0 := 1) hx hb (hts _ (wq wt_46)) rfl rfl hK.1 rfl hG (n9 := n + 1) (by simp [hn]) hS (fun cA => rfl) (by decide) (by decide) (by decide) (Nat.le_of_ble_eq_true rfl) (Nat.le_of_ble_eq_true rfl) dX6_init_8 (fun H hG hS => ?_)
  have hG : GW D b (es ++ [.inr (6, [.null, .int 0]), .inl (κ 1, 600, .inl (fun _ => 0))]) H := by rw [List.append_assoc] at hG; exact hG
  refine gc_putF (ci := 6) (v := .ref (b + (n + 1))) (ty := .array .char) (C := RX6) (T := TX6) (N := 2) hx hb hts (wqs inW_X6) tyX6 tyX6_ok nmX6 hown hK.1 hG hS (n + 0) (Nat.le_refl _) (gl hn _ 0) rfl 0 (by decide) (hts _ (wq wt_36)) (fun _ h9 => h9) rfl hin rfl (by decide +kernel) rfl rfl (Nat.le_of_ble_eq_true rfl) dX6_init_10 (fun H locs hG hS => ?_)
  have hG : GW D b (es ++ [.inr (6, [.ref (b + (n + 1)), .int 0]), .inl (κ 1, 600, .inl (fun _ => 0))]) H := by rw [gs hn] at hG; exact hG
  refine W.widen (k := 1) (n := 600) (by omega) (by omega) ?_
  exact W.vret hx hb hr (fun t ht hW => ⟨⟨(), rfl, trivial, GW_e ht hG⟩, hS.F ht⟩) hS.2.2 dX6_init_13
theorem ctl_X6_init (κ : Nat → ClassId) (b n : Nat) : (ct_X6_init κ b n).length = 2 := rfl

theorem dX2_init_0 : decode cX2_init 0 = .ok (.aload_n 0, 1) := by decide +kernel
theorem dX2_init_1 : decode cX2_init 1 = .ok (.invokespecial 3, 3) := by decide +kernel
theorem dX2_init_4 : decode cX2_init 4 = .ok (.aload_n 0, 1) := by decide +kernel
theorem dX2_init_5 : decode cX2_init 5 = .ok (.sipush 192, 3) := by decide +kernel
theorem dX2_init_8 : decode cX2_init 8 = .ok (.newarray .int, 2) := by decide +kernel
theorem dX2_init_10 : decode cX2_init 10 = .ok (.putfield 9, 3) := by decide +kernel
theorem dX2_init_13 : decode cX2_init 13 = .ok (.return_, 1) := by decide +kernel
def rm_X2_init : Room := { frames := 1, cells := 1, slots := 192, locals := 12 }
def ct_X2_init (κ : Nat → ClassId) (b n : Nat) : List va_E := [.inr (2, [.ref (b + (n + 1)), .int 0]), .inl (κ 0, 192, .inl (fun _ => 0))]
set_option maxHeartbeats 4000000 in
set_option maxRecDepth 100000 in
theorem c_X2_init (l : Launch) (D : va_G) (κ : Nat → ClassId) (b n : Nat) (es : List va_E) (hn : es.length = n) : Met l yX2_init wsX2_init (rm_X2_init) (va_Pc [.ref (b + n)] (fun U => KK D κ U ∧ GW D b (es ++ [.inr (2, [.null, .int 0])]) U.heap)) (va_Qv (fun _ : Unit => True) (fun _ t => GW D b (es ++ ct_X2_init κ b n) t.heap) (fun q => b + n ≤ q)) 1 192 (fun q => b + n ≤ q) := by
  refine Met.ofW (cc := cX2_init) (maxL := 1) (ret := none) (by decide) rfl ?_
  intro p e s m args below meth c s₁ B hml hv
  obtain ⟨rfl, hK, hG⟩ := hv
  have hx := B.exec
  have hb := B.bytes
  have hr := B.returns
  have hts := atoms_spec (ws := wsX2_init) B.pre
  have hown : s.vm.findClass RX2 = some m.cls := findClass_of_methodNamed B.named
  have hlocks := B.notSynchronized
  have hin : meth.name = "<init>" := (name_of_methodNamed B.named B.method).1
  have hS : va_S (fun q => b + n ≤ q) s.heap s.heap [] := va_S.rf
  have hl := lv_entry ([.ref (b + n)]) (n := 1) (Nat.le_of_ble_eq_true rfl)
  rw [lg_entry_eq]
  generalize (lg_sl ([.ref (b + n)]) ++ List.replicate (1 - (lg_sl ([.ref (b + n)])).length) Slot.unset).toArray = ls at hl ⊢
  have hl : lv_has ls 1 [(0, .ref (b + n))] := hl
  refine lv_aload_n hx hb dX2_init_0 rfl (lv_at hl 0 rfl) ?_
  refine W.objInit hx hb hown (hts _ (wq wt_83)) (hts _ (wq wt_22)) (hts _ (wq wt_23)) rfl (by rw [hml]; exact hl.1) rfl dX2_init_1 (Nat.le_of_ble_eq_true rfl) (Nat.le_of_ble_eq_true rfl) ?_
  refine W.eq (g2 := F0 m 4 ls []) rfl ?_
  refine lv_aload_n hx hb dX2_init_4 rfl (lv_at hl 0 rfl) ?_
  refine lv_sipush (v := 192) hx hb dX2_init_5 (by decide) ?_
  refine gc_newa (atype := .int) (a0 := (192, .inl (fun _ => 0))) (t0 := 0) hx hb (hts _ (wq wt_75)) rfl rfl hK.1 rfl hG (n9 := n + 1) (by simp [hn]) hS (fun cA => rfl) (by decide) (by decide) (by decide) (Nat.le_of_ble_eq_true rfl) (Nat.le_of_ble_eq_true rfl) dX2_init_8 (fun H hG hS => ?_)
  have hG : GW D b (es ++ [.inr (2, [.null, .int 0]), .inl (κ 0, 192, .inl (fun _ => 0))]) H := by rw [List.append_assoc] at hG; exact hG
  refine gc_putF (ci := 2) (v := .ref (b + (n + 1))) (ty := .array .int) (C := RX2) (T := TX2) (N := 2) hx hb hts (wqs inW_X2) tyX2 tyX2_ok nmX2 hown hK.1 hG hS (n + 0) (Nat.le_refl _) (gl hn _ 0) rfl 0 (by decide) (hts _ (wq wt_84)) (fun _ h9 => h9) rfl hin rfl (by decide +kernel) rfl rfl (Nat.le_of_ble_eq_true rfl) dX2_init_10 (fun H locs hG hS => ?_)
  have hG : GW D b (es ++ [.inr (2, [.ref (b + (n + 1)), .int 0]), .inl (κ 0, 192, .inl (fun _ => 0))]) H := by rw [gs hn] at hG; exact hG
  refine W.widen (k := 1) (n := 192) (by omega) (by omega) ?_
  exact W.vret hx hb hr (fun t ht hW => ⟨⟨(), rfl, trivial, GW_e ht hG⟩, hS.F ht⟩) hS.2.2 dX2_init_13
theorem ctl_X2_init (κ : Nat → ClassId) (b n : Nat) : (ct_X2_init κ b n).length = 2 := rfl

theorem dX3_init_0 : decode cX3_init 0 = .ok (.aload_n 0, 1) := by decide +kernel
theorem dX3_init_1 : decode cX3_init 1 = .ok (.invokespecial 3, 3) := by decide +kernel
theorem dX3_init_4 : decode cX3_init 4 = .ok (.aload_n 0, 1) := by decide +kernel
theorem dX3_init_5 : decode cX3_init 5 = .ok (.iload_n 1, 1) := by decide +kernel
theorem dX3_init_6 : decode cX3_init 6 = .ok (.newarray .char, 2) := by decide +kernel
theorem dX3_init_8 : decode cX3_init 8 = .ok (.putfield 9, 3) := by decide +kernel
theorem dX3_init_11 : decode cX3_init 11 = .ok (.return_, 1) := by decide +kernel
def rm_X3_init (k0 : Nat) : Room := { frames := 1, cells := 1, slots := k0, locals := 12 }
def ct_X3_init (κ : Nat → ClassId) (b n : Nat) (k0 : Nat) : List va_E := [.inr (3, [.ref (b + (n + 1)), .int 0, .int 0]), .inl (κ 1, k0, .inl (fun _ => 0))]
set_option maxHeartbeats 4000000 in
set_option maxRecDepth 100000 in
theorem c_X3_init (l : Launch) (D : va_G) (κ : Nat → ClassId) (b n : Nat) (es : List va_E) (hn : es.length = n) (k0 : Nat) (hk0 : k0 < 2 ^ 31) (hkb : k0 * 2 ≤ 536870912) : Met l yX3_init wsX3_init (rm_X3_init k0) (va_Pc [.ref (b + n), .int (nI k0)] (fun U => KK D κ U ∧ GW D b (es ++ [.inr (3, [.null, .int 0, .int 0])]) U.heap)) (va_Qv (fun _ : Unit => True) (fun _ t => GW D b (es ++ ct_X3_init κ b n k0) t.heap) (fun q => b + n ≤ q)) 1 k0 (fun q => b + n ≤ q) := by
  refine Met.ofW (cc := cX3_init) (maxL := 2) (ret := none) (by decide) rfl ?_
  intro p e s m args below meth c s₁ B hml hv
  obtain ⟨rfl, hK, hG⟩ := hv
  have hx := B.exec
  have hb := B.bytes
  have hr := B.returns
  have hts := atoms_spec (ws := wsX3_init) B.pre
  have hown : s.vm.findClass RX3 = some m.cls := findClass_of_methodNamed B.named
  have hlocks := B.notSynchronized
  have hin : meth.name = "<init>" := (name_of_methodNamed B.named B.method).1
  have hS : va_S (fun q => b + n ≤ q) s.heap s.heap [] := va_S.rf
  have hl := lv_entry ([.ref (b + n), .int (nI k0)]) (n := 2) (Nat.le_of_ble_eq_true rfl)
  rw [lg_entry_eq]
  generalize (lg_sl ([.ref (b + n), .int (nI k0)]) ++ List.replicate (2 - (lg_sl ([.ref (b + n), .int (nI k0)])).length) Slot.unset).toArray = ls at hl ⊢
  have hl : lv_has ls 2 [(0, .ref (b + n)), (1, .int (nI k0))] := hl
  refine lv_aload_n hx hb dX3_init_0 rfl (lv_at hl 0 rfl) ?_
  refine W.objInit hx hb hown (hts _ (wq wt_97)) (hts _ (wq wt_22)) (hts _ (wq wt_23)) rfl (by rw [hml]; exact hl.1) rfl dX3_init_1 (Nat.le_of_ble_eq_true rfl) (Nat.le_of_ble_eq_true rfl) ?_
  refine W.eq (g2 := F0 m 4 ls []) rfl ?_
  refine lv_aload_n hx hb dX3_init_4 rfl (lv_at hl 0 rfl) ?_
  refine lv_iload_n hx hb dX3_init_5 rfl (lv_at hl 1 rfl) ?_
  refine gc_newa (atype := .char) (a0 := (k0, .inl (fun _ => 0))) (t0 := 1) hx hb (hts _ (wq wt_46)) rfl rfl hK.1 rfl hG (n9 := n + 1) (by simp [hn]) hS (fun cA => rfl) (nI_pos hk0) (nI_clamp hk0) hkb (Nat.le_of_ble_eq_true rfl) (by show 0 + k0 ≤ k0; omega) dX3_init_6 (fun H hG hS => ?_)
  have hG : GW D b (es ++ [.inr (3, [.null, .int 0, .int 0]), .inl (κ 1, k0, .inl (fun _ => 0))]) H := by rw [List.append_assoc] at hG; exact hG
  refine gc_putF (ci := 3) (v := .ref (b + (n + 1))) (ty := .array .char) (C := RX3) (T := TX3) (N := 3) hx hb hts (wqs inW_X3) tyX3 tyX3_ok nmX3 hown hK.1 hG hS (n + 0) (Nat.le_refl _) (gl hn _ 0) rfl 0 (by decide) (hts _ (wq wt_98)) (fun _ h9 => h9) rfl hin rfl (by decide +kernel) rfl rfl (Nat.le_of_ble_eq_true rfl) dX3_init_8 (fun H locs hG hS => ?_)
  have hG : GW D b (es ++ [.inr (3, [.ref (b + (n + 1)), .int 0, .int 0]), .inl (κ 1, k0, .inl (fun _ => 0))]) H := by rw [gs hn] at hG; exact hG
  refine W.widen (k := 1) (n := k0) (by omega) (by omega) ?_
  exact W.vret hx hb hr (fun t ht hW => ⟨⟨(), rfl, trivial, GW_e ht hG⟩, hS.F ht⟩) hS.2.2 dX3_init_11
theorem ctl_X3_init (κ : Nat → ClassId) (b n : Nat) (k0 : Nat) : (ct_X3_init κ b n k0).length = 2 := rfl

theorem dX5_init_0 : decode cX5_init 0 = .ok (.aload_n 0, 1) := by decide +kernel
theorem dX5_init_1 : decode cX5_init 1 = .ok (.invokespecial 3, 3) := by decide +kernel
theorem dX5_init_4 : decode cX5_init 4 = .ok (.aload_n 0, 1) := by decide +kernel
theorem dX5_init_5 : decode cX5_init 5 = .ok (.bipush 20, 2) := by decide +kernel
theorem dX5_init_7 : decode cX5_init 7 = .ok (.newarray .char, 2) := by decide +kernel
theorem dX5_init_9 : decode cX5_init 9 = .ok (.putfield 9, 3) := by decide +kernel
theorem dX5_init_12 : decode cX5_init 12 = .ok (.aload_n 0, 1) := by decide +kernel
theorem dX5_init_13 : decode cX5_init 13 = .ok (.new 15, 3) := by decide +kernel
theorem dX5_init_16 : decode cX5_init 16 = .ok (.dup, 1) := by decide +kernel
theorem dX5_init_17 : decode cX5_init 17 = .ok (.bipush 20, 2) := by decide +kernel
theorem dX5_init_19 : decode cX5_init 19 = .ok (.invokespecial 17, 3) := by decide +kernel
theorem dX5_init_22 : decode cX5_init 22 = .ok (.putfield 20, 3) := by decide +kernel
theorem dX5_init_25 : decode cX5_init 25 = .ok (.return_, 1) := by decide +kernel
def rm_X5_init : Room := { frames := 2, cells := 3, slots := 43, locals := 33 }
def ct_X5_init (κ : Nat → ClassId) (b n : Nat) : List va_E := [.inr (5, [.ref (b + (n + 1)), .ref (b + (n + 2)), .int 0, .int 0]), .inl (κ 1, 20, .inl (fun _ => 0)), .inr (3, [.ref (b + (n + 3)), .int 0, .int 0]), .inl (κ 1, 20, .inl (fun _ => 0))]
set_option maxHeartbeats 4000000 in
set_option maxRecDepth 100000 in
theorem c_X5_init (l : Launch) (D : va_G) (κ : Nat → ClassId) (b n : Nat) (es : List va_E) (hn : es.length = n) : Met l yX5_init wsX5_init (rm_X5_init) (va_Pc [.ref (b + n)] (fun U => KK D κ U ∧ GW D b (es ++ [.inr (5, [.null, .null, .int 0, .int 0])]) U.heap)) (va_Qv (fun _ : Unit => True) (fun _ t => GW D b (es ++ ct_X5_init κ b n) t.heap) (fun q => b + n ≤ q)) 3 43 (fun q => b + n ≤ q) := by
  refine Met.ofW (cc := cX5_init) (maxL := 1) (ret := none) (by decide) rfl ?_
  intro p e s m args below meth c s₁ B hml hv
  obtain ⟨rfl, hK, hG⟩ := hv
  have hx := B.exec
  have hb := B.bytes
  have hr := B.returns
  have hts := atoms_spec (ws := wsX5_init) B.pre
  have hown : s.vm.findClass RX5 = some m.cls := findClass_of_methodNamed B.named
  have hlocks := B.notSynchronized
  have hin : meth.name = "<init>" := (name_of_methodNamed B.named B.method).1
  have hS : va_S (fun q => b + n ≤ q) s.heap s.heap [] := va_S.rf
  have hl := lv_entry ([.ref (b + n)]) (n := 1) (Nat.le_of_ble_eq_true rfl)
  rw [lg_entry_eq]
  generalize (lg_sl ([.ref (b + n)]) ++ List.replicate (1 - (lg_sl ([.ref (b + n)])).length) Slot.unset).toArray = ls at hl ⊢
  have hl : lv_has ls 1 [(0, .ref (b + n))] := hl
  refine lv_aload_n hx hb dX5_init_0 rfl (lv_at hl 0 rfl) ?_
  refine W.objInit hx hb hown (hts _ (wq wt_126)) (hts _ (wq wt_22)) (hts _ (wq wt_23)) rfl (by rw [hml]; exact hl.1) rfl dX5_init_1 (Nat.le_of_ble_eq_true rfl) (Nat.le_of_ble_eq_true rfl) ?_
  refine W.eq (g2 := F0 m 4 ls []) rfl ?_
  refine lv_aload_n hx hb dX5_init_4 rfl (lv_at hl 0 rfl) ?_
  refine lv_bipush (v := 20) hx hb dX5_init_5 (by decide) ?_
  refine gc_newa (atype := .char) (a0 := (20, .inl (fun _ => 0))) (t0 := 1) hx hb (hts _ (wq wt_46)) rfl rfl hK.1 rfl hG (n9 := n + 1) (by simp [hn]) hS (fun cA => rfl) (by decide) (by decide) (by decide) (Nat.le_of_ble_eq_true rfl) (Nat.le_of_ble_eq_true rfl) dX5_init_7 (fun H hG hS => ?_)
  have hG : GW D b (es ++ [.inr (5, [.null, .null, .int 0, .int 0]), .inl (κ 1, 20, .inl (fun _ => 0))]) H := by rw [List.append_assoc] at hG; exact hG
  refine gc_putF (ci := 5) (v := .ref (b + (n + 1))) (ty := .array .char) (C := RX5) (T := TX5) (N := 4) hx hb hts (wqs inW_X5) tyX5 tyX5_ok nmX5 hown hK.1 hG hS (n + 0) (Nat.le_refl _) (gl hn _ 0) rfl 0 (by decide) (hts _ (wq wt_129)) (fun _ h9 => h9) rfl hin rfl (by decide +kernel) rfl rfl (Nat.le_of_ble_eq_true rfl) dX5_init_9 (fun H locs hG hS => ?_)
  have hG : GW D b (es ++ [.inr (5, [.ref (b + (n + 1)), .null, .int 0, .int 0]), .inl (κ 1, 20, .inl (fun _ => 0))]) H := by rw [gs hn] at hG; exact hG
  refine lv_aload_n hx hb dX5_init_12 rfl (lv_at hl 0 rfl) ?_
  refine gc_new (D := D) (ci := 3) (fs := [.null, .int 0, .int 0]) (C := RX3) (T := TX3) (N := 3) hx hb hts (wqs inW_X3) tyX3 tyX3_ok hown (hts _ (wq wt_127)) (hts _ (wq wt_93)) (hts _ (wq wt_5)) hK.1 hG (n9 := n + 2) (by simp [hn]) hS rfl (by decide) (Nat.le_of_ble_eq_true rfl) (Nat.le_of_ble_eq_true rfl) dX5_init_13 (fun H hG hS => ?_)
  have hG : GW D b (es ++ [.inr (5, [.ref (b + (n + 1)), .null, .int 0, .int 0]), .inl (κ 1, 20, .inl (fun _ => 0)), .inr (3, [.null, .int 0, .int 0])]) H := by rw [List.append_assoc] at hG; exact hG
  refine lv_dup hx hb dX5_init_16 rfl ?_
  refine lv_bipush (v := 20) hx hb dX5_init_17 (by decide) ?_
  have hGc : GW D b ((es ++ [.inr (5, [.ref (b + (n + 1)), .null, .int 0, .int 0]), .inl (κ 1, 20, .inl (fun _ => 0))]) ++ [.inr (3, [.null, .int 0, .int 0])]) H := by rw [List.append_assoc]; exact hG
  refine va_callv (va_runI (As := [.int (nI 20)]) (rest := [.ref (b + (n + 2)), .ref (b + n)]) ⟨hx, hb, hml, hown, hts⟩ (c_X3_init l D κ b (n + 2) (es ++ [.inr (5, [.ref (b + (n + 1)), .null, .int 0, .int 0]), .inl (κ 1, 20, .inl (fun _ => 0))]) (by simp [hn]) 20 (by decide) (by decide)) (cwI 1 hts (gw0 wt_96) rfl rfl rfl (hts _ (wq wt_5)) (hts _ (wq wt_128)) (hts _ (wq wt_95)) rfl (by decide +kernel) ⟨Nat.le_of_ble_eq_true rfl, Nat.le_of_ble_eq_true rfl⟩) (GW_preS hK hGc) rfl rfl hl.1 rfl (lv_room (Nat.le_of_ble_eq_true rfl)) dX5_init_19 ⟨Nat.le_of_ble_eq_true rfl, Nat.le_of_ble_eq_true rfl⟩) hS (fun _ _ h => Nat.le_trans (by omega) h) (fun _ h => Nat.le_trans (by omega) h) (fun u t H locs ht _ _ hG _ _ hS => ?_)
  have hG : GW D b (es ++ [.inr (5, [.ref (b + (n + 1)), .null, .int 0, .int 0]), .inl (κ 1, 20, .inl (fun _ => 0)), .inr (3, [.ref (b + (n + 3)), .int 0, .int 0]), .inl (κ 1, 20, .inl (fun _ => 0))]) H := GW_b hG ht (List.append_assoc _ _ _)
  refine gc_putF (ci := 5) (v := .ref (b + (n + 2))) (ty := .object "RecordShelf$Key") (C := RX5) (T := TX5) (N := 4) hx hb hts (wqs inW_X5) tyX5 tyX5_ok nmX5 hown hK.1 hG hS (n + 0) (Nat.le_refl _) (gl hn _ 0) rfl 1 (by decide) (hts _ (wq wt_130)) (fun _ h9 => h9) rfl hin rfl (by decide +kernel) rfl rfl (Nat.le_of_ble_eq_true rfl) dX5_init_22 (fun H locs hG hS => ?_)
  have hG : GW D b (es ++ [.inr (5, [.ref (b + (n + 1)), .ref (b + (n + 2)), .int 0, .int 0]), .inl (κ 1, 20, .inl (fun _ => 0)), .inr (3, [.ref (b + (n + 3)), .int 0, .int 0]), .inl (κ 1, 20, .inl (fun _ => 0))]) H := by rw [gs hn] at hG; exact hG
  refine W.widen (k := 3) (n := 43) (by omega) (by omega) ?_
  exact W.vret hx hb hr (fun t ht hW => ⟨⟨(), rfl, trivial, GW_e ht hG⟩, hS.F ht⟩) hS.2.2 dX5_init_25
theorem ctl_X5_init (κ : Nat → ClassId) (b n : Nat) : (ct_X5_init κ b n).length = 4 := rfl

theorem dX4_init_0 : decode cX4_init 0 = .ok (.aload_n 0, 1) := by decide +kernel
theorem dX4_init_1 : decode cX4_init 1 = .ok (.invokespecial 3, 3) := by decide +kernel
theorem dX4_init_4 : decode cX4_init 4 = .ok (.aload_n 0, 1) := by decide +kernel
theorem dX4_init_5 : decode cX4_init 5 = .ok (.new 9, 3) := by decide +kernel
theorem dX4_init_8 : decode cX4_init 8 = .ok (.dup, 1) := by decide +kernel
theorem dX4_init_9 : decode cX4_init 9 = .ok (.invokespecial 11, 3) := by decide +kernel
theorem dX4_init_12 : decode cX4_init 12 = .ok (.putfield 12, 3) := by decide +kernel
theorem dX4_init_15 : decode cX4_init 15 = .ok (.aload_n 0, 1) := by decide +kernel
theorem dX4_init_16 : decode cX4_init 16 = .ok (.bipush 8, 2) := by decide +kernel
theorem dX4_init_18 : decode cX4_init 18 = .ok (.newarray .int, 2) := by decide +kernel
theorem dX4_init_20 : decode cX4_init 20 = .ok (.putfield 18, 3) := by decide +kernel
theorem dX4_init_23 : decode cX4_init 23 = .ok (.aload_n 0, 1) := by decide +kernel
theorem dX4_init_24 : decode cX4_init 24 = .ok (.iconst (-1), 1) := by decide +kernel
theorem dX4_init_25 : decode cX4_init 25 = .ok (.putfield 22, 3) := by decide +kernel
theorem dX4_init_28 : decode cX4_init 28 = .ok (.aload_n 0, 1) := by decide +kernel
theorem dX4_init_29 : decode cX4_init 29 = .ok (.iconst (-1), 1) := by decide +kernel
theorem dX4_init_30 : decode cX4_init 30 = .ok (.putfield 26, 3) := by decide +kernel
theorem dX4_init_33 : decode cX4_init 33 = .ok (.return_, 1) := by decide +kernel
def rm_X4_init : Room := { frames := 2, cells := 3, slots := 610, locals := 32 }
def ct_X4_init (κ : Nat → ClassId) (b n : Nat) : List va_E := [.inr (4, [.ref (b + (n + 1)), .ref (b + (n + 3)), .int 0, .int 0, .int 0, .int 0, .int (-1), .int (-1)]), .inr (6, [.ref (b + (n + 2)), .int 0]), .inl (κ 1, 600, .inl (fun _ => 0)), .inl (κ 0, 8, .inl (fun _ => 0))]
set_option maxHeartbeats 4000000 in
set_option maxRecDepth 100000 in
theorem c_X4_init (l : Launch) (D : va_G) (κ : Nat → ClassId) (b n : Nat) (es : List va_E) (hn : es.length = n) : Met l yX4_init wsX4_init (rm_X4_init) (va_Pc [.ref (b + n)] (fun U => KK D κ U ∧ GW D b (es ++ [.inr (4, [.null, .null, .int 0, .int 0, .int 0, .int 0, .int 0, .int 0])]) U.heap)) (va_Qv (fun _ : Unit => True) (fun _ t => GW D b (es ++ ct_X4_init κ b n) t.heap) (fun q => b + n ≤ q)) 3 610 (fun q => b + n ≤ q) := by
  refine Met.ofW (cc := cX4_init) (maxL := 1) (ret := none) (by decide) rfl ?_
  intro p e s m args below meth c s₁ B hml hv
  obtain ⟨rfl, hK, hG⟩ := hv
  have hx := B.exec
  have hb := B.bytes
  have hr := B.returns
  have hts := atoms_spec (ws := wsX4_init) B.pre
  have hown : s.vm.findClass RX4 = some m.cls := findClass_of_methodNamed B.named
  have hlocks := B.notSynchronized
  have hin : meth.name = "<init>" := (name_of_methodNamed B.named B.method).1
  have hS : va_S (fun q => b + n ≤ q) s.heap s.heap [] := va_S.rf
  have hl := lv_entry ([.ref (b + n)]) (n := 1) (Nat.le_of_ble_eq_true rfl)
  rw [lg_entry_eq]
  generalize (lg_sl ([.ref (b + n)]) ++ List.replicate (1 - (lg_sl ([.ref (b + n)])).length) Slot.unset).toArray = ls at hl ⊢
  have hl : lv_has ls 1 [(0, .ref (b + n))] := hl
  refine lv_aload_n hx hb dX4_init_0 rfl (lv_at hl 0 rfl) ?_
  refine W.objInit hx hb hown (hts _ (wq wt_29)) (hts _ (wq wt_22)) (hts _ (wq wt_23)) rfl (by rw [hml]; exact hl.1) rfl dX4_init_1 (Nat.le_of_ble_eq_true rfl) (Nat.le_of_ble_eq_true rfl) ?_
  refine W.eq (g2 := F0 m 4 ls []) rfl ?_
  refine lv_aload_n hx hb dX4_init_4 rfl (lv_at hl 0 rfl) ?_
  refine gc_new (D := D) (ci := 6) (fs := [.null, .int 0]) (C := RX6) (T := TX6) (N := 2) hx hb hts (wqs inW_X6) tyX6 tyX6_ok hown (hts _ (wq wt_30)) (hts _ (wq wt_31)) (hts _ (wq wt_3)) hK.1 hG (n9 := n + 1) (by simp [hn]) hS rfl (by decide) (Nat.le_of_ble_eq_true rfl) (Nat.le_of_ble_eq_true rfl) dX4_init_5 (fun H hG hS => ?_)
  have hG : GW D b (es ++ [.inr (4, [.null, .null, .int 0, .int 0, .int 0, .int 0, .int 0, .int 0]), .inr (6, [.null, .int 0])]) H := by rw [List.append_assoc] at hG; exact hG
  refine lv_dup hx hb dX4_init_8 rfl ?_
  have hGc : GW D b ((es ++ [.inr (4, [.null, .null, .int 0, .int 0, .int 0, .int 0, .int 0, .int 0])]) ++ [.inr (6, [.null, .int 0])]) H := by rw [List.append_assoc]; exact hG
  refine va_callv (va_runIN (As := []) (rest := [.ref (b + (n + 1)), .ref (b + n)]) ⟨hx, hb, hml, hown, hts⟩ (c_X6_init l D κ b (n + 1) (es ++ [.inr (4, [.null, .null, .int 0, .int 0, .int 0, .int 0, .int 0, .int 0])]) (by simp [hn])) ⟨va_cnB 0 hts (gw0 wt_34) rfl rfl rfl (nm_1 hK) (hts _ (wq wt_3)) (by decide +kernel) ⟨Nat.le_of_ble_eq_true rfl, Nat.le_of_ble_eq_true rfl⟩, rfl, hts _ (wq wt_33)⟩ (GW_preS hK hGc) rfl rfl hl.1 rfl (lv_room (Nat.le_of_ble_eq_true rfl)) dX4_init_9 ⟨Nat.le_of_ble_eq_true rfl, Nat.le_of_ble_eq_true rfl⟩) hS (fun _ _ h => Nat.le_trans (by omega) h) (fun _ h => Nat.le_trans (by omega) h) (fun u t H locs ht _ _ hG _ _ hS => ?_)
  have hG : GW D b (es ++ [.inr (4, [.null, .null, .int 0, .int 0, .int 0, .int 0, .int 0, .int 0]), .inr (6, [.ref (b + (n + 2)), .int 0]), .inl (κ 1, 600, .inl (fun _ => 0))]) H := GW_b hG ht (List.append_assoc _ _ _)
  refine gc_putF (ci := 4) (v := .ref (b + (n + 1))) (ty := .object "RecordShelf$Text") (C := RX4) (T := TX4) (N := 8) hx hb hts (wqs inW_X4) tyX4 tyX4_ok nmX4 hown hK.1 hG hS (n + 0) (Nat.le_refl _) (gl hn _ 0) rfl 0 (by decide) (hts _ (wq wt_47)) (fun _ h9 => h9) rfl hin rfl (by decide +kernel) rfl rfl (Nat.le_of_ble_eq_true rfl) dX4_init_12 (fun H locs hG hS => ?_)
  have hG : GW D b (es ++ [.inr (4, [.ref (b + (n + 1)), .null, .int 0, .int 0, .int 0, .int 0, .int 0, .int 0]), .inr (6, [.ref (b + (n + 2)), .int 0]), .inl (κ 1, 600, .inl (fun _ => 0))]) H := by rw [gs hn] at hG; exact hG
  refine lv_aload_n hx hb dX4_init_15 rfl (lv_at hl 0 rfl) ?_
  refine lv_bipush (v := 8) hx hb dX4_init_16 (by decide) ?_
  refine gc_newa (atype := .int) (a0 := (8, .inl (fun _ => 0))) (t0 := 0) hx hb (hts _ (wq wt_75)) rfl rfl hK.1 rfl hG (n9 := n + 3) (by simp [hn]) hS (fun cA => rfl) (by decide) (by decide) (by decide) (Nat.le_of_ble_eq_true rfl) (Nat.le_of_ble_eq_true rfl) dX4_init_18 (fun H hG hS => ?_)
  have hG : GW D b (es ++ [.inr (4, [.ref (b + (n + 1)), .null, .int 0, .int 0, .int 0, .int 0, .int 0, .int 0]), .inr (6, [.ref (b + (n + 2)), .int 0]), .inl (κ 1, 600, .inl (fun _ => 0)), .inl (κ 0, 8, .inl (fun _ => 0))]) H := by rw [List.append_assoc] at hG; exact hG
  refine gc_putF (ci := 4) (v := .ref (b + (n + 3))) (ty := .array .int) (C := RX4) (T := TX4) (N := 8) hx hb hts (wqs inW_X4) tyX4 tyX4_ok nmX4 hown hK.1 hG hS (n + 0) (Nat.le_refl _) (gl hn _ 0) rfl 1 (by decide) (hts _ (wq wt_49)) (fun _ h9 => h9) rfl hin rfl (by decide +kernel) rfl rfl (Nat.le_of_ble_eq_true rfl) dX4_init_20 (fun H locs hG hS => ?_)
  have hG : GW D b (es ++ [.inr (4, [.ref (b + (n + 1)), .ref (b + (n + 3)), .int 0, .int 0, .int 0, .int 0, .int 0, .int 0]), .inr (6, [.ref (b + (n + 2)), .int 0]), .inl (κ 1, 600, .inl (fun _ => 0)), .inl (κ 0, 8, .inl (fun _ => 0))]) H := by rw [gs hn] at hG; exact hG
  refine lv_aload_n hx hb dX4_init_23 rfl (lv_at hl 0 rfl) ?_
  refine lv_iconst (v := (-1)) hx hb dX4_init_24 (by decide) ?_
  refine gc_put (ci := 4) (v := .int (-1)) (ty := .int) (C := RX4) (T := TX4) (N := 8) hx hb hts (wqs inW_X4) tyX4 tyX4_ok nmX4 hown hK.1 hG hS (n + 0) (Nat.le_refl _) (gl hn _ 0) rfl 6 (by decide) (hts _ (wq wt_54)) (fun _ h9 => h9) rfl (by decide +kernel) rfl rfl (Nat.le_of_ble_eq_true rfl) dX4_init_25 (fun H locs hG hS => ?_)
  have hG : GW D b (es ++ [.inr (4, [.ref (b + (n + 1)), .ref (b + (n + 3)), .int 0, .int 0, .int 0, .int 0, .int (-1), .int 0]), .inr (6, [.ref (b + (n + 2)), .int 0]), .inl (κ 1, 600, .inl (fun _ => 0)), .inl (κ 0, 8, .inl (fun _ => 0))]) H := by rw [gs hn] at hG; exact hG
  refine lv_aload_n hx hb dX4_init_28 rfl (lv_at hl 0 rfl) ?_
  refine lv_iconst (v := (-1)) hx hb dX4_init_29 (by decide) ?_
  refine gc_put (ci := 4) (v := .int (-1)) (ty := .int) (C := RX4) (T := TX4) (N := 8) hx hb hts (wqs inW_X4) tyX4 tyX4_ok nmX4 hown hK.1 hG hS (n + 0) (Nat.le_refl _) (gl hn _ 0) rfl 7 (by decide) (hts _ (wq wt_56)) (fun _ h9 => h9) rfl (by decide +kernel) rfl rfl (Nat.le_of_ble_eq_true rfl) dX4_init_30 (fun H locs hG hS => ?_)
  have hG : GW D b (es ++ [.inr (4, [.ref (b + (n + 1)), .ref (b + (n + 3)), .int 0, .int 0, .int 0, .int 0, .int (-1), .int (-1)]), .inr (6, [.ref (b + (n + 2)), .int 0]), .inl (κ 1, 600, .inl (fun _ => 0)), .inl (κ 0, 8, .inl (fun _ => 0))]) H := by rw [gs hn] at hG; exact hG
  refine W.widen (k := 3) (n := 610) (by omega) (by omega) ?_
  exact W.vret hx hb hr (fun t ht hW => ⟨⟨(), rfl, trivial, GW_e ht hG⟩, hS.F ht⟩) hS.2.2 dX4_init_33
theorem ctl_X4_init (κ : Nat → ClassId) (b n : Nat) : (ct_X4_init κ b n).length = 4 := rfl
