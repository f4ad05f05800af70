theorem dX1_init_0 : decode cX1_init 0 = .ok (.aload_n 0, 1) := by decide +kernel
theorem dX1_init_1 : decode cX1_init 1 = .ok (.invokespecial 3, 3) := by decide +kernel
theorem dX1_init_4 : decode cX1_init 4 = .ok (.aload_n 0, 1) := by decide +kernel
theorem dX1_init_5 : decode cX1_init 5 = .ok (.iconst 4, 1) := by decide +kernel
theorem dX1_init_6 : decode cX1_init 6 = .ok (.anewarray 9, 3) := by decide +kernel
theorem dX1_init_9 : decode cX1_init 9 = .ok (.putfield 11, 3) := by decide +kernel
theorem dX1_init_12 : decode cX1_init 12 = .ok (.iconst 0, 1) := by decide +kernel
theorem dX1_init_13 : decode cX1_init 13 = .ok (.istore_n 1, 1) := by decide +kernel
theorem dX1_init_14 : decode cX1_init 14 = .ok (.iload_n 1, 1) := by decide +kernel
theorem dX1_init_15 : decode cX1_init 15 = .ok (.iconst 4, 1) := by decide +kernel
theorem dX1_init_16 : decode cX1_init 16 = .ok (.if_icmp .ge 22, 3) := by decide +kernel
theorem dX1_init_19 : decode cX1_init 19 = .ok (.aload_n 0, 1) := by decide +kernel
theorem dX1_init_20 : decode cX1_init 20 = .ok (.getfield 11, 3) := by decide +kernel
theorem dX1_init_23 : decode cX1_init 23 = .ok (.iload_n 1, 1) := by decide +kernel
theorem dX1_init_24 : decode cX1_init 24 = .ok (.new 9, 3) := by decide +kernel
theorem dX1_init_27 : decode cX1_init 27 = .ok (.dup, 1) := by decide +kernel
theorem dX1_init_28 : decode cX1_init 28 = .ok (.invokespecial 17, 3) := by decide +kernel
theorem dX1_init_31 : decode cX1_init 31 = .ok (.aastore, 1) := by decide +kernel
theorem dX1_init_32 : decode cX1_init 32 = .ok (.iinc 1 1, 3) := by decide +kernel
theorem dX1_init_35 : decode cX1_init 35 = .ok (.goto (-21), 3) := by decide +kernel
theorem dX1_init_38 : decode cX1_init 38 = .ok (.return_, 1) := by decide +kernel
def rm_X1_init : Room := { frames := 3, cells := 17, slots := 192, locals := 53 }
def ct_X1_init (κ : Nat → ClassId) (b n : Nat) : List va_E := [.inr (1, [.ref (b + (n + 1)), .int 0, .int 0, .int 0, .int 0]), .inl (κ 4, 4, .inr (.inr (.inr (.inr (gr_i (fun j => b + (n + 2 + 4 * j)) 4)))))] ++ tl_i (ct_X5_init κ b) (n + 2) 4 4
theorem ctl_X1_init (κ : Nat → ClassId) (b n : Nat) : (ct_X1_init κ b n).length = 18 := by
  rw [ct_X1_init, List.length_append, tl_len (ctl_X5_init κ b)]; rfl
set_option maxHeartbeats 4000000 in
set_option maxRecDepth 100000 in
theorem w_X1_init_loop {p : Program} {l : Launch} {e : Env} {s : State} {m : MethodId} {args : Array Value} {below : List Frame} {meth : Method} {c : Code} {Q : State → Prop} {D : va_G} {κ : Nat → ClassId} {b n : Nat} {H0 : Heap} {es : List va_E} (hn : es.length = n) (hZ : sg_Z p c s m args D κ cX1_init 2 RX1 wsX1_init) (hend : ∀ (H : Heap) (locs : List Loc) (ls : Array Slot), GW D b (es ++ ([.inr (1, [.ref (b + (n + 1)), .int 0, .int 0, .int 0, .int 0]), .inl (κ 4, 4, .inr (.inr (.inr (.inr (gr_i (fun j => b + (n + 2 + 4 * j)) 4)))))] ++ tl_i (ct_X5_init κ b) (n + 2) 4 4)) H → va_S (fun q => b + n ≤ q) H0 H locs → W p l e rm_X1_init s m args below meth c H locs (1 + 4 * 4) (4 + 47 * 4) Q (F0 m 38 ls [])) : ∀ (k i : Nat) {H : Heap} {locs : List Loc} {ls : Array Slot}, i + k = 4 → lv_has ls 2 [(0, .ref (b + n)), (1, .int (nI i))] → GW D b (es ++ ([.inr (1, [.ref (b + (n + 1)), .int 0, .int 0, .int 0, .int 0]), .inl (κ 4, 4, .inr (.inr (.inr (.inr (gr_i (fun j => b + (n + 2 + 4 * j)) i)))))] ++ tl_i (ct_X5_init κ b) (n + 2) 4 i)) H → va_S (fun q => b + n ≤ q) H0 H locs → W p l e rm_X1_init s m args below meth c H locs (1 + 4 * i) (4 + 47 * i) Q (F0 m 14 ls []) := by
  obtain ⟨hx, hb, hml, hown, hts, hK⟩ := hZ
  intro k
  induction k with
  | zero =>
    intro i H locs ls hik hl hG hS
    have hi : i = 4 := by omega
    subst hi
    refine lv_iload_n hx hb dX1_init_14 rfl (lv_at hl 1 rfl) ?_
    refine lv_iconst (v := 4) hx hb dX1_init_15 (by decide) ?_
    refine lv_icmp_ge (tgt := 38) hx hb dX1_init_16 (by decide) (fun _ => hend _ _ _ hG hS) (fun hc => absurd (by decide) hc)
  | succ k ih =>
    intro i H locs ls hik hl hG hS
    have hi : i < 4 := by omega
    refine lv_iload_n hx hb dX1_init_14 rfl (lv_at hl 1 rfl) ?_
    refine lv_iconst (v := 4) hx hb dX1_init_15 (by decide) ?_
    refine lv_icmp_ge (tgt := 38) hx hb dX1_init_16 (by decide) (fun hc => absurd hc (nI_ge (b := 4) hi (by decide))) (fun _ => ?_)
    refine lv_aload_n hx hb dX1_init_19 rfl (lv_at hl 0 rfl) ?_
    refine va_get (D := D) (ci := 1) (v := .ref (b + (n + 1))) (C := RX1) (T := TX1) (N := 5) hx hb hts (wqs inW_X1) hown hK.1 (GW_P hG (gl hn _ 0)) 0 rfl rfl 0 (by decide) (hts _ (wq wt_148)) (fun _ h9 => h9) rfl dX1_init_20 ?_
    refine lv_iload_n hx hb dX1_init_23 rfl (lv_at hl 1 rfl) ?_
    have hlen : (es ++ ([.inr (1, [.ref (b + (n + 1)), .int 0, .int 0, .int 0, .int 0]), .inl (κ 4, 4, .inr (.inr (.inr (.inr (gr_i (fun j => b + (n + 2 + 4 * j)) i)))))] ++ tl_i (ct_X5_init κ b) (n + 2) 4 i) : List va_E).length = n + 2 + 4 * i := by
      rw [List.length_append, List.length_append, tl_len (ctl_X5_init κ b), hn]
      show n + (2 + 4 * i) = _
      omega
    refine gc_new (D := D) (ci := 5) (fs := [.null, .null, .int 0, .int 0]) (C := RX5) (T := TX5) (N := 4) hx hb hts (wqs inW_X5) tyX5 tyX5_ok hown (hts _ (wq wt_120)) (hts _ (wq wt_122)) (hts _ (wq wt_8)) hK.1 hG hlen hS rfl (by decide) (by show 1 + 4 * i + 1 ≤ 17; omega) (by show 4 + 47 * i + 4 ≤ 192; omega) dX1_init_24 (fun H hG hS => ?_)
    refine lv_dup hx hb dX1_init_27 rfl ?_
    refine va_callv (va_runIN (As := []) (rest := [.ref (b + (n + 2 + 4 * i)), .int (nI i), .ref (b + (n + 1))]) ⟨hx, hb, hml, hown, hts⟩ (c_X5_init l D κ b (n + 2 + 4 * i) (es ++ ([.inr (1, [.ref (b + (n + 1)), .int 0, .int 0, .int 0, .int 0]), .inl (κ 4, 4, .inr (.inr (.inr (.inr (gr_i (fun j => b + (n + 2 + 4 * j)) i)))))] ++ tl_i (ct_X5_init κ b) (n + 2) 4 i)) hlen) ⟨va_cnB 0 hts (gw0 wt_125) rfl rfl rfl (nm_3 hK) (hts _ (wq wt_8)) (by decide +kernel) ⟨Nat.le_of_ble_eq_true rfl, Nat.le_of_ble_eq_true rfl⟩, rfl, hts _ (wq wt_124)⟩ (GW_preS hK hG) rfl rfl hl.1 rfl (lv_room (Nat.le_of_ble_eq_true rfl)) dX1_init_28 ⟨by show 1 + 4 * i + 1 + 3 ≤ 17; omega, by show 4 + 47 * i + 4 + 43 ≤ 192; omega⟩) hS (fun _ _ h => Nat.le_trans (by omega) h) (fun _ h => Nat.le_trans (by omega) h) (fun u t H locs ht _ _ hG _ _ hS => ?_)
    have hG := GW_b hG ht rfl
    have hq : ((es ++ ([.inr (1, [.ref (b + (n + 1)), .int 0, .int 0, .int 0, .int 0]), .inl (κ 4, 4, .inr (.inr (.inr (.inr (gr_i (fun j => b + (n + 2 + 4 * j)) i)))))] ++ tl_i (ct_X5_init κ b) (n + 2) 4 i) : List va_E) ++ ct_X5_init κ b (n + 2 + 4 * i))[n + 2 + 4 * i + 0]? = some (.inr (5, [.ref (b + ((n + 2 + 4 * i) + 1)), .ref (b + ((n + 2 + 4 * i) + 2)), .int 0, .int 0])) := (gl hlen _ 0).trans rfl
    have he : (es ++ ([.inr (1, [.ref (b + (n + 1)), .int 0, .int 0, .int 0, .int 0]), .inl (κ 4, 4, .inr (.inr (.inr (.inr (gr_i (fun j => b + (n + 2 + 4 * j)) i)))))] ++ tl_i (ct_X5_init κ b) (n + 2) 4 i) : List va_E) ++ ct_X5_init κ b (n + 2 + 4 * i) = es ++ ([.inr (1, [.ref (b + (n + 1)), .int 0, .int 0, .int 0, .int 0]), .inl (κ 4, 4, .inr (.inr (.inr (.inr (gr_i (fun j => b + (n + 2 + 4 * j)) i)))))] ++ (tl_i (ct_X5_init κ b) (n + 2) 4 i ++ ct_X5_init κ b (n + 2 + 4 * i))) := by rw [List.append_assoc, List.append_assoc]
    rw [he] at hG hq
    refine gc_astq (r := (RX5, TX5, 4)) hx hb hK.1 hG hS (n + 1) 4 (n + 2 + 4 * i + 0) 5 (by omega) (gl hn _ 1) rfl hq rfl (vp_in_nI hi (by decide)) dX1_init_31 (fun H locs hG hS => ?_)
    have hG : GW D b (es ++ ([.inr (1, [.ref (b + (n + 1)), .int 0, .int 0, .int 0, .int 0]), .inl (κ 4, 4, .inr (.inr (.inr (.inr (gr_i (fun j => b + (n + 2 + 4 * j)) (i + 1))))))] ++ tl_i (ct_X5_init κ b) (n + 2) 4 (i + 1))) H := by
      rw [gs hn, nI_clamp (by omega)] at hG
      rw [tl_is, ← gr_is]
      exact hG
    refine lv_iinc (v := nI (i + 1)) (lv' := [(1, .int (nI (i + 1))), (0, .ref (b + n))]) (k := 1) hx hb dX1_init_32 hl rfl (sg_inc (by decide) (nI_1 i)) (by decide) rfl (fun ls hl => ?_)
    refine lv_goto (tgt := 14) hx hb dX1_init_35 (by decide) ?_
    refine W.widen (k := 1 + 4 * (i + 1)) (n := 4 + 47 * (i + 1)) (by omega) (by omega) ?_
    exact ih (i + 1) (by omega) (lv_sub hl [1, 0] rfl) hG hS
set_option maxHeartbeats 4000000 in
set_option maxRecDepth 100000 in
theorem c_X1_init (l : Launch) (D : va_G) (κ : Nat → ClassId) (b n : Nat) (es : List va_E) (hn : es.length = n) : Met l yX1_init wsX1_init rm_X1_init (va_Pc [.ref (b + n)] (fun U => KK D κ U ∧ GW D b (es ++ [.inr (1, [.null, .int 0, .int 0, .int 0, .int 0])]) U.heap)) (va_Qv (fun _ : Unit => True) (fun _ t => GW D b (es ++ ct_X1_init κ b n) t.heap) (fun q => b + n ≤ q)) 17 192 (fun q => b + n ≤ q) := by
  refine Met.ofW (cc := cX1_init) (maxL := 2) (ret := none) (by decide) rfl ?_
  intro p e s m args below meth c s₁ B hml hv
  obtain ⟨rfl, hK, hG⟩ := hv
  have hx := B.exec
  have hb := B.bytes
  have hr := B.returns
  have hts := atoms_spec (ws := wsX1_init) B.pre
  have hown : s.vm.findClass RX1 = some m.cls := findClass_of_methodNamed B.named
  have hlocks := B.notSynchronized
  have hin : meth.name = "<init>" := (name_of_methodNamed B.named B.method).1
  have hS : va_S (fun q => b + n ≤ q) s.heap s.heap [] := va_S.rf
  have hl := lv_entry ([.ref (b + n)]) (n := 2) (Nat.le_of_ble_eq_true rfl)
  rw [lg_entry_eq]
  generalize (lg_sl ([.ref (b + n)]) ++ List.replicate (2 - (lg_sl ([.ref (b + n)])).length) Slot.unset).toArray = ls at hl ⊢
  have hl : lv_has ls 2 [(0, .ref (b + n))] := hl
  refine lv_aload_n hx hb dX1_init_0 rfl (lv_at hl 0 rfl) ?_
  refine W.objInit hx hb hown (hts _ (wq wt_119)) (hts _ (wq wt_22)) (hts _ (wq wt_23)) rfl (by rw [hml]; exact hl.1) rfl dX1_init_1 (Nat.le_of_ble_eq_true rfl) (Nat.le_of_ble_eq_true rfl) ?_
  refine W.eq (g2 := F0 m 4 ls []) rfl ?_
  refine lv_aload_n hx hb dX1_init_4 rfl (lv_at hl 0 rfl) ?_
  refine lv_iconst (v := 4) hx hb dX1_init_5 (by decide) ?_
  refine gc_newq (t0 := 4) hx hb hown (hts _ (wq wt_120)) (va_AO.use hK.2.2.2.2.2) hK.1 rfl hG (n9 := n + 1) (by simp [hn]) hS (by decide) (N' := 4) (by decide) (by decide) (Nat.le_of_ble_eq_true rfl) (Nat.le_of_ble_eq_true rfl) dX1_init_6 (fun H hG hS => ?_)
  have hG : GW D b (es ++ [.inr (1, [.null, .int 0, .int 0, .int 0, .int 0]), .inl (κ 4, 4, .inr (.inr (.inr (.inr (fun _ => none)))))]) H := by rw [List.append_assoc] at hG; exact hG
  refine gc_putF (ci := 1) (v := .ref (b + (n + 1))) (ty := .array (.object "RecordShelf$Subfield")) (C := RX1) (T := TX1) (N := 5) hx hb hts (wqs inW_X1) tyX1 tyX1_ok nmX1 hown hK.1 hG hS (n + 0) (Nat.le_refl _) (gl hn _ 0) rfl 0 (by decide) (hts _ (wq wt_148)) (fun _ h9 => h9) rfl hin rfl (by decide +kernel) rfl rfl (Nat.le_of_ble_eq_true rfl) dX1_init_9 (fun H locs hG hS => ?_)
  have hG : GW D b (es ++ [.inr (1, [.ref (b + (n + 1)), .int 0, .int 0, .int 0, .int 0]), .inl (κ 4, 4, .inr (.inr (.inr (.inr (fun _ => none)))))]) H := by rw [gs hn] at hG; exact hG
  refine lv_iconst (v := 0) hx hb dX1_init_12 (by decide) ?_
  refine lv_istore_n (lv' := [(1, .int 0), (0, .ref (b + n))]) hx hb dX1_init_13 rfl hl (by decide) rfl (fun ls hl => ?_)
  have hG : GW D b (es ++ ([.inr (1, [.ref (b + (n + 1)), .int 0, .int 0, .int 0, .int 0]), .inl (κ 4, 4, .inr (.inr (.inr (.inr (gr_i (fun j => b + (n + 2 + 4 * j)) 0)))))] ++ tl_i (ct_X5_init κ b) (n + 2) 4 0)) H := by
    rw [gr_i0]
    exact hG
  refine W.widen (k := 1 + 4 * 0) (n := 4 + 47 * 0) (by omega) (by omega) ?_
  refine w_X1_init_loop (H0 := s.heap) hn ⟨hx, hb, hml, hown, hts, hK⟩ (fun H locs ls hG hS => ?_) 4 0 (by omega) (lv_sub hl [1, 0] rfl) hG hS
  refine W.widen (k := 17) (n := 192) (by omega) (by omega) ?_
  exact W.vret hx hb hr (fun t ht hW => ⟨⟨(), rfl, trivial, GW_e ht hG⟩, hS.F ht⟩) hS.2.2 dX1_init_38

theorem dX0_init_0 : decode cX0_init 0 = .ok (.aload_n 0, 1) := by decide +kernel
theorem dX0_init_1 : decode cX0_init 1 = .ok (.invokespecial 3, 3) := by decide +kernel
theorem dX0_init_4 : decode cX0_init 4 = .ok (.aload_n 0, 1) := by decide +kernel
theorem dX0_init_5 : decode cX0_init 5 = .ok (.bipush 8, 2) := by decide +kernel
theorem dX0_init_7 : decode cX0_init 7 = .ok (.newarray .char, 2) := by decide +kernel
theorem dX0_init_9 : decode cX0_init 9 = .ok (.putfield 9, 3) := by decide +kernel
theorem dX0_init_12 : decode cX0_init 12 = .ok (.aload_n 0, 1) := by decide +kernel
theorem dX0_init_13 : decode cX0_init 13 = .ok (.bipush 8, 2) := by decide +kernel
theorem dX0_init_15 : decode cX0_init 15 = .ok (.anewarray 15, 3) := by decide +kernel
theorem dX0_init_18 : decode cX0_init 18 = .ok (.putfield 17, 3) := by decide +kernel
theorem dX0_init_21 : decode cX0_init 21 = .ok (.iconst 0, 1) := by decide +kernel
theorem dX0_init_22 : decode cX0_init 22 = .ok (.istore_n 1, 1) := by decide +kernel
theorem dX0_init_23 : decode cX0_init 23 = .ok (.iload_n 1, 1) := by decide +kernel
theorem dX0_init_24 : decode cX0_init 24 = .ok (.bipush 8, 2) := by decide +kernel
theorem dX0_init_26 : decode cX0_init 26 = .ok (.if_icmp .ge 22, 3) := by decide +kernel
theorem dX0_init_29 : decode cX0_init 29 = .ok (.aload_n 0, 1) := by decide +kernel
theorem dX0_init_30 : decode cX0_init 30 = .ok (.getfield 17, 3) := by decide +kernel
theorem dX0_init_33 : decode cX0_init 33 = .ok (.iload_n 1, 1) := by decide +kernel
theorem dX0_init_34 : decode cX0_init 34 = .ok (.new 15, 3) := by decide +kernel
theorem dX0_init_37 : decode cX0_init 37 = .ok (.dup, 1) := by decide +kernel
theorem dX0_init_38 : decode cX0_init 38 = .ok (.invokespecial 21, 3) := by decide +kernel
theorem dX0_init_41 : decode cX0_init 41 = .ok (.aastore, 1) := by decide +kernel
theorem dX0_init_42 : decode cX0_init 42 = .ok (.iinc 1 1, 3) := by decide +kernel
theorem dX0_init_45 : decode cX0_init 45 = .ok (.goto (-22), 3) := by decide +kernel
theorem dX0_init_48 : decode cX0_init 48 = .ok (.return_, 1) := by decide +kernel
def rm_X0_init : Room := { frames := 4, cells := 146, slots := 1592, locals := 74 }
def ct_X0_init (κ : Nat → ClassId) (b n : Nat) : List va_E := [.inr (0, [.ref (b + (n + 1)), .ref (b + (n + 2)), .int 0]), .inl (κ 1, 8, .inl (fun _ => 0)), .inl (κ 3, 8, .inr (.inr (.inr (.inr (gr_i (fun j => b + (n + 3 + 18 * j)) 8)))))] ++ tl_i (ct_X1_init κ b) (n + 3) 18 8
theorem ctl_X0_init (κ : Nat → ClassId) (b n : Nat) : (ct_X0_init κ b n).length = 147 := by
  rw [ct_X0_init, List.length_append, tl_len (ctl_X1_init κ b)]; rfl
set_option maxHeartbeats 4000000 in
set_option maxRecDepth 100000 in
theorem w_X0_init_loop {p : Program} {l : Launch} {e : Env} {s : State} {m : MethodId} {args : Array Value} {below : List Frame} {meth : Method} {c : Code} {Q : State → Prop} {D : va_G} {κ : Nat → ClassId} {b n : Nat} {H0 : Heap} {es : List va_E} (hn : es.length = n) (hZ : sg_Z p c s m args D κ cX0_init 2 RX0 wsX0_init) (hend : ∀ (H : Heap) (locs : List Loc) (ls : Array Slot), GW D b (es ++ ([.inr (0, [.ref (b + (n + 1)), .ref (b + (n + 2)), .int 0]), .inl (κ 1, 8, .inl (fun _ => 0)), .inl (κ 3, 8, .inr (.inr (.inr (.inr (gr_i (fun j => b + (n + 3 + 18 * j)) 8)))))] ++ tl_i (ct_X1_init κ b) (n + 3) 18 8)) H → va_S (fun q => b + n ≤ q) H0 H locs → W p l e rm_X0_init s m args below meth c H locs (2 + 18 * 8) (16 + 197 * 8) Q (F0 m 48 ls [])) : ∀ (k i : Nat) {H : Heap} {locs : List Loc} {ls : Array Slot}, i + k = 8 → lv_has ls 2 [(0, .ref (b + n)), (1, .int (nI i))] → GW D b (es ++ ([.inr (0, [.ref (b + (n + 1)), .ref (b + (n + 2)), .int 0]), .inl (κ 1, 8, .inl (fun _ => 0)), .inl (κ 3, 8, .inr (.inr (.inr (.inr (gr_i (fun j => b + (n + 3 + 18 * j)) i)))))] ++ tl_i (ct_X1_init κ b) (n + 3) 18 i)) H → va_S (fun q => b + n ≤ q) H0 H locs → W p l e rm_X0_init s m args below meth c H locs (2 + 18 * i) (16 + 197 * i) Q (F0 m 23 ls []) := by
  obtain ⟨hx, hb, hml, hown, hts, hK⟩ := hZ
  intro k
  induction k with
  | zero =>
    intro i H locs ls hik hl hG hS
    have hi : i = 8 := by omega
    subst hi
    refine lv_iload_n hx hb dX0_init_23 rfl (lv_at hl 1 rfl) ?_
    refine lv_bipush (v := 8) hx hb dX0_init_24 (by decide) ?_
    refine lv_icmp_ge (tgt := 48) hx hb dX0_init_26 (by decide) (fun _ => hend _ _ _ hG hS) (fun hc => absurd (by decide) hc)
  | succ k ih =>
    intro i H locs ls hik hl hG hS
    have hi : i < 8 := by omega
    refine lv_iload_n hx hb dX0_init_23 rfl (lv_at hl 1 rfl) ?_
    refine lv_bipush (v := 8) hx hb dX0_init_24 (by decide) ?_
    refine lv_icmp_ge (tgt := 48) hx hb dX0_init_26 (by decide) (fun hc => absurd hc (nI_ge (b := 8) hi (by decide))) (fun _ => ?_)
    refine lv_aload_n hx hb dX0_init_29 rfl (lv_at hl 0 rfl) ?_
    refine va_get (D := D) (ci := 0) (v := .ref (b + (n + 2))) (C := RX0) (T := TX0) (N := 3) hx hb hts (wqs inW_X0) hown hK.1 (GW_P hG (gl hn _ 0)) 0 rfl rfl 1 (by decide) (hts _ (wq wt_178)) (fun _ h9 => h9) rfl dX0_init_30 ?_
    refine lv_iload_n hx hb dX0_init_33 rfl (lv_at hl 1 rfl) ?_
    have hlen : (es ++ ([.inr (0, [.ref (b + (n + 1)), .ref (b + (n + 2)), .int 0]), .inl (κ 1, 8, .inl (fun _ => 0)), .inl (κ 3, 8, .inr (.inr (.inr (.inr (gr_i (fun j => b + (n + 3 + 18 * j)) i)))))] ++ tl_i (ct_X1_init κ b) (n + 3) 18 i) : List va_E).length = n + 3 + 18 * i := by
      rw [List.length_append, List.length_append, tl_len (ctl_X1_init κ b), hn]
      show n + (3 + 18 * i) = _
      omega
    refine gc_new (D := D) (ci := 1) (fs := [.null, .int 0, .int 0, .int 0, .int 0]) (C := RX1) (T := TX1) (N := 5) hx hb hts (wqs inW_X1) tyX1 tyX1_ok hown (hts _ (wq wt_113)) (hts _ (wq wt_115)) (hts _ (wq wt_7)) hK.1 hG hlen hS rfl (by decide) (by show 2 + 18 * i + 1 ≤ 146; omega) (by show 16 + 197 * i + 5 ≤ 1592; omega) dX0_init_34 (fun H hG hS => ?_)
    refine lv_dup hx hb dX0_init_37 rfl ?_
    refine va_callv (va_runI (As := []) (rest := [.ref (b + (n + 3 + 18 * i)), .int (nI i), .ref (b + (n + 2))]) ⟨hx, hb, hml, hown, hts⟩ (c_X1_init l D κ b (n + 3 + 18 * i) (es ++ ([.inr (0, [.ref (b + (n + 1)), .ref (b + (n + 2)), .int 0]), .inl (κ 1, 8, .inl (fun _ => 0)), .inl (κ 3, 8, .inr (.inr (.inr (.inr (gr_i (fun j => b + (n + 3 + 18 * j)) i)))))] ++ tl_i (ct_X1_init κ b) (n + 3) 18 i)) hlen) (cwI 0 hts (gw0 wt_118) rfl rfl rfl (hts _ (wq wt_7)) (hts _ (wq wt_116)) (hts _ (wq wt_117)) rfl (by decide +kernel) ⟨Nat.le_of_ble_eq_true rfl, Nat.le_of_ble_eq_true rfl⟩) (GW_preS hK hG) rfl rfl hl.1 rfl (lv_room (Nat.le_of_ble_eq_true rfl)) dX0_init_38 ⟨by show 2 + 18 * i + 1 + 17 ≤ 146; omega, by show 16 + 197 * i + 5 + 192 ≤ 1592; omega⟩) hS (fun _ _ h => Nat.le_trans (by omega) h) (fun _ h => Nat.le_trans (by omega) h) (fun u t H locs ht _ _ hG _ _ hS => ?_)
    have hG := GW_b hG ht rfl
    have hq : ((es ++ ([.inr (0, [.ref (b + (n + 1)), .ref (b + (n + 2)), .int 0]), .inl (κ 1, 8, .inl (fun _ => 0)), .inl (κ 3, 8, .inr (.inr (.inr (.inr (gr_i (fun j => b + (n + 3 + 18 * j)) i)))))] ++ tl_i (ct_X1_init κ b) (n + 3) 18 i) : List va_E) ++ ct_X1_init κ b (n + 3 + 18 * i))[n + 3 + 18 * i + 0]? = some (.inr (1, [.ref (b + ((n + 3 + 18 * i) + 1)), .int 0, .int 0, .int 0, .int 0])) := (gl hlen _ 0).trans rfl
    have he : (es ++ ([.inr (0, [.ref (b + (n + 1)), .ref (b + (n + 2)), .int 0]), .inl (κ 1, 8, .inl (fun _ => 0)), .inl (κ 3, 8, .inr (.inr (.inr (.inr (gr_i (fun j => b + (n + 3 + 18 * j)) i)))))] ++ tl_i (ct_X1_init κ b) (n + 3) 18 i) : List va_E) ++ ct_X1_init κ b (n + 3 + 18 * i) = es ++ ([.inr (0, [.ref (b + (n + 1)), .ref (b + (n + 2)), .int 0]), .inl (κ 1, 8, .inl (fun _ => 0)), .inl (κ 3, 8, .inr (.inr (.inr (.inr (gr_i (fun j => b + (n + 3 + 18 * j)) i)))))] ++ (tl_i (ct_X1_init κ b) (n + 3) 18 i ++ ct_X1_init κ b (n + 3 + 18 * i))) := by rw [List.append_assoc, List.append_assoc]
    rw [he] at hG hq
    refine gc_astq (r := (RX1, TX1, 5)) hx hb hK.1 hG hS (n + 2) 3 (n + 3 + 18 * i + 0) 1 (by omega) (gl hn _ 2) rfl hq rfl (vp_in_nI hi (by decide)) dX0_init_41 (fun H locs hG hS => ?_)
    have hG : GW D b (es ++ ([.inr (0, [.ref (b + (n + 1)), .ref (b + (n + 2)), .int 0]), .inl (κ 1, 8, .inl (fun _ => 0)), .inl (κ 3, 8, .inr (.inr (.inr (.inr (gr_i (fun j => b + (n + 3 + 18 * j)) (i + 1))))))] ++ tl_i (ct_X1_init κ b) (n + 3) 18 (i + 1))) H := by
      rw [gs hn, nI_clamp (by omega)] at hG
      rw [tl_is, ← gr_is]
      exact hG
    refine lv_iinc (v := nI (i + 1)) (lv' := [(1, .int (nI (i + 1))), (0, .ref (b + n))]) (k := 1) hx hb dX0_init_42 hl rfl (sg_inc (by decide) (nI_1 i)) (by decide) rfl (fun ls hl => ?_)
    refine lv_goto (tgt := 23) hx hb dX0_init_45 (by decide) ?_
    refine W.widen (k := 2 + 18 * (i + 1)) (n := 16 + 197 * (i + 1)) (by omega) (by omega) ?_
    exact ih (i + 1) (by omega) (lv_sub hl [1, 0] rfl) hG hS
set_option maxHeartbeats 4000000 in
set_option maxRecDepth 100000 in
theorem c_X0_init (l : Launch) (D : va_G) (κ : Nat → ClassId) (b n : Nat) (es : List va_E) (hn : es.length = n) : Met l yX0_init wsX0_init rm_X0_init (va_Pc [.ref (b + n)] (fun U => KK D κ U ∧ GW D b (es ++ [.inr (0, [.null, .null, .int 0])]) U.heap)) (va_Qv (fun _ : Unit => True) (fun _ t => GW D b (es ++ ct_X0_init κ b n) t.heap) (fun q => b + n ≤ q)) 146 1592 (fun q => b + n ≤ q) := by
  refine Met.ofW (cc := cX0_init) (maxL := 2) (ret := none) (by decide) rfl ?_
  intro p e s m args below meth c s₁ B hml hv
  obtain ⟨rfl, hK, hG⟩ := hv
  have hx := B.exec
  have hb := B.bytes
  have hr := B.returns
  have hts := atoms_spec (ws := wsX0_init) B.pre
  have hown : s.vm.findClass RX0 = some m.cls := findClass_of_methodNamed B.named
  have hlocks := B.notSynchronized
  have hin : meth.name = "<init>" := (name_of_methodNamed B.named B.method).1
  have hS : va_S (fun q => b + n ≤ q) s.heap s.heap [] := va_S.rf
  have hl := lv_entry ([.ref (b + n)]) (n := 2) (Nat.le_of_ble_eq_true rfl)
  rw [lg_entry_eq]
  generalize (lg_sl ([.ref (b + n)]) ++ List.replicate (2 - (lg_sl ([.ref (b + n)])).length) Slot.unset).toArray = ls at hl ⊢
  have hl : lv_has ls 2 [(0, .ref (b + n))] := hl
  refine lv_aload_n hx hb dX0_init_0 rfl (lv_at hl 0 rfl) ?_
  refine W.objInit hx hb hown (hts _ (wq wt_112)) (hts _ (wq wt_22)) (hts _ (wq wt_23)) rfl (by rw [hml]; exact hl.1) rfl dX0_init_1 (Nat.le_of_ble_eq_true rfl) (Nat.le_of_ble_eq_true rfl) ?_
  refine W.eq (g2 := F0 m 4 ls []) rfl ?_
  refine lv_aload_n hx hb dX0_init_4 rfl (lv_at hl 0 rfl) ?_
  refine lv_bipush (v := 8) hx hb dX0_init_5 (by decide) ?_
  refine gc_newa (atype := .char) (a0 := (8, .inl (fun _ => 0))) (t0 := 1) hx hb (hts _ (wq wt_46)) rfl rfl hK.1 rfl hG (n9 := n + 1) (by simp [hn]) hS (fun cA => rfl) (by decide) (by decide) (by decide) (Nat.le_of_ble_eq_true rfl) (Nat.le_of_ble_eq_true rfl) dX0_init_7 (fun H hG hS => ?_)
  have hG : GW D b (es ++ [.inr (0, [.null, .null, .int 0]), .inl (κ 1, 8, .inl (fun _ => 0))]) H := by rw [List.append_assoc] at hG; exact hG
  refine gc_putF (ci := 0) (v := .ref (b + (n + 1))) (ty := .array .char) (C := RX0) (T := TX0) (N := 3) hx hb hts (wqs inW_X0) tyX0 tyX0_ok nmX0 hown hK.1 hG hS (n + 0) (Nat.le_refl _) (gl hn _ 0) rfl 0 (by decide) (hts _ (wq wt_176)) (fun _ h9 => h9) rfl hin rfl (by decide +kernel) rfl rfl (Nat.le_of_ble_eq_true rfl) dX0_init_9 (fun H locs hG hS => ?_)
  have hG : GW D b (es ++ [.inr (0, [.ref (b + (n + 1)), .null, .int 0]), .inl (κ 1, 8, .inl (fun _ => 0))]) H := by rw [gs hn] at hG; exact hG
  refine lv_aload_n hx hb dX0_init_12 rfl (lv_at hl 0 rfl) ?_
  refine lv_bipush (v := 8) hx hb dX0_init_13 (by decide) ?_
  refine gc_newq (t0 := 3) hx hb hown (hts _ (wq wt_113)) (va_AO.use hK.2.2.2.2.1) hK.1 rfl hG (n9 := n + 2) (by simp [hn]) hS (by decide) (N' := 8) (by decide) (by decide) (Nat.le_of_ble_eq_true rfl) (Nat.le_of_ble_eq_true rfl) dX0_init_15 (fun H hG hS => ?_)
  have hG : GW D b (es ++ [.inr (0, [.ref (b + (n + 1)), .null, .int 0]), .inl (κ 1, 8, .inl (fun _ => 0)), .inl (κ 3, 8, .inr (.inr (.inr (.inr (fun _ => none)))))]) H := by rw [List.append_assoc] at hG; exact hG
  refine gc_putF (ci := 0) (v := .ref (b + (n + 2))) (ty := .array (.object "RecordShelf$Field")) (C := RX0) (T := TX0) (N := 3) hx hb hts (wqs inW_X0) tyX0 tyX0_ok nmX0 hown hK.1 hG hS (n + 0) (Nat.le_refl _) (gl hn _ 0) rfl 1 (by decide) (hts _ (wq wt_178)) (fun _ h9 => h9) rfl hin rfl (by decide +kernel) rfl rfl (Nat.le_of_ble_eq_true rfl) dX0_init_18 (fun H locs hG hS => ?_)
  have hG : GW D b (es ++ [.inr (0, [.ref (b + (n + 1)), .ref (b + (n + 2)), .int 0]), .inl (κ 1, 8, .inl (fun _ => 0)), .inl (κ 3, 8, .inr (.inr (.inr (.inr (fun _ => none)))))]) H := by rw [gs hn] at hG; exact hG
  refine lv_iconst (v := 0) hx hb dX0_init_21 (by decide) ?_
  refine lv_istore_n (lv' := [(1, .int 0), (0, .ref (b + n))]) hx hb dX0_init_22 rfl hl (by decide) rfl (fun ls hl => ?_)
  have hG : GW D b (es ++ ([.inr (0, [.ref (b + (n + 1)), .ref (b + (n + 2)), .int 0]), .inl (κ 1, 8, .inl (fun _ => 0)), .inl (κ 3, 8, .inr (.inr (.inr (.inr (gr_i (fun j => b + (n + 3 + 18 * j)) 0)))))] ++ tl_i (ct_X1_init κ b) (n + 3) 18 0)) H := by
    rw [gr_i0]
    exact hG
  refine W.widen (k := 2 + 18 * 0) (n := 16 + 197 * 0) (by omega) (by omega) ?_
  refine w_X0_init_loop (H0 := s.heap) hn ⟨hx, hb, hml, hown, hts, hK⟩ (fun H locs ls hG hS => ?_) 8 0 (by omega) (lv_sub hl [1, 0] rfl) hG hS
  refine W.widen (k := 146) (n := 1592) (by omega) (by omega) ?_
  exact W.vret hx hb hr (fun t ht hW => ⟨⟨(), rfl, trivial, GW_e ht hG⟩, hS.F ht⟩) hS.2.2 dX0_init_48

theorem dX7_init_0 : decode cX7_init 0 = .ok (.aload_n 0, 1) := by decide +kernel
theorem dX7_init_1 : decode cX7_init 1 = .ok (.invokespecial 3, 3) := by decide +kernel
theorem dX7_init_4 : decode cX7_init 4 = .ok (.aload_n 0, 1) := by decide +kernel
theorem dX7_init_5 : decode cX7_init 5 = .ok (.new 9, 3) := by decide +kernel
theorem dX7_init_8 : decode cX7_init 8 = .ok (.dup, 1) := by decide +kernel
theorem dX7_init_9 : decode cX7_init 9 = .ok (.invokespecial 11, 3) := by decide +kernel
theorem dX7_init_12 : decode cX7_init 12 = .ok (.putfield 12, 3) := by decide +kernel
theorem dX7_init_15 : decode cX7_init 15 = .ok (.aload_n 0, 1) := by decide +kernel
theorem dX7_init_16 : decode cX7_init 16 = .ok (.aload_n 0, 1) := by decide +kernel
theorem dX7_init_17 : decode cX7_init 17 = .ok (.getfield 12, 3) := by decide +kernel
theorem dX7_init_20 : decode cX7_init 20 = .ok (.getfield 16, 3) := by decide +kernel
theorem dX7_init_23 : decode cX7_init 23 = .ok (.putfield 20, 3) := by decide +kernel
theorem dX7_init_26 : decode cX7_init 26 = .ok (.aload_n 0, 1) := by decide +kernel
theorem dX7_init_27 : decode cX7_init 27 = .ok (.bipush 6, 2) := by decide +kernel
theorem dX7_init_29 : decode cX7_init 29 = .ok (.anewarray 21, 3) := by decide +kernel
theorem dX7_init_32 : decode cX7_init 32 = .ok (.putfield 23, 3) := by decide +kernel
theorem dX7_init_35 : decode cX7_init 35 = .ok (.aload_n 0, 1) := by decide +kernel
theorem dX7_init_36 : decode cX7_init 36 = .ok (.new 27, 3) := by decide +kernel
theorem dX7_init_39 : decode cX7_init 39 = .ok (.dup, 1) := by decide +kernel
theorem dX7_init_40 : decode cX7_init 40 = .ok (.invokespecial 29, 3) := by decide +kernel
theorem dX7_init_43 : decode cX7_init 43 = .ok (.putfield 30, 3) := by decide +kernel
theorem dX7_init_46 : decode cX7_init 46 = .ok (.aload_n 0, 1) := by decide +kernel
theorem dX7_init_47 : decode cX7_init 47 = .ok (.new 34, 3) := by decide +kernel
theorem dX7_init_50 : decode cX7_init 50 = .ok (.dup, 1) := by decide +kernel
theorem dX7_init_51 : decode cX7_init 51 = .ok (.sipush 600, 3) := by decide +kernel
theorem dX7_init_54 : decode cX7_init 54 = .ok (.invokespecial 36, 3) := by decide +kernel
theorem dX7_init_57 : decode cX7_init 57 = .ok (.putfield 39, 3) := by decide +kernel
theorem dX7_init_60 : decode cX7_init 60 = .ok (.iconst 0, 1) := by decide +kernel
theorem dX7_init_61 : decode cX7_init 61 = .ok (.istore_n 1, 1) := by decide +kernel
theorem dX7_init_62 : decode cX7_init 62 = .ok (.iload_n 1, 1) := by decide +kernel
theorem dX7_init_63 : decode cX7_init 63 = .ok (.bipush 6, 2) := by decide +kernel
theorem dX7_init_65 : decode cX7_init 65 = .ok (.if_icmp .ge 22, 3) := by decide +kernel
theorem dX7_init_68 : decode cX7_init 68 = .ok (.aload_n 0, 1) := by decide +kernel
theorem dX7_init_69 : decode cX7_init 69 = .ok (.getfield 23, 3) := by decide +kernel
theorem dX7_init_72 : decode cX7_init 72 = .ok (.iload_n 1, 1) := by decide +kernel
theorem dX7_init_73 : decode cX7_init 73 = .ok (.new 21, 3) := by decide +kernel
theorem dX7_init_76 : decode cX7_init 76 = .ok (.dup, 1) := by decide +kernel
theorem dX7_init_77 : decode cX7_init 77 = .ok (.invokespecial 43, 3) := by decide +kernel
theorem dX7_init_80 : decode cX7_init 80 = .ok (.aastore, 1) := by decide +kernel
theorem dX7_init_81 : decode cX7_init 81 = .ok (.iinc 1 1, 3) := by decide +kernel
theorem dX7_init_84 : decode cX7_init 84 = .ok (.goto (-22), 3) := by decide +kernel
theorem dX7_init_87 : decode cX7_init 87 = .ok (.return_, 1) := by decide +kernel
def rm_X7_init : Room := { frames := 5, cells := 891, slots := 10991, locals := 95 }
def ct_X7_init (κ : Nat → ClassId) (b n : Nat) : List va_E := [.inr (7, [.ref (b + (n + 1)), .ref (b + (n + 2)), .ref (b + (n + 5)), .ref (b + (n + 6)), .ref (b + (n + 8)), .int 0]), .inr (4, [.ref (b + (n + 2)), .ref (b + (n + 4)), .int 0, .int 0, .int 0, .int 0, .int (-1), .int (-1)]), .inr (6, [.ref (b + (n + 3)), .int 0]), .inl (κ 1, 600, .inl (fun _ => 0)), .inl (κ 0, 8, .inl (fun _ => 0)), .inl (κ 2, 6, .inr (.inr (.inr (.inr (gr_i (fun j => b + (n + 10 + 147 * j)) 6))))), .inr (2, [.ref (b + (n + 7)), .int 0]), .inl (κ 0, 192, .inl (fun _ => 0)), .inr (3, [.ref (b + (n + 9)), .int 0, .int 0]), .inl (κ 1, 600, .inl (fun _ => 0))] ++ tl_i (ct_X0_init κ b) (n + 10) 147 6
theorem ctl_X7_init (κ : Nat → ClassId) (b n : Nat) : (ct_X7_init κ b n).length = 892 := by
  rw [ct_X7_init, List.length_append, tl_len (ctl_X0_init κ b)]; rfl
set_option maxHeartbeats 4000000 in
set_option maxRecDepth 100000 in
theorem w_X7_init_loop {p : Program} {l : Launch} {e : Env} {s : State} {m : MethodId} {args : Array Value} {below : List Frame} {meth : Method} {c : Code} {Q : State → Prop} {D : va_G} {κ : Nat → ClassId} {b n : Nat} {H0 : Heap} {es : List va_E} (hn : es.length = n) (hZ : sg_Z p c s m args D κ cX7_init 2 RX7 wsX7_init) (hend : ∀ (H : Heap) (locs : List Loc) (ls : Array Slot), GW D b (es ++ ([.inr (7, [.ref (b + (n + 1)), .ref (b + (n + 2)), .ref (b + (n + 5)), .ref (b + (n + 6)), .ref (b + (n + 8)), .int 0]), .inr (4, [.ref (b + (n + 2)), .ref (b + (n + 4)), .int 0, .int 0, .int 0, .int 0, .int (-1), .int (-1)]), .inr (6, [.ref (b + (n + 3)), .int 0]), .inl (κ 1, 600, .inl (fun _ => 0)), .inl (κ 0, 8, .inl (fun _ => 0)), .inl (κ 2, 6, .inr (.inr (.inr (.inr (gr_i (fun j => b + (n + 10 + 147 * j)) 6))))), .inr (2, [.ref (b + (n + 7)), .int 0]), .inl (κ 0, 192, .inl (fun _ => 0)), .inr (3, [.ref (b + (n + 9)), .int 0, .int 0]), .inl (κ 1, 600, .inl (fun _ => 0))] ++ tl_i (ct_X0_init κ b) (n + 10) 147 6)) H → va_S (fun q => b + n ≤ q) H0 H locs → W p l e rm_X7_init s m args below meth c H locs (9 + 147 * 6) (1421 + 1595 * 6) Q (F0 m 87 ls [])) : ∀ (k i : Nat) {H : Heap} {locs : List Loc} {ls : Array Slot}, i + k = 6 → lv_has ls 2 [(0, .ref (b + n)), (1, .int (nI i))] → GW D b (es ++ ([.inr (7, [.ref (b + (n + 1)), .ref (b + (n + 2)), .ref (b + (n + 5)), .ref (b + (n + 6)), .ref (b + (n + 8)), .int 0]), .inr (4, [.ref (b + (n + 2)), .ref (b + (n + 4)), .int 0, .int 0, .int 0, .int 0, .int (-1), .int (-1)]), .inr (6, [.ref (b + (n + 3)), .int 0]), .inl (κ 1, 600, .inl (fun _ => 0)), .inl (κ 0, 8, .inl (fun _ => 0)), .inl (κ 2, 6, .inr (.inr (.inr (.inr (gr_i (fun j => b + (n + 10 + 147 * j)) i))))), .inr (2, [.ref (b + (n + 7)), .int 0]), .inl (κ 0, 192, .inl (fun _ => 0)), .inr (3, [.ref (b + (n + 9)), .int 0, .int 0]), .inl (κ 1, 600, .inl (fun _ => 0))] ++ tl_i (ct_X0_init κ b) (n + 10) 147 i)) H → va_S (fun q => b + n ≤ q) H0 H locs → W p l e rm_X7_init s m args below meth c H locs (9 + 147 * i) (1421 + 1595 * i) Q (F0 m 62 ls []) := by
  obtain ⟨hx, hb, hml, hown, hts, hK⟩ := hZ
  intro k
  induction k with
  | zero =>
    intro i H locs ls hik hl hG hS
    have hi : i = 6 := by omega
    subst hi
    refine lv_iload_n hx hb dX7_init_62 rfl (lv_at hl 1 rfl) ?_
    refine lv_bipush (v := 6) hx hb dX7_init_63 (by decide) ?_
    refine lv_icmp_ge (tgt := 87) hx hb dX7_init_65 (by decide) (fun _ => hend _ _ _ hG hS) (fun hc => absurd (by decide) hc)
  | succ k ih =>
    intro i H locs ls hik hl hG hS
    have hi : i < 6 := by omega
    refine lv_iload_n hx hb dX7_init_62 rfl (lv_at hl 1 rfl) ?_
    refine lv_bipush (v := 6) hx hb dX7_init_63 (by decide) ?_
    refine lv_icmp_ge (tgt := 87) hx hb dX7_init_65 (by decide) (fun hc => absurd hc (nI_ge (b := 6) hi (by decide))) (fun _ => ?_)
    refine lv_aload_n hx hb dX7_init_68 rfl (lv_at hl 0 rfl) ?_
    refine va_get (D := D) (ci := 7) (v := .ref (b + (n + 5))) (C := RX7) (T := TX7) (N := 6) hx hb hts (wqs inW_X7) hown hK.1 (GW_P hG (gl hn _ 0)) 0 rfl rfl 2 (by decide) (hts _ (wq wt_194)) (fun _ h9 => h9) rfl dX7_init_69 ?_
    refine lv_iload_n hx hb dX7_init_72 rfl (lv_at hl 1 rfl) ?_
    have hlen : (es ++ ([.inr (7, [.ref (b + (n + 1)), .ref (b + (n + 2)), .ref (b + (n + 5)), .ref (b + (n + 6)), .ref (b + (n + 8)), .int 0]), .inr (4, [.ref (b + (n + 2)), .ref (b + (n + 4)), .int 0, .int 0, .int 0, .int 0, .int (-1), .int (-1)]), .inr (6, [.ref (b + (n + 3)), .int 0]), .inl (κ 1, 600, .inl (fun _ => 0)), .inl (κ 0, 8, .inl (fun _ => 0)), .inl (κ 2, 6, .inr (.inr (.inr (.inr (gr_i (fun j => b + (n + 10 + 147 * j)) i))))), .inr (2, [.ref (b + (n + 7)), .int 0]), .inl (κ 0, 192, .inl (fun _ => 0)), .inr (3, [.ref (b + (n + 9)), .int 0, .int 0]), .inl (κ 1, 600, .inl (fun _ => 0))] ++ tl_i (ct_X0_init κ b) (n + 10) 147 i) : List va_E).length = n + 10 + 147 * i := by
      rw [List.length_append, List.length_append, tl_len (ctl_X0_init κ b), hn]
      show n + (10 + 147 * i) = _
      omega
    refine gc_new (D := D) (ci := 0) (fs := [.null, .null, .int 0]) (C := RX0) (T := TX0) (N := 3) hx hb hts (wqs inW_X0) tyX0 tyX0_ok hown (hts _ (wq wt_76)) (hts _ (wq wt_108)) (hts _ (wq wt_6)) hK.1 hG hlen hS rfl (by decide) (by show 9 + 147 * i + 1 ≤ 891; omega) (by show 1421 + 1595 * i + 3 ≤ 10991; omega) dX7_init_73 (fun H hG hS => ?_)
    refine lv_dup hx hb dX7_init_76 rfl ?_
    refine va_callv (va_runI (As := []) (rest := [.ref (b + (n + 10 + 147 * i)), .int (nI i), .ref (b + (n + 5))]) ⟨hx, hb, hml, hown, hts⟩ (c_X0_init l D κ b (n + 10 + 147 * i) (es ++ ([.inr (7, [.ref (b + (n + 1)), .ref (b + (n + 2)), .ref (b + (n + 5)), .ref (b + (n + 6)), .ref (b + (n + 8)), .int 0]), .inr (4, [.ref (b + (n + 2)), .ref (b + (n + 4)), .int 0, .int 0, .int 0, .int 0, .int (-1), .int (-1)]), .inr (6, [.ref (b + (n + 3)), .int 0]), .inl (κ 1, 600, .inl (fun _ => 0)), .inl (κ 0, 8, .inl (fun _ => 0)), .inl (κ 2, 6, .inr (.inr (.inr (.inr (gr_i (fun j => b + (n + 10 + 147 * j)) i))))), .inr (2, [.ref (b + (n + 7)), .int 0]), .inl (κ 0, 192, .inl (fun _ => 0)), .inr (3, [.ref (b + (n + 9)), .int 0, .int 0]), .inl (κ 1, 600, .inl (fun _ => 0))] ++ tl_i (ct_X0_init κ b) (n + 10) 147 i)) hlen) (cwI 0 hts (gw0 wt_111) rfl rfl rfl (hts _ (wq wt_6)) (hts _ (wq wt_109)) (hts _ (wq wt_110)) rfl (by decide +kernel) ⟨Nat.le_of_ble_eq_true rfl, Nat.le_of_ble_eq_true rfl⟩) (GW_preS hK hG) rfl rfl hl.1 rfl (lv_room (Nat.le_of_ble_eq_true rfl)) dX7_init_77 ⟨by show 9 + 147 * i + 1 + 146 ≤ 891; omega, by show 1421 + 1595 * i + 3 + 1592 ≤ 10991; omega⟩) hS (fun _ _ h => Nat.le_trans (by omega) h) (fun _ h => Nat.le_trans (by omega) h) (fun u t H locs ht _ _ hG _ _ hS => ?_)
    have hG := GW_b hG ht rfl
    have hq : ((es ++ ([.inr (7, [.ref (b + (n + 1)), .ref (b + (n + 2)), .ref (b + (n + 5)), .ref (b + (n + 6)), .ref (b + (n + 8)), .int 0]), .inr (4, [.ref (b + (n + 2)), .ref (b + (n + 4)), .int 0, .int 0, .int 0, .int 0, .int (-1), .int (-1)]), .inr (6, [.ref (b + (n + 3)), .int 0]), .inl (κ 1, 600, .inl (fun _ => 0)), .inl (κ 0, 8, .inl (fun _ => 0)), .inl (κ 2, 6, .inr (.inr (.inr (.inr (gr_i (fun j => b + (n + 10 + 147 * j)) i))))), .inr (2, [.ref (b + (n + 7)), .int 0]), .inl (κ 0, 192, .inl (fun _ => 0)), .inr (3, [.ref (b + (n + 9)), .int 0, .int 0]), .inl (κ 1, 600, .inl (fun _ => 0))] ++ tl_i (ct_X0_init κ b) (n + 10) 147 i) : List va_E) ++ ct_X0_init κ b (n + 10 + 147 * i))[n + 10 + 147 * i + 0]? = some (.inr (0, [.ref (b + ((n + 10 + 147 * i) + 1)), .ref (b + ((n + 10 + 147 * i) + 2)), .int 0])) := (gl hlen _ 0).trans rfl
    have he : (es ++ ([.inr (7, [.ref (b + (n + 1)), .ref (b + (n + 2)), .ref (b + (n + 5)), .ref (b + (n + 6)), .ref (b + (n + 8)), .int 0]), .inr (4, [.ref (b + (n + 2)), .ref (b + (n + 4)), .int 0, .int 0, .int 0, .int 0, .int (-1), .int (-1)]), .inr (6, [.ref (b + (n + 3)), .int 0]), .inl (κ 1, 600, .inl (fun _ => 0)), .inl (κ 0, 8, .inl (fun _ => 0)), .inl (κ 2, 6, .inr (.inr (.inr (.inr (gr_i (fun j => b + (n + 10 + 147 * j)) i))))), .inr (2, [.ref (b + (n + 7)), .int 0]), .inl (κ 0, 192, .inl (fun _ => 0)), .inr (3, [.ref (b + (n + 9)), .int 0, .int 0]), .inl (κ 1, 600, .inl (fun _ => 0))] ++ tl_i (ct_X0_init κ b) (n + 10) 147 i) : List va_E) ++ ct_X0_init κ b (n + 10 + 147 * i) = es ++ ([.inr (7, [.ref (b + (n + 1)), .ref (b + (n + 2)), .ref (b + (n + 5)), .ref (b + (n + 6)), .ref (b + (n + 8)), .int 0]), .inr (4, [.ref (b + (n + 2)), .ref (b + (n + 4)), .int 0, .int 0, .int 0, .int 0, .int (-1), .int (-1)]), .inr (6, [.ref (b + (n + 3)), .int 0]), .inl (κ 1, 600, .inl (fun _ => 0)), .inl (κ 0, 8, .inl (fun _ => 0)), .inl (κ 2, 6, .inr (.inr (.inr (.inr (gr_i (fun j => b + (n + 10 + 147 * j)) i))))), .inr (2, [.ref (b + (n + 7)), .int 0]), .inl (κ 0, 192, .inl (fun _ => 0)), .inr (3, [.ref (b + (n + 9)), .int 0, .int 0]), .inl (κ 1, 600, .inl (fun _ => 0))] ++ (tl_i (ct_X0_init κ b) (n + 10) 147 i ++ ct_X0_init κ b (n + 10 + 147 * i))) := by rw [List.append_assoc, List.append_assoc]
    rw [he] at hG hq
    refine gc_astq (r := (RX0, TX0, 3)) hx hb hK.1 hG hS (n + 5) 2 (n + 10 + 147 * i + 0) 0 (by omega) (gl hn _ 5) rfl hq rfl (vp_in_nI hi (by decide)) dX7_init_80 (fun H locs hG hS => ?_)
    have hG : GW D b (es ++ ([.inr (7, [.ref (b + (n + 1)), .ref (b + (n + 2)), .ref (b + (n + 5)), .ref (b + (n + 6)), .ref (b + (n + 8)), .int 0]), .inr (4, [.ref (b + (n + 2)), .ref (b + (n + 4)), .int 0, .int 0, .int 0, .int 0, .int (-1), .int (-1)]), .inr (6, [.ref (b + (n + 3)), .int 0]), .inl (κ 1, 600, .inl (fun _ => 0)), .inl (κ 0, 8, .inl (fun _ => 0)), .inl (κ 2, 6, .inr (.inr (.inr (.inr (gr_i (fun j => b + (n + 10 + 147 * j)) (i + 1)))))), .inr (2, [.ref (b + (n + 7)), .int 0]), .inl (κ 0, 192, .inl (fun _ => 0)), .inr (3, [.ref (b + (n + 9)), .int 0, .int 0]), .inl (κ 1, 600, .inl (fun _ => 0))] ++ tl_i (ct_X0_init κ b) (n + 10) 147 (i + 1))) H := by
      rw [gs hn, nI_clamp (by omega)] at hG
      rw [tl_is, ← gr_is]
      exact hG
    refine lv_iinc (v := nI (i + 1)) (lv' := [(1, .int (nI (i + 1))), (0, .ref (b + n))]) (k := 1) hx hb dX7_init_81 hl rfl (sg_inc (by decide) (nI_1 i)) (by decide) rfl (fun ls hl => ?_)
    refine lv_goto (tgt := 62) hx hb dX7_init_84 (by decide) ?_
    refine W.widen (k := 9 + 147 * (i + 1)) (n := 1421 + 1595 * (i + 1)) (by omega) (by omega) ?_
    exact ih (i + 1) (by omega) (lv_sub hl [1, 0] rfl) hG hS
set_option maxHeartbeats 4000000 in
set_option maxRecDepth 100000 in
theorem c_X7_init (l : Launch) (D : va_G) (κ : Nat → ClassId) (b n : Nat) (es : List va_E) (hn : es.length = n) : Met l yX7_init wsX7_init rm_X7_init (va_Pc [.ref (b + n)] (fun U => KK D κ U ∧ GW D b (es ++ [.inr (7, [.null, .null, .null, .null, .null, .int 0])]) U.heap)) (va_Qv (fun _ : Unit => True) (fun _ t => GW D b (es ++ ct_X7_init κ b n) t.heap) (fun q => b + n ≤ q)) 891 10991 (fun q => b + n ≤ q) := by
  refine Met.ofW (cc := cX7_init) (maxL := 2) (ret := none) (by decide) rfl ?_
  intro p e s m args below meth c s₁ B hml hv
  obtain ⟨rfl, hK, hG⟩ := hv
  have hx := B.exec
  have hb := B.bytes
  have hr := B.returns
  have hts := atoms_spec (ws := wsX7_init) B.pre
  have hown : s.vm.findClass RX7 = some m.cls := findClass_of_methodNamed B.named
  have hlocks := B.notSynchronized
  have hin : meth.name = "<init>" := (name_of_methodNamed B.named B.method).1
  have hS : va_S (fun q => b + n ≤ q) s.heap s.heap [] := va_S.rf
  have hl := lv_entry ([.ref (b + n)]) (n := 2) (Nat.le_of_ble_eq_true rfl)
  rw [lg_entry_eq]
  generalize (lg_sl ([.ref (b + n)]) ++ List.replicate (2 - (lg_sl ([.ref (b + n)])).length) Slot.unset).toArray = ls at hl ⊢
  have hl : lv_has ls 2 [(0, .ref (b + n))] := hl
  refine lv_aload_n hx hb dX7_init_0 rfl (lv_at hl 0 rfl) ?_
  refine W.objInit hx hb hown (hts _ (wq wt_21)) (hts _ (wq wt_22)) (hts _ (wq wt_23)) rfl (by rw [hml]; exact hl.1) rfl dX7_init_1 (Nat.le_of_ble_eq_true rfl) (Nat.le_of_ble_eq_true rfl) ?_
  refine W.eq (g2 := F0 m 4 ls []) rfl ?_
  refine lv_aload_n hx hb dX7_init_4 rfl (lv_at hl 0 rfl) ?_
  refine gc_new (D := D) (ci := 4) (fs := [.null, .null, .int 0, .int 0, .int 0, .int 0, .int 0, .int 0]) (C := RX4) (T := TX4) (N := 8) hx hb hts (wqs inW_X4) tyX4 tyX4_ok hown (hts _ (wq wt_24)) (hts _ (wq wt_25)) (hts _ (wq wt_2)) hK.1 hG (n9 := n + 1) (by simp [hn]) hS rfl (by decide) (Nat.le_of_ble_eq_true rfl) (Nat.le_of_ble_eq_true rfl) dX7_init_5 (fun H hG hS => ?_)
  have hG : GW D b (es ++ [.inr (7, [.null, .null, .null, .null, .null, .int 0]), .inr (4, [.null, .null, .int 0, .int 0, .int 0, .int 0, .int 0, .int 0])]) H := by rw [List.append_assoc] at hG; exact hG
  refine lv_dup hx hb dX7_init_8 rfl ?_
  have hGc : GW D b ((es ++ [.inr (7, [.null, .null, .null, .null, .null, .int 0])]) ++ [.inr (4, [.null, .null, .int 0, .int 0, .int 0, .int 0, .int 0, .int 0])]) H := by rw [List.append_assoc]; exact hG
  refine va_callv (va_runIN (As := []) (rest := [.ref (b + (n + 1)), .ref (b + n)]) ⟨hx, hb, hml, hown, hts⟩ (c_X4_init l D κ b (n + 1) (es ++ [.inr (7, [.null, .null, .null, .null, .null, .int 0])]) (by simp [hn])) ⟨va_cnB 0 hts (gw0 wt_28) rfl rfl rfl (nm_0 hK) (hts _ (wq wt_2)) (by decide +kernel) ⟨Nat.le_of_ble_eq_true rfl, Nat.le_of_ble_eq_true rfl⟩, rfl, hts _ (wq wt_27)⟩ (GW_preS hK hGc) rfl rfl hl.1 rfl (lv_room (Nat.le_of_ble_eq_true rfl)) dX7_init_9 ⟨Nat.le_of_ble_eq_true rfl, Nat.le_of_ble_eq_true rfl⟩) hS (fun _ _ h => Nat.le_trans (by omega) h) (fun _ h => Nat.le_trans (by omega) h) (fun u t H locs ht _ _ hG _ _ hS => ?_)
  have hG : GW D b (es ++ [.inr (7, [.null, .null, .null, .null, .null, .int 0]), .inr (4, [.ref (b + (n + 2)), .ref (b + (n + 4)), .int 0, .int 0, .int 0, .int 0, .int (-1), .int (-1)]), .inr (6, [.ref (b + (n + 3)), .int 0]), .inl (κ 1, 600, .inl (fun _ => 0)), .inl (κ 0, 8, .inl (fun _ => 0))]) H := GW_b hG ht (List.append_assoc _ _ _)
  refine gc_putF (ci := 7) (v := .ref (b + (n + 1))) (ty := .object "RecordShelf$Reader") (C := RX7) (T := TX7) (N := 6) hx hb hts (wqs inW_X7) tyX7 tyX7_ok nmX7 hown hK.1 hG hS (n + 0) (Nat.le_refl _) (gl hn _ 0) rfl 0 (by decide) (hts _ (wq wt_192)) (fun _ h9 => h9) rfl hin rfl (by decide +kernel) rfl rfl (Nat.le_of_ble_eq_true rfl) dX7_init_12 (fun H locs hG hS => ?_)
  have hG : GW D b (es ++ [.inr (7, [.ref (b + (n + 1)), .null, .null, .null, .null, .int 0]), .inr (4, [.ref (b + (n + 2)), .ref (b + (n + 4)), .int 0, .int 0, .int 0, .int 0, .int (-1), .int (-1)]), .inr (6, [.ref (b + (n + 3)), .int 0]), .inl (κ 1, 600, .inl (fun _ => 0)), .inl (κ 0, 8, .inl (fun _ => 0))]) H := by rw [gs hn] at hG; exact hG
  refine lv_aload_n hx hb dX7_init_15 rfl (lv_at hl 0 rfl) ?_
  refine lv_aload_n hx hb dX7_init_16 rfl (lv_at hl 0 rfl) ?_
  refine va_get (D := D) (ci := 7) (v := .ref (b + (n + 1))) (C := RX7) (T := TX7) (N := 6) hx hb hts (wqs inW_X7) hown hK.1 (GW_P hG (gl hn _ 0)) 0 rfl rfl 0 (by decide) (hts _ (wq wt_192)) (fun _ h9 => h9) rfl dX7_init_17 ?_
  refine va_getN (D := D) (ci := 4) (v := .ref (b + (n + 2))) (C := RX4) (T := TX4) (N := 8) hx hb hts (wqs inW_X4) hown hK.1 (GW_P hG (gl hn _ 1)) 0 rfl rfl 0 (by decide) (nf_3 hK) (fun _ h9 => h9) rfl dX7_init_20 ?_
  refine gc_putF (ci := 7) (v := .ref (b + (n + 2))) (ty := .object "RecordShelf$Text") (C := RX7) (T := TX7) (N := 6) hx hb hts (wqs inW_X7) tyX7 tyX7_ok nmX7 hown hK.1 hG hS (n + 0) (Nat.le_refl _) (gl hn _ 0) rfl 1 (by decide) (hts _ (wq wt_193)) (fun _ h9 => h9) rfl hin rfl (by decide +kernel) rfl rfl (Nat.le_of_ble_eq_true rfl) dX7_init_23 (fun H locs hG hS => ?_)
  have hG : GW D b (es ++ [.inr (7, [.ref (b + (n + 1)), .ref (b + (n + 2)), .null, .null, .null, .int 0]), .inr (4, [.ref (b + (n + 2)), .ref (b + (n + 4)), .int 0, .int 0, .int 0, .int 0, .int (-1), .int (-1)]), .inr (6, [.ref (b + (n + 3)), .int 0]), .inl (κ 1, 600, .inl (fun _ => 0)), .inl (κ 0, 8, .inl (fun _ => 0))]) H := by rw [gs hn] at hG; exact hG
  refine lv_aload_n hx hb dX7_init_26 rfl (lv_at hl 0 rfl) ?_
  refine lv_bipush (v := 6) hx hb dX7_init_27 (by decide) ?_
  refine gc_newq (t0 := 2) hx hb hown (hts _ (wq wt_76)) (va_AO.use hK.2.2.2.1) hK.1 rfl hG (n9 := n + 5) (by simp [hn]) hS (by decide) (N' := 6) (by decide) (by decide) (Nat.le_of_ble_eq_true rfl) (Nat.le_of_ble_eq_true rfl) dX7_init_29 (fun H hG hS => ?_)
  have hG : GW D b (es ++ [.inr (7, [.ref (b + (n + 1)), .ref (b + (n + 2)), .null, .null, .null, .int 0]), .inr (4, [.ref (b + (n + 2)), .ref (b + (n + 4)), .int 0, .int 0, .int 0, .int 0, .int (-1), .int (-1)]), .inr (6, [.ref (b + (n + 3)), .int 0]), .inl (κ 1, 600, .inl (fun _ => 0)), .inl (κ 0, 8, .inl (fun _ => 0)), .inl (κ 2, 6, .inr (.inr (.inr (.inr (fun _ => none)))))]) H := by rw [List.append_assoc] at hG; exact hG
  refine gc_putF (ci := 7) (v := .ref (b + (n + 5))) (ty := .array (.object "RecordShelf$Card")) (C := RX7) (T := TX7) (N := 6) hx hb hts (wqs inW_X7) tyX7 tyX7_ok nmX7 hown hK.1 hG hS (n + 0) (Nat.le_refl _) (gl hn _ 0) rfl 2 (by decide) (hts _ (wq wt_194)) (fun _ h9 => h9) rfl hin rfl (by decide +kernel) rfl rfl (Nat.le_of_ble_eq_true rfl) dX7_init_32 (fun H locs hG hS => ?_)
  have hG : GW D b (es ++ [.inr (7, [.ref (b + (n + 1)), .ref (b + (n + 2)), .ref (b + (n + 5)), .null, .null, .int 0]), .inr (4, [.ref (b + (n + 2)), .ref (b + (n + 4)), .int 0, .int 0, .int 0, .int 0, .int (-1), .int (-1)]), .inr (6, [.ref (b + (n + 3)), .int 0]), .inl (κ 1, 600, .inl (fun _ => 0)), .inl (κ 0, 8, .inl (fun _ => 0)), .inl (κ 2, 6, .inr (.inr (.inr (.inr (fun _ => none)))))]) H := by rw [gs hn] at hG; exact hG
  refine lv_aload_n hx hb dX7_init_35 rfl (lv_at hl 0 rfl) ?_
  refine gc_new (D := D) (ci := 2) (fs := [.null, .int 0]) (C := RX2) (T := TX2) (N := 2) hx hb hts (wqs inW_X2) tyX2 tyX2_ok hown (hts _ (wq wt_78)) (hts _ (wq wt_79)) (hts _ (wq wt_4)) hK.1 hG (n9 := n + 6) (by simp [hn]) hS rfl (by decide) (Nat.le_of_ble_eq_true rfl) (Nat.le_of_ble_eq_true rfl) dX7_init_36 (fun H hG hS => ?_)
  have hG : GW D b (es ++ [.inr (7, [.ref (b + (n + 1)), .ref (b + (n + 2)), .ref (b + (n + 5)), .null, .null, .int 0]), .inr (4, [.ref (b + (n + 2)), .ref (b + (n + 4)), .int 0, .int 0, .int 0, .int 0, .int (-1), .int (-1)]), .inr (6, [.ref (b + (n + 3)), .int 0]), .inl (κ 1, 600, .inl (fun _ => 0)), .inl (κ 0, 8, .inl (fun _ => 0)), .inl (κ 2, 6, .inr (.inr (.inr (.inr (fun _ => none))))), .inr (2, [.null, .int 0])]) H := by rw [List.append_assoc] at hG; exact hG
  refine lv_dup hx hb dX7_init_39 rfl ?_
  have hGc : GW D b ((es ++ [.inr (7, [.ref (b + (n + 1)), .ref (b + (n + 2)), .ref (b + (n + 5)), .null, .null, .int 0]), .inr (4, [.ref (b + (n + 2)), .ref (b + (n + 4)), .int 0, .int 0, .int 0, .int 0, .int (-1), .int (-1)]), .inr (6, [.ref (b + (n + 3)), .int 0]), .inl (κ 1, 600, .inl (fun _ => 0)), .inl (κ 0, 8, .inl (fun _ => 0)), .inl (κ 2, 6, .inr (.inr (.inr (.inr (fun _ => none)))))]) ++ [.inr (2, [.null, .int 0])]) H := by rw [List.append_assoc]; exact hG
  refine va_callv (va_runIN (As := []) (rest := [.ref (b + (n + 6)), .ref (b + n)]) ⟨hx, hb, hml, hown, hts⟩ (c_X2_init l D κ b (n + 6) (es ++ [.inr (7, [.ref (b + (n + 1)), .ref (b + (n + 2)), .ref (b + (n + 5)), .null, .null, .int 0]), .inr (4, [.ref (b + (n + 2)), .ref (b + (n + 4)), .int 0, .int 0, .int 0, .int 0, .int (-1), .int (-1)]), .inr (6, [.ref (b + (n + 3)), .int 0]), .inl (κ 1, 600, .inl (fun _ => 0)), .inl (κ 0, 8, .inl (fun _ => 0)), .inl (κ 2, 6, .inr (.inr (.inr (.inr (fun _ => none)))))]) (by simp [hn])) ⟨va_cnB 0 hts (gw0 wt_82) rfl rfl rfl (nm_2 hK) (hts _ (wq wt_4)) (by decide +kernel) ⟨Nat.le_of_ble_eq_true rfl, Nat.le_of_ble_eq_true rfl⟩, rfl, hts _ (wq wt_81)⟩ (GW_preS hK hGc) rfl rfl hl.1 rfl (lv_room (Nat.le_of_ble_eq_true rfl)) dX7_init_40 ⟨Nat.le_of_ble_eq_true rfl, Nat.le_of_ble_eq_true rfl⟩) hS (fun _ _ h => Nat.le_trans (by omega) h) (fun _ h => Nat.le_trans (by omega) h) (fun u t H locs ht _ _ hG _ _ hS => ?_)
  have hG : GW D b (es ++ [.inr (7, [.ref (b + (n + 1)), .ref (b + (n + 2)), .ref (b + (n + 5)), .null, .null, .int 0]), .inr (4, [.ref (b + (n + 2)), .ref (b + (n + 4)), .int 0, .int 0, .int 0, .int 0, .int (-1), .int (-1)]), .inr (6, [.ref (b + (n + 3)), .int 0]), .inl (κ 1, 600, .inl (fun _ => 0)), .inl (κ 0, 8, .inl (fun _ => 0)), .inl (κ 2, 6, .inr (.inr (.inr (.inr (fun _ => none))))), .inr (2, [.ref (b + (n + 7)), .int 0]), .inl (κ 0, 192, .inl (fun _ => 0))]) H := GW_b hG ht (List.append_assoc _ _ _)
  refine gc_putF (ci := 7) (v := .ref (b + (n + 6))) (ty := .object "RecordShelf$Headings") (C := RX7) (T := TX7) (N := 6) hx hb hts (wqs inW_X7) tyX7 tyX7_ok nmX7 hown hK.1 hG hS (n + 0) (Nat.le_refl _) (gl hn _ 0) rfl 3 (by decide) (hts _ (wq wt_195)) (fun _ h9 => h9) rfl hin rfl (by decide +kernel) rfl rfl (Nat.le_of_ble_eq_true rfl) dX7_init_43 (fun H locs hG hS => ?_)
  have hG : GW D b (es ++ [.inr (7, [.ref (b + (n + 1)), .ref (b + (n + 2)), .ref (b + (n + 5)), .ref (b + (n + 6)), .null, .int 0]), .inr (4, [.ref (b + (n + 2)), .ref (b + (n + 4)), .int 0, .int 0, .int 0, .int 0, .int (-1), .int (-1)]), .inr (6, [.ref (b + (n + 3)), .int 0]), .inl (κ 1, 600, .inl (fun _ => 0)), .inl (κ 0, 8, .inl (fun _ => 0)), .inl (κ 2, 6, .inr (.inr (.inr (.inr (fun _ => none))))), .inr (2, [.ref (b + (n + 7)), .int 0]), .inl (κ 0, 192, .inl (fun _ => 0))]) H := by rw [gs hn] at hG; exact hG
  refine lv_aload_n hx hb dX7_init_46 rfl (lv_at hl 0 rfl) ?_
  refine gc_new (D := D) (ci := 3) (fs := [.null, .int 0, .int 0]) (C := RX3) (T := TX3) (N := 3) hx hb hts (wqs inW_X3) tyX3 tyX3_ok hown (hts _ (wq wt_92)) (hts _ (wq wt_93)) (hts _ (wq wt_5)) hK.1 hG (n9 := n + 8) (by simp [hn]) hS rfl (by decide) (Nat.le_of_ble_eq_true rfl) (Nat.le_of_ble_eq_true rfl) dX7_init_47 (fun H hG hS => ?_)
  have hG : GW D b (es ++ [.inr (7, [.ref (b + (n + 1)), .ref (b + (n + 2)), .ref (b + (n + 5)), .ref (b + (n + 6)), .null, .int 0]), .inr (4, [.ref (b + (n + 2)), .ref (b + (n + 4)), .int 0, .int 0, .int 0, .int 0, .int (-1), .int (-1)]), .inr (6, [.ref (b + (n + 3)), .int 0]), .inl (κ 1, 600, .inl (fun _ => 0)), .inl (κ 0, 8, .inl (fun _ => 0)), .inl (κ 2, 6, .inr (.inr (.inr (.inr (fun _ => none))))), .inr (2, [.ref (b + (n + 7)), .int 0]), .inl (κ 0, 192, .inl (fun _ => 0)), .inr (3, [.null, .int 0, .int 0])]) H := by rw [List.append_assoc] at hG; exact hG
  refine lv_dup hx hb dX7_init_50 rfl ?_
  refine lv_sipush (v := 600) hx hb dX7_init_51 (by decide) ?_
  have hGc : GW D b ((es ++ [.inr (7, [.ref (b + (n + 1)), .ref (b + (n + 2)), .ref (b + (n + 5)), .ref (b + (n + 6)), .null, .int 0]), .inr (4, [.ref (b + (n + 2)), .ref (b + (n + 4)), .int 0, .int 0, .int 0, .int 0, .int (-1), .int (-1)]), .inr (6, [.ref (b + (n + 3)), .int 0]), .inl (κ 1, 600, .inl (fun _ => 0)), .inl (κ 0, 8, .inl (fun _ => 0)), .inl (κ 2, 6, .inr (.inr (.inr (.inr (fun _ => none))))), .inr (2, [.ref (b + (n + 7)), .int 0]), .inl (κ 0, 192, .inl (fun _ => 0))]) ++ [.inr (3, [.null, .int 0, .int 0])]) H := by rw [List.append_assoc]; exact hG
  refine va_callv (va_runI (As := [.int (nI 600)]) (rest := [.ref (b + (n + 8)), .ref (b + n)]) ⟨hx, hb, hml, hown, hts⟩ (c_X3_init l D κ b (n + 8) (es ++ [.inr (7, [.ref (b + (n + 1)), .ref (b + (n + 2)), .ref (b + (n + 5)), .ref (b + (n + 6)), .null, .int 0]), .inr (4, [.ref (b + (n + 2)), .ref (b + (n + 4)), .int 0, .int 0, .int 0, .int 0, .int (-1), .int (-1)]), .inr (6, [.ref (b + (n + 3)), .int 0]), .inl (κ 1, 600, .inl (fun _ => 0)), .inl (κ 0, 8, .inl (fun _ => 0)), .inl (κ 2, 6, .inr (.inr (.inr (.inr (fun _ => none))))), .inr (2, [.ref (b + (n + 7)), .int 0]), .inl (κ 0, 192, .inl (fun _ => 0))]) (by simp [hn]) 600 (by decide) (by decide)) (cwI 1 hts (gw0 wt_96) rfl rfl rfl (hts _ (wq wt_5)) (hts _ (wq wt_94)) (hts _ (wq wt_95)) rfl (by decide +kernel) ⟨Nat.le_of_ble_eq_true rfl, Nat.le_of_ble_eq_true rfl⟩) (GW_preS hK hGc) rfl rfl hl.1 rfl (lv_room (Nat.le_of_ble_eq_true rfl)) dX7_init_54 ⟨Nat.le_of_ble_eq_true rfl, Nat.le_of_ble_eq_true rfl⟩) hS (fun _ _ h => Nat.le_trans (by omega) h) (fun _ h => Nat.le_trans (by omega) h) (fun u t H locs ht _ _ hG _ _ hS => ?_)
  have hG : GW D b (es ++ [.inr (7, [.ref (b + (n + 1)), .ref (b + (n + 2)), .ref (b + (n + 5)), .ref (b + (n + 6)), .null, .int 0]), .inr (4, [.ref (b + (n + 2)), .ref (b + (n + 4)), .int 0, .int 0, .int 0, .int 0, .int (-1), .int (-1)]), .inr (6, [.ref (b + (n + 3)), .int 0]), .inl (κ 1, 600, .inl (fun _ => 0)), .inl (κ 0, 8, .inl (fun _ => 0)), .inl (κ 2, 6, .inr (.inr (.inr (.inr (fun _ => none))))), .inr (2, [.ref (b + (n + 7)), .int 0]), .inl (κ 0, 192, .inl (fun _ => 0)), .inr (3, [.ref (b + (n + 9)), .int 0, .int 0]), .inl (κ 1, 600, .inl (fun _ => 0))]) H := GW_b hG ht (List.append_assoc _ _ _)
  refine gc_putF (ci := 7) (v := .ref (b + (n + 8))) (ty := .object "RecordShelf$Key") (C := RX7) (T := TX7) (N := 6) hx hb hts (wqs inW_X7) tyX7 tyX7_ok nmX7 hown hK.1 hG hS (n + 0) (Nat.le_refl _) (gl hn _ 0) rfl 4 (by decide) (hts _ (wq wt_196)) (fun _ h9 => h9) rfl hin rfl (by decide +kernel) rfl rfl (Nat.le_of_ble_eq_true rfl) dX7_init_57 (fun H locs hG hS => ?_)
  have hG : GW D b (es ++ [.inr (7, [.ref (b + (n + 1)), .ref (b + (n + 2)), .ref (b + (n + 5)), .ref (b + (n + 6)), .ref (b + (n + 8)), .int 0]), .inr (4, [.ref (b + (n + 2)), .ref (b + (n + 4)), .int 0, .int 0, .int 0, .int 0, .int (-1), .int (-1)]), .inr (6, [.ref (b + (n + 3)), .int 0]), .inl (κ 1, 600, .inl (fun _ => 0)), .inl (κ 0, 8, .inl (fun _ => 0)), .inl (κ 2, 6, .inr (.inr (.inr (.inr (fun _ => none))))), .inr (2, [.ref (b + (n + 7)), .int 0]), .inl (κ 0, 192, .inl (fun _ => 0)), .inr (3, [.ref (b + (n + 9)), .int 0, .int 0]), .inl (κ 1, 600, .inl (fun _ => 0))]) H := by rw [gs hn] at hG; exact hG
  refine lv_iconst (v := 0) hx hb dX7_init_60 (by decide) ?_
  refine lv_istore_n (lv' := [(1, .int 0), (0, .ref (b + n))]) hx hb dX7_init_61 rfl hl (by decide) rfl (fun ls hl => ?_)
  have hG : GW D b (es ++ ([.inr (7, [.ref (b + (n + 1)), .ref (b + (n + 2)), .ref (b + (n + 5)), .ref (b + (n + 6)), .ref (b + (n + 8)), .int 0]), .inr (4, [.ref (b + (n + 2)), .ref (b + (n + 4)), .int 0, .int 0, .int 0, .int 0, .int (-1), .int (-1)]), .inr (6, [.ref (b + (n + 3)), .int 0]), .inl (κ 1, 600, .inl (fun _ => 0)), .inl (κ 0, 8, .inl (fun _ => 0)), .inl (κ 2, 6, .inr (.inr (.inr (.inr (gr_i (fun j => b + (n + 10 + 147 * j)) 0))))), .inr (2, [.ref (b + (n + 7)), .int 0]), .inl (κ 0, 192, .inl (fun _ => 0)), .inr (3, [.ref (b + (n + 9)), .int 0, .int 0]), .inl (κ 1, 600, .inl (fun _ => 0))] ++ tl_i (ct_X0_init κ b) (n + 10) 147 0)) H := by
    rw [gr_i0]
    exact hG
  refine W.widen (k := 9 + 147 * 0) (n := 1421 + 1595 * 0) (by omega) (by omega) ?_
  refine w_X7_init_loop (H0 := s.heap) hn ⟨hx, hb, hml, hown, hts, hK⟩ (fun H locs ls hG hS => ?_) 6 0 (by omega) (lv_sub hl [1, 0] rfl) hG hS
  refine W.widen (k := 891) (n := 10991) (by omega) (by omega) ?_
  exact W.vret hx hb hr (fun t ht hW => ⟨⟨(), rfl, trivial, GW_e ht hG⟩, hS.F ht⟩) hS.2.2 dX7_init_87
