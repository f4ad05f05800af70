theorem nF_in : ∀ q ∈ sg_nF, (Cond.fieldLinkNest q.1 q.2.1 q.2.2.1 q.2.2.2.1 q.2.2.2.2.1 q.2.2.2.2.2) ∈ lw_tbl := by decide +kernel
theorem nM_in : ∀ q ∈ sg_nM, (Cond.methodLinkNest q.1 q.2.1 q.2.2.1 q.2.2.2) ∈ lw_tbl := by decide +kernel
theorem ao_0 : (Cond.arrayOver (.object "RecordShelf$Card")) ∈ lw_tbl := (List.mem_append_right _ (List.mem_of_getElem? (i := 77) (by decide +kernel)))
theorem ao_1 : (Cond.arrayOver (.object "RecordShelf$Field")) ∈ lw_tbl := (List.mem_append_right _ (List.mem_of_getElem? (i := 114) (by decide +kernel)))
theorem ao_2 : (Cond.arrayOver (.object "RecordShelf$Subfield")) ∈ lw_tbl := (List.mem_append_right _ (List.mem_of_getElem? (i := 121) (by decide +kernel)))
set_option maxHeartbeats 4000000 in
theorem lw_KK {s : State} {args : Array Value} (hts : ∀ w ∈ lw_tbl, w.before args s = true) : ∃ (D : va_G) (κ : Nat → ClassId), KK D κ s := by
  obtain ⟨c0, i0, h0⟩ := u_known (C := RX0) (T := TX0) (N := 3) (n := 3) hts (fun w h => wa_tbl (inW_X0 w h)) (hts _ (wa_tbl wt_108))
  obtain ⟨c1, i1, h1⟩ := u_known (C := RX1) (T := TX1) (N := 5) (n := 5) hts (fun w h => wa_tbl (inW_X1 w h)) (hts _ (wa_tbl wt_115))
  obtain ⟨c2, i2, h2⟩ := u_known (C := RX2) (T := TX2) (N := 2) (n := 2) hts (fun w h => wa_tbl (inW_X2 w h)) (hts _ (wa_tbl wt_79))
  obtain ⟨c3, i3, h3⟩ := u_known (C := RX3) (T := TX3) (N := 3) (n := 3) hts (fun w h => wa_tbl (inW_X3 w h)) (hts _ (wa_tbl wt_93))
  obtain ⟨c4, i4, h4⟩ := u_known (C := RX4) (T := TX4) (N := 8) (n := 8) hts (fun w h => wa_tbl (inW_X4 w h)) (hts _ (wa_tbl wt_25))
  obtain ⟨c5, i5, h5⟩ := u_known (C := RX5) (T := TX5) (N := 4) (n := 4) hts (fun w h => wa_tbl (inW_X5 w h)) (hts _ (wa_tbl wt_122))
  obtain ⟨c6, i6, h6⟩ := u_known (C := RX6) (T := TX6) (N := 2) (n := 2) hts (fun w h => wa_tbl (inW_X6 w h)) (hts _ (wa_tbl wt_31))
  obtain ⟨c7, i7, h7⟩ := u_known (C := RX7) (T := TX7) (N := 6) (n := 6) hts (fun w h => wa_tbl (inW_X7 w h)) (hts _ (wa_tbl wt_17))
  obtain ⟨c8, i8, h8⟩ := u_known (C := RX8) (T := TX8) (N := 21) (n := 21) hts (fun w h => wa_tbl (inW_X8 w h)) (hts _ (wa_tbl wt_643))
  obtain ⟨cI, kI, pI, a1, a2, a3⟩ := Cond.arrayClass_spec (hts _ (wa_tbl wt_75))
  obtain ⟨cC, kC, pC, b1, b2, b3⟩ := Cond.arrayClass_spec (hts _ (wa_tbl wt_46))
  obtain ⟨p0, e0, k0, f01, -, f02, f03, f04⟩ := Cond.arrayOver_spec (hts _ ao_0)
  obtain ⟨p1, e1, k1, f11, -, f12, f13, f14⟩ := Cond.arrayOver_spec (hts _ ao_1)
  obtain ⟨p2, e2, k2, f21, -, f22, f23, f24⟩ := Cond.arrayOver_spec (hts _ ao_2)
  refine ⟨(fun c => match c with | 0 => c0 | 1 => c1 | 2 => c2 | 3 => c3 | 4 => c4 | 5 => c5 | 6 => c6 | 7 => c7 | _ => c8, fun c => match c with | 0 => i0 | 1 => i1 | 2 => i2 | 3 => i3 | 4 => i4 | 5 => i5 | 6 => i6 | 7 => i7 | _ => i8), fun k => match k with | 0 => cI | 1 => cC | 2 => e0 | 3 => e1 | _ => e2, ⟨fun c q h => ?_, fun k q h => ?_⟩, fun q hq => va_Nw.of rfl (hts _ (nF_in q hq)), fun q hq => va_Nw.of rfl (hts _ (nM_in q hq)), va_AO.of (hts _ ao_0), va_AO.of (hts _ ao_1), va_AO.of (hts _ ao_2)⟩
  · have hc : c < 9 := (List.getElem?_eq_some_iff.mp h).1
    rcases (show c = 0 ∨ c = 1 ∨ c = 2 ∨ c = 3 ∨ c = 4 ∨ c = 5 ∨ c = 6 ∨ c = 7 ∨ c = 8 by omega) with rfl | rfl | rfl | rfl | rfl | rfl | rfl | rfl | rfl
    · cases h; exact h0
    · cases h; exact h1
    · cases h; exact h2
    · cases h; exact h3
    · cases h; exact h4
    · cases h; exact h5
    · cases h; exact h6
    · cases h; exact h7
    · cases h; exact h8
  · have hc : k < 5 := (List.getElem?_eq_some_iff.mp h).1
    rcases (show k = 0 ∨ k = 1 ∨ k = 2 ∨ k = 3 ∨ k = 4 by omega) with rfl | rfl | rfl | rfl | rfl
    · cases h; exact ⟨fun n z => ⟨fun k h => (by cases h), kI, a2, pI, a3⟩, a1⟩
    · cases h; exact ⟨fun n z => ⟨fun k h => (by cases h), kC, b2, pC, b3⟩, b1⟩
    · cases h; exact ⟨fun n z => ⟨fun k h => (by cases h), k0, f02, p0, f03⟩, k0, p0, f02, f03, f01, f04⟩
    · cases h; exact ⟨fun n z => ⟨fun k h => (by cases h), k1, f12, p1, f13⟩, k1, p1, f12, f13, f11, f14⟩
    · cases h; exact ⟨fun n z => ⟨fun k h => (by cases h), k2, f22, p2, f23⟩, k2, p2, f22, f23, f21, f24⟩

set_option maxHeartbeats 4000000 in
set_option maxRecDepth 100000 in
theorem lw_SS {s : State} {args : Array Value} (hts : ∀ w ∈ lw_tbl, w.before args s = true) (hgv : (Jvm.Cond.and given_1 narrow_1).before args s = true) : ∃ qs vs : Nat, SSL s.heap.size qs vs s s.heap := by
  have hs := flat_of_before _ hgv
  have hA : ∀ a : Nat, a < s.heap.size → ¬ (s.heap.size ≤ a) := fun a h => by omega
  obtain ⟨adK, adV, hS1, hev⟩ := vk_Sof (args := args) (s := s) (N := 1) (tm := fun _ => .string "RecordShelf$Card" 26) (len := [8]) (byt := [[110, 97, 109, 32, 97, 32, 32, 32]]) (A := fun z => s.heap.size ≤ z)
    (fun i hi => by rcases (show i = 0 by omega) with rfl; decide)
    (fun i hi => hs _ (by decide +kernel))
    (fun i hi => hs _ (by decide +kernel))
    (fun i hi => hs _ (by decide +kernel))
    (fun i hi => by rcases (show i = 0 by omega) with rfl; exact hs _ (by decide +kernel))
    (fun i hi j hj => by
      rcases (show i = 0 by omega) with rfl
      have hj8 : j < 8 := hj
      rcases (show j = 0 ∨ j = 1 ∨ j = 2 ∨ j = 3 ∨ j = 4 ∨ j = 5 ∨ j = 6 ∨ j = 7 by omega) with rfl | rfl | rfl | rfl | rfl | rfl | rfl | rfl <;> exact hs _ (by decide +kernel))
    (fun i j hi hj hne => absurd (show i = j by omega) hne) hA
  obtain ⟨q1, q2, q3, q4⟩ := hS1.1 0 (by decide)
  exact ⟨adK 0, adV 0, vk_R.of (hts _ (List.mem_append_right _ (List.mem_of_getElem? (i := 263) (by decide +kernel)))) (hev 0 (by decide)), q1, q2, q3, q4, va_Zof (hts _ (List.mem_append_right _ (List.mem_of_getElem? (i := 273) (by decide +kernel)))) (hts _ (wa_tbl wt_11)) (va_eqi (hs _ (by decide +kernel))) hA, va_Zqof (hts _ (List.mem_append_right _ (List.mem_of_getElem? (i := 281) (by decide +kernel)))) (hts _ (wa_tbl wt_13)) (hs _ (by decide +kernel)) hA⟩
theorem JJ0 (b m : Nat) : JJ b (sg0 b) m (sg1 m) := by
  have hz : ∀ a k, a ≠ b + 1 → (sg0 b).1 a k = nI 0 := fun a k h => by rw [sg0_z h]; rfl
  have hy : ∀ k, k ≠ 13 → (sg1 m).1 m k = nI 0 := fun k h => by rw [sg1_k h]; rfl
  refine ⟨fun _ _ => 0, -1, ⟨Nat.zero_le _, fun i h => absurd h (Nat.not_lt_zero _), Nat.zero_le _, fun i h => absurd h (Nat.not_lt_zero _), Nat.zero_le _, fun i h => absurd h (Nat.not_lt_zero _)⟩, ⟨⟨hz _ _ (by omega), fun i h => absurd h (Nat.not_lt_zero _)⟩, hz _ _ (by omega), fun i h => absurd h (Nat.not_lt_zero _), ⟨hz _ _ (by omega), fun i h => absurd h (Nat.not_lt_zero _)⟩, if_pos ⟨rfl, Or.inr rfl⟩, fun r hr => ⟨fun i hi => ⟨i, hi, ?_⟩, fun i j hi hj e => ?_⟩⟩, ⟨⟨hy _ (by decide), fun i h => absurd h (Nat.not_lt_zero _)⟩, hy _ (by decide), fun i h => absurd h (Nat.not_lt_zero _), ⟨hy _ (by decide), fun i h => absurd h (Nat.not_lt_zero _)⟩, sg1_13⟩⟩
  · show b + 10 + 147 * r + 2 + 1 + 18 * i = b + 10 + 147 * r + 3 + 18 * i
    omega
  · have e1 : b + 10 + 147 * r + 2 + 1 + 18 * i = b + 10 + 147 * r + 2 + 1 + 18 * j := e
    omega
set_option maxHeartbeats 4000000 in
set_option maxRecDepth 100000 in
theorem whole_start {p : Program} {e : Env} {s : State} {m : MethodId} {below : List Frame} {meth : Method} {c : Code} (l : Launch) {b L : Nat} {xs : Nat → Int32} (hL : L ≤ 2560) (C0 : lw_At p s m meth c b L xs) : W p l e room_1 s m #[Value.ref b] below meth c s.heap [] 0 0 (lw_Z below #[Value.ref b] s) (entryFrame m ([Value.ref b] : List Value).toArray 4) := by
  obtain ⟨hx, hb, hr, hml, hown, hts, hX, hbl, hlocks, hgv⟩ := C0
  obtain ⟨D, κ, hK⟩ := lw_KK hts
  obtain ⟨qs, vs, hV⟩ := lw_SS hts hgv
  obtain ⟨b0, hb0⟩ : ∃ z, z = s.heap.size := ⟨_, rfl⟩
  have hl := lv_entry ([.ref b]) (n := 4) (Nat.le_of_ble_eq_true rfl)
  rw [lg_entry_eq]
  generalize (lg_sl ([.ref b]) ++ List.replicate (4 - (lg_sl ([.ref b])).length) Slot.unset).toArray = ls at hl ⊢
  have hl : lv_has ls 4 [(0, .ref b)] := hl
  have hG : GW D b0 [] s.heap := ⟨fun k e h => (by cases h), hb0.symm⟩
  have hS : va_S (fun z => b0 ≤ z) s.heap s.heap [] := va_S.rf
  refine gc_new (D := D) (ci := 7) (fs := [.null, .null, .null, .null, .null, .int 0]) (C := RX7) (T := TX7) (N := 6) hx hb hts (fun w h => wtl (inW_X7 w h)) tyX7 tyX7_ok hown (hts _ (wtl wt_16)) (hts _ (wtl wt_17)) (hts _ (wtl wt_1)) hK.1 hG (n9 := 0) rfl hS rfl (by decide) (Nat.le_of_ble_eq_true rfl) (Nat.le_of_ble_eq_true rfl) dL_0 (fun H hG hS => ?_)
  refine lv_dup hx hb dL_3 rfl ?_
  refine va_callv (va_runI (As := []) (rest := [.ref (b0 + 0)]) ⟨hx, hb, hml, hown, hts⟩ (c_X7_init l D κ b0 0 [] rfl) (cwI 0 hts (gw0L wt_20) rfl rfl rfl (hts _ (wtl wt_1)) (hts _ (wtl wt_18)) (hts _ (wtl wt_19)) rfl (by decide +kernel) ⟨Nat.le_of_ble_eq_true rfl, Nat.le_of_ble_eq_true rfl⟩) (GW_preS hK hG) rfl rfl hl.1 rfl (lv_room (Nat.le_of_ble_eq_true rfl)) dL_4 ⟨Nat.le_of_ble_eq_true rfl, Nat.le_of_ble_eq_true rfl⟩) hS (fun _ _ h => h) (fun _ h => h) (fun u t H locs ht _ _ hG _ _ hS => ?_)
  have hG : GW D b0 (ct_X7_init κ b0 0) H := GW_b hG ht rfl
  refine lv_astore_n (x := b0) (lv' := [(1, .ref b0), (0, .ref b)]) hx hb dL_7 rfl hl (by decide) rfl (fun ls hl => ?_)
  refine gc_new (D := D) (ci := 8) (fs := [.null, .int 0, .int 0, .null, .null, .null, .null, .null, .null, .null, .null, .null, .int 0, .int 0, .null, .int 0, .null, .null, .null, .null, .int 0]) (C := RX8) (T := TX8) (N := 21) hx hb hts (fun w h => wtl (inW_X8 w h)) tyX8 tyX8_ok hown (hts _ (wtl wt_642)) (hts _ (wtl wt_643)) (hts _ (wtl wt_9)) hK.1 hG (n9 := 892) (ctl_X7_init κ b0 0) hS rfl (by decide) (Nat.le_of_ble_eq_true rfl) (Nat.le_of_ble_eq_true rfl) dL_8 (fun H hG hS => ?_)
  refine lv_dup hx hb dL_11 rfl ?_
  refine va_callv (va_runI (As := []) (rest := [.ref (b0 + 892)]) ⟨hx, hb, hml, hown, hts⟩ (c_X8_init l D κ b0 892 (ct_X7_init κ b0 0) (ctl_X7_init κ b0 0)) (cwI 0 hts (gw0L wt_646) rfl rfl rfl (hts _ (wtl wt_9)) (hts _ (wtl wt_644)) (hts _ (wtl wt_645)) rfl (by decide +kernel) ⟨Nat.le_of_ble_eq_true rfl, Nat.le_of_ble_eq_true rfl⟩) (GW_preS hK hG) rfl rfl hl.1 rfl (lv_room (Nat.le_of_ble_eq_true rfl)) dL_12 ⟨Nat.le_of_ble_eq_true rfl, Nat.le_of_ble_eq_true rfl⟩) hS (fun _ _ h => Nat.le_trans (Nat.le_add_right _ _) h) (fun _ h => Nat.le_trans (Nat.le_add_right _ _) h) (fun u t H locs ht _ _ hG _ _ hS => ?_)
  have hG : GW D b0 (ct_X7_init κ b0 0 ++ ct_X8_init κ b0 892) H := GW_b hG ht rfl
  refine lv_astore_n (x := b0 + 892) (lv' := [(2, .ref (b0 + 892)), (1, .ref b0), (0, .ref b)]) hx hb dL_15 rfl hl (by decide) rfl (fun ls hl => ?_)
  refine lv_iconst (v := 0) hx hb dL_16 (by decide) ?_
  refine lv_istore_n (lv' := [(3, .int 0), (2, .ref (b0 + 892)), (1, .ref b0), (0, .ref b)]) hx hb dL_17 rfl hl (by decide) rfl (fun ls hl => ?_)
  refine W.widen (k := 908) (n := 20920) (Nat.le_of_ble_eq_true rfl) (Nat.le_of_ble_eq_true rfl) ?_
  refine lw_loop (b := b0) (m := b0 + 892) (qs := qs) (vs := vs) ⟨hx, hb, hml, hown, hts, hK, hX, hbl, hb0, rfl, hb0 ▸ hV⟩ hL (fun H locs ls hS => ?_) 514 0 (by omega) (by omega) (lv_sub hl [3, 2, 1, 0] rfl) (JJ0 b0 (b0 + 892)) (CW_made hG) (MW_made rfl hG) hS
  refine va_forget (fun q hq => by rw [← hb0]; exact hS.2.2 q hq) ?_
  refine W.widen (k := 600000) (n := 7302250) (Nat.le_of_ble_eq_true rfl) (Nat.le_of_ble_eq_true rfl) ?_
  refine lv_iconst (v := 1) hx hb dL_725 (by decide) ?_
  exact lw_ret hx hb hr hlocks dL_726
