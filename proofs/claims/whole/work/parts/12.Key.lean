-- RecordShelf$Key.against(LRecordShelf$Key;)I
theorem dX3_against_0 : decode cX3_against 0 = .ok (.aload_n 0, 1) := by decide +kernel
theorem dX3_against_1 : decode cX3_against 1 = .ok (.getfield 15, 3) := by decide +kernel
theorem dX3_against_4 : decode cX3_against 4 = .ok (.aload_n 1, 1) := by decide +kernel
theorem dX3_against_5 : decode cX3_against 5 = .ok (.getfield 15, 3) := by decide +kernel
theorem dX3_against_8 : decode cX3_against 8 = .ok (.invokestatic 31, 3) := by decide +kernel
theorem dX3_against_11 : decode cX3_against 11 = .ok (.istore_n 2, 1) := by decide +kernel
theorem dX3_against_12 : decode cX3_against 12 = .ok (.iconst 0, 1) := by decide +kernel
theorem dX3_against_13 : decode cX3_against 13 = .ok (.istore_n 3, 1) := by decide +kernel
theorem dX3_against_14 : decode cX3_against 14 = .ok (.iload_n 3, 1) := by decide +kernel
theorem dX3_against_15 : decode cX3_against 15 = .ok (.iload_n 2, 1) := by decide +kernel
theorem dX3_against_16 : decode cX3_against 16 = .ok (.if_icmp .ge 38, 3) := by decide +kernel
theorem dX3_against_19 : decode cX3_against 19 = .ok (.aload_n 0, 1) := by decide +kernel
theorem dX3_against_20 : decode cX3_against 20 = .ok (.getfield 9, 3) := by decide +kernel
theorem dX3_against_23 : decode cX3_against 23 = .ok (.iload_n 3, 1) := by decide +kernel
theorem dX3_against_24 : decode cX3_against 24 = .ok (.caload, 1) := by decide +kernel
theorem dX3_against_25 : decode cX3_against 25 = .ok (.aload_n 1, 1) := by decide +kernel
theorem dX3_against_26 : decode cX3_against 26 = .ok (.getfield 9, 3) := by decide +kernel
theorem dX3_against_29 : decode cX3_against 29 = .ok (.iload_n 3, 1) := by decide +kernel
theorem dX3_against_30 : decode cX3_against 30 = .ok (.caload, 1) := by decide +kernel
theorem dX3_against_31 : decode cX3_against 31 = .ok (.if_icmp .eq 17, 3) := by decide +kernel
theorem dX3_against_34 : decode cX3_against 34 = .ok (.aload_n 0, 1) := by decide +kernel
theorem dX3_against_35 : decode cX3_against 35 = .ok (.getfield 9, 3) := by decide +kernel
theorem dX3_against_38 : decode cX3_against 38 = .ok (.iload_n 3, 1) := by decide +kernel
theorem dX3_against_39 : decode cX3_against 39 = .ok (.caload, 1) := by decide +kernel
theorem dX3_against_40 : decode cX3_against 40 = .ok (.aload_n 1, 1) := by decide +kernel
theorem dX3_against_41 : decode cX3_against 41 = .ok (.getfield 9, 3) := by decide +kernel
theorem dX3_against_44 : decode cX3_against 44 = .ok (.iload_n 3, 1) := by decide +kernel
theorem dX3_against_45 : decode cX3_against 45 = .ok (.caload, 1) := by decide +kernel
theorem dX3_against_46 : decode cX3_against 46 = .ok (.isub, 1) := by decide +kernel
theorem dX3_against_47 : decode cX3_against 47 = .ok (.ireturn, 1) := by decide +kernel
theorem dX3_against_48 : decode cX3_against 48 = .ok (.iinc 3 1, 3) := by decide +kernel
theorem dX3_against_51 : decode cX3_against 51 = .ok (.goto (-37), 3) := by decide +kernel
theorem dX3_against_54 : decode cX3_against 54 = .ok (.aload_n 0, 1) := by decide +kernel
theorem dX3_against_55 : decode cX3_against 55 = .ok (.getfield 15, 3) := by decide +kernel
theorem dX3_against_58 : decode cX3_against 58 = .ok (.aload_n 1, 1) := by decide +kernel
theorem dX3_against_59 : decode cX3_against 59 = .ok (.getfield 15, 3) := by decide +kernel
theorem dX3_against_62 : decode cX3_against 62 = .ok (.isub, 1) := by decide +kernel
theorem dX3_against_63 : decode cX3_against 63 = .ok (.ireturn, 1) := by decide +kernel
def rm_X3_against : Room := { frames := 1, cells := 0, slots := 0, locals := 21 }
def fn_X3_against_B14b (b : Nat) (σ : Sg) (z14 : Nat → Nat → Int32 → Int32 → Option (Int32)) (x0 : Nat) (x1 : Nat) (x2 : Int32) (x3 : Int32) : Option (Int32) :=
  (if (x2 : Int32) ≤ x3 then
  some ((σ.1 x0 1) - (σ.1 x1 1))
  else (if sg_ib x3 (sg_kR b x0) then
  (if sg_ib x3 (sg_kR b x1) then
  (if (σ.1 (x0 + 1) (sg_x x3)) = (σ.1 (x1 + 1) (sg_x x3)) then
  (sg_lt (x3 + 1 : Int32) fun v1 =>
  z14 x0 x1 x2 v1)
  else (if sg_ib x3 (sg_kR b x0) then
  (if sg_ib x3 (sg_kR b x1) then
  some ((σ.1 (x0 + 1) (sg_x x3)) - (σ.1 (x1 + 1) (sg_x x3)))
  else none)
  else none))
  else none)
  else none))
def fn_X3_against_B14 (b : Nat) (σ : Sg) : Nat → Nat → Nat → Int32 → Int32 → Option (Int32)
  | 0 => fun _ _ _ _ => none
  | n + 1 => fun x0 x1 x2 x3 => fn_X3_against_B14b b σ (fn_X3_against_B14 b σ n) x0 x1 x2 x3
set_option maxHeartbeats 4000000 in
set_option maxRecDepth 100000 in
theorem w_X3_against_B14b {p : Program} {l : Launch} {e : Env} {s : State} {m : MethodId} {args : Array Value} {below : List Frame} {meth : Method} {c : Code} {Q : State → Prop} {D : va_G} {κ : Nat → ClassId} {b : Nat} {H0 : Heap} {rr : Int32} {σ : Sg} (hZ : sg_Z p c s m args D κ cX3_against 4 RX3 wsX3_against) (hret : ∀ (v : Int32) (H : Heap) (locs : List Loc) (pc : Nat) (ls : Array Slot), some v = some rr → CW D κ b σ H → va_S (sg_A b 892) H0 H locs → decode cX3_against pc = .ok (.ireturn, 1) → W p l e rm_X3_against s m args below meth c H locs 0 0 Q (F0 m pc ls [.int v])) {z14 : Nat → Nat → Int32 → Int32 → Option (Int32)} (hr14 : ∀ {x0 : Nat} {x1 : Nat} {x2 : Int32} {x3 : Int32} {H : Heap} {locs : List Loc} {ls : Array Slot}, z14 x0 x1 x2 x3 = some rr → is_Key b x0 → is_Key b x1 → lv_has ls 4 [(0, .ref x0), (1, .ref x1), (2, .int x2), (3, .int x3)] → CW D κ b σ H → va_S (sg_A b 892) H0 H locs → W p l e rm_X3_against s m args below meth c H locs 0 0 Q (F0 m 14 ls [])) : ∀ {x0 : Nat} {x1 : Nat} {x2 : Int32} {x3 : Int32} {H : Heap} {locs : List Loc} {ls : Array Slot}, fn_X3_against_B14b b σ z14 x0 x1 x2 x3 = some rr → is_Key b x0 → is_Key b x1 → lv_has ls 4 [(0, .ref x0), (1, .ref x1), (2, .int x2), (3, .int x3)] → CW D κ b σ H → va_S (sg_A b 892) H0 H locs → W p l e rm_X3_against s m args below meth c H locs 0 0 Q (F0 m 14 ls []) := by
  obtain ⟨hx, hb, hml, hown, hts, hK⟩ := hZ
  intro x0 x1 x2 x3 H locs ls h hx0 hx1 hl hC hS
  unfold fn_X3_against_B14b at h
  refine lv_iload_n hx hb dX3_against_14 rfl (lv_at hl 3 rfl) ?_
  refine lv_iload_n hx hb dX3_against_15 rfl (lv_at hl 2 rfl) ?_
  refine lv_icmp_ge (tgt := 54) hx hb dX3_against_16 (by decide) (fun hc => ?_) (fun hc => ?_)
  · replace h := (if_pos hc).symm.trans h
    refine lv_aload_n hx hb dX3_against_54 rfl (lv_at hl 0 rfl) ?_
    refine va_get (D := D) (ci := 3) (v := .int (σ.1 x0 1)) (C := RX3) (T := TX3) (N := 3) hx hb hts (wqs inW_X3) hown hK.1 hC.1 (x0 - b) (sg_gKey hx0) rfl 1 (by decide) (hts _ (wq wt_99)) (fun _ h9 => h9) rfl dX3_against_55 ?_
    refine lv_aload_n hx hb dX3_against_58 rfl (lv_at hl 1 rfl) ?_
    refine va_get (D := D) (ci := 3) (v := .int (σ.1 x1 1)) (C := RX3) (T := TX3) (N := 3) hx hb hts (wqs inW_X3) hown hK.1 hC.1 (x1 - b) (sg_gKey hx1) rfl 1 (by decide) (hts _ (wq wt_99)) (fun _ h9 => h9) rfl dX3_against_59 ?_
    refine lv_isub hx hb dX3_against_62 ?_
    exact hret _ _ _ _ _ h hC hS dX3_against_63
  · replace h := (if_neg hc).symm.trans h
    refine lv_aload_n hx hb dX3_against_19 rfl (lv_at hl 0 rfl) ?_
    refine va_get (D := D) (ci := 3) (v := .ref (x0 + 1)) (C := RX3) (T := TX3) (N := 3) hx hb hts (wqs inW_X3) hown hK.1 hC.1 (x0 - b) (sg_gKey hx0) rfl 0 (by decide) (hts _ (wq wt_98)) (fun _ h9 => h9) rfl dX3_against_20 ?_
    refine lv_iload_n hx hb dX3_against_23 rfl (lv_at hl 3 rfl) ?_
    obtain ⟨hg, h⟩ := sg_gd h
    refine va_cald hx hb hK.1 hC.1 ((x0 + 1) - b) 1 (sg_gksigns hx0) rfl (sg_in hg) dX3_against_24 ?_
    refine lv_aload_n hx hb dX3_against_25 rfl (lv_at hl 1 rfl) ?_
    refine va_get (D := D) (ci := 3) (v := .ref (x1 + 1)) (C := RX3) (T := TX3) (N := 3) hx hb hts (wqs inW_X3) hown hK.1 hC.1 (x1 - b) (sg_gKey hx1) rfl 0 (by decide) (hts _ (wq wt_98)) (fun _ h9 => h9) rfl dX3_against_26 ?_
    refine lv_iload_n hx hb dX3_against_29 rfl (lv_at hl 3 rfl) ?_
    obtain ⟨hg, h⟩ := sg_gd h
    refine va_cald hx hb hK.1 hC.1 ((x1 + 1) - b) 1 (sg_gksigns hx1) rfl (sg_in hg) dX3_against_30 ?_
    refine lv_icmp_eq (tgt := 48) hx hb dX3_against_31 (by decide) (fun hc => ?_) (fun hc => ?_)
    · replace h := (if_pos hc).symm.trans h
      obtain ⟨v1, ev1, h⟩ := sg_lte h
      refine lv_iinc (v := v1) (lv' := [(3, .int v1), (0, .ref x0), (1, .ref x1), (2, .int x2)]) (k := 3) hx hb dX3_against_48 hl rfl (sg_inc (by decide) ev1) (by decide) rfl (fun ls hl => ?_)
      refine lv_goto (tgt := 14) hx hb dX3_against_51 (by decide) ?_
      exact hr14 h hx0 hx1 (lv_sub hl [1, 2, 3, 0] rfl) hC hS
    · replace h := (if_neg hc).symm.trans h
      refine lv_aload_n hx hb dX3_against_34 rfl (lv_at hl 0 rfl) ?_
      refine va_get (D := D) (ci := 3) (v := .ref (x0 + 1)) (C := RX3) (T := TX3) (N := 3) hx hb hts (wqs inW_X3) hown hK.1 hC.1 (x0 - b) (sg_gKey hx0) rfl 0 (by decide) (hts _ (wq wt_98)) (fun _ h9 => h9) rfl dX3_against_35 ?_
      refine lv_iload_n hx hb dX3_against_38 rfl (lv_at hl 3 rfl) ?_
      obtain ⟨hg, h⟩ := sg_gd h
      refine va_cald hx hb hK.1 hC.1 ((x0 + 1) - b) 1 (sg_gksigns hx0) rfl (sg_in hg) dX3_against_39 ?_
      refine lv_aload_n hx hb dX3_against_40 rfl (lv_at hl 1 rfl) ?_
      refine va_get (D := D) (ci := 3) (v := .ref (x1 + 1)) (C := RX3) (T := TX3) (N := 3) hx hb hts (wqs inW_X3) hown hK.1 hC.1 (x1 - b) (sg_gKey hx1) rfl 0 (by decide) (hts _ (wq wt_98)) (fun _ h9 => h9) rfl dX3_against_41 ?_
      refine lv_iload_n hx hb dX3_against_44 rfl (lv_at hl 3 rfl) ?_
      obtain ⟨hg, h⟩ := sg_gd h
      refine va_cald hx hb hK.1 hC.1 ((x1 + 1) - b) 1 (sg_gksigns hx1) rfl (sg_in hg) dX3_against_45 ?_
      refine lv_isub hx hb dX3_against_46 ?_
      exact hret _ _ _ _ _ h hC hS dX3_against_47
set_option maxHeartbeats 4000000 in
theorem w_X3_against_B14 {p : Program} {l : Launch} {e : Env} {s : State} {m : MethodId} {args : Array Value} {below : List Frame} {meth : Method} {c : Code} {Q : State → Prop} {D : va_G} {κ : Nat → ClassId} {b : Nat} {H0 : Heap} {rr : Int32} {σ : Sg} (hZ : sg_Z p c s m args D κ cX3_against 4 RX3 wsX3_against) (hret : ∀ (v : Int32) (H : Heap) (locs : List Loc) (pc : Nat) (ls : Array Slot), some v = some rr → CW D κ b σ H → va_S (sg_A b 892) H0 H locs → decode cX3_against pc = .ok (.ireturn, 1) → W p l e rm_X3_against s m args below meth c H locs 0 0 Q (F0 m pc ls [.int v])) : ∀ n : Nat, ∀ {x0 : Nat} {x1 : Nat} {x2 : Int32} {x3 : Int32} {H : Heap} {locs : List Loc} {ls : Array Slot}, fn_X3_against_B14 b σ n x0 x1 x2 x3 = some rr → is_Key b x0 → is_Key b x1 → lv_has ls 4 [(0, .ref x0), (1, .ref x1), (2, .int x2), (3, .int x3)] → CW D κ b σ H → va_S (sg_A b 892) H0 H locs → W p l e rm_X3_against s m args below meth c H locs 0 0 Q (F0 m 14 ls []) := by
  intro n
  induction n with
  | zero => intro x0 x1 x2 x3 H locs ls h hx0 hx1 hl hC hS; cases (show (none : Option (Int32)) = some rr from h)
  | succ n ih =>
    intro x0 x1 x2 x3 H locs ls h hx0 hx1 hl hC hS
    exact w_X3_against_B14b hZ hret ih (show fn_X3_against_B14b b σ (fn_X3_against_B14 b σ n) x0 x1 x2 x3 = some rr from h) hx0 hx1 hl hC hS
def fn_X3_against (b : Nat) (σ : Sg) (x0 : Nat) (x1 : Nat) : Option (Int32) :=
  (sg_lt ((if (σ.1 x1 1) < (σ.1 x0 1) then (σ.1 x1 1) else (σ.1 x0 1)) : Int32) fun v1 =>
  fn_X3_against_B14 b σ sg_N x0 x1 v1 0)
set_option maxHeartbeats 4000000 in
set_option maxRecDepth 100000 in
theorem w_X3_against_B0 {p : Program} {l : Launch} {e : Env} {s : State} {m : MethodId} {args : Array Value} {below : List Frame} {meth : Method} {c : Code} {Q : State → Prop} {D : va_G} {κ : Nat → ClassId} {b : Nat} {H0 : Heap} {rr : Int32} {σ : Sg} (hZ : sg_Z p c s m args D κ cX3_against 4 RX3 wsX3_against) (hret : ∀ (v : Int32) (H : Heap) (locs : List Loc) (pc : Nat) (ls : Array Slot), some v = some rr → CW D κ b σ H → va_S (sg_A b 892) H0 H locs → decode cX3_against pc = .ok (.ireturn, 1) → W p l e rm_X3_against s m args below meth c H locs 0 0 Q (F0 m pc ls [.int v])) : ∀ {x0 : Nat} {x1 : Nat} {H : Heap} {locs : List Loc} {ls : Array Slot}, fn_X3_against b σ x0 x1 = some rr → is_Key b x0 → is_Key b x1 → lv_has ls 4 [(0, .ref x0), (1, .ref x1)] → CW D κ b σ H → va_S (sg_A b 892) H0 H locs → W p l e rm_X3_against s m args below meth c H locs 0 0 Q (F0 m 0 ls []) := by
  obtain ⟨hx, hb, hml, hown, hts, hK⟩ := hZ
  intro x0 x1 H locs ls h hx0 hx1 hl hC hS
  unfold fn_X3_against at h
  refine lv_aload_n hx hb dX3_against_0 rfl (lv_at hl 0 rfl) ?_
  refine va_get (D := D) (ci := 3) (v := .int (σ.1 x0 1)) (C := RX3) (T := TX3) (N := 3) hx hb hts (wqs inW_X3) hown hK.1 hC.1 (x0 - b) (sg_gKey hx0) rfl 1 (by decide) (hts _ (wq wt_99)) (fun _ h9 => h9) rfl dX3_against_1 ?_
  refine lv_aload_n hx hb dX3_against_4 rfl (lv_at hl 1 rfl) ?_
  refine va_get (D := D) (ci := 3) (v := .int (σ.1 x1 1)) (C := RX3) (T := TX3) (N := 3) hx hb hts (wqs inW_X3) hown hK.1 hC.1 (x1 - b) (sg_gKey hx1) rfl 1 (by decide) (hts _ (wq wt_99)) (fun _ h9 => h9) rfl dX3_against_5 ?_
  refine va_mmin hx hb (hml.trans hl.1.symm) hown (hts _ (wq wt_598)) (hts _ (wq wt_234)) (hts _ (wq wt_10)) (hts _ (wq wt_235)) (Nat.le_of_ble_eq_true rfl) (Nat.le_of_ble_eq_true rfl) (Nat.zero_le _) (Nat.zero_le _) dX3_against_8 ?_
  obtain ⟨v1, ev1, h⟩ := sg_lte h
  refine sg_topi ev1 ?_
  refine lv_istore_n (lv' := [(2, .int v1), (0, .ref x0), (1, .ref x1)]) hx hb dX3_against_11 rfl hl (by decide) rfl (fun ls hl => ?_)
  refine lv_iconst (v := 0) hx hb dX3_against_12 (by decide) ?_
  refine lv_istore_n (lv' := [(3, .int 0), (2, .int v1), (0, .ref x0), (1, .ref x1)]) hx hb dX3_against_13 rfl hl (by decide) rfl (fun ls hl => ?_)
  exact w_X3_against_B14 ⟨hx, hb, hml, hown, hts, hK⟩ hret  sg_N h hx0 hx1 (lv_sub hl [2, 3, 1, 0] rfl) hC hS
set_option maxHeartbeats 4000000 in
set_option maxRecDepth 100000 in
theorem c_X3_against (l : Launch) (D : va_G) (κ : Nat → ClassId) (b : Nat) (σ : Sg) (x0 : Nat) (x1 : Nat) (rr : Int32) (hx0 : is_Key b x0) (hx1 : is_Key b x1) (h : fn_X3_against b σ x0 x1 = some rr) : Met l yX3_against wsX3_against rm_X3_against (va_Pc [.ref x0, .ref x1] (fun U => KK D κ U ∧ CW D κ b σ U.heap)) (va_Qi (fun (r : Int32) (u : Sg) => r = rr ∧ u = σ) (fun u t => CW D κ b u t.heap) (sg_A b 892)) 0 0 (sg_A b 892) := by
  refine Met.ofW (cc := cX3_against) (maxL := 4) (ret := (some .int)) (by decide) rfl ?_
  intro p e s m args below meth c s₁ B hml hv
  obtain ⟨rfl, hK, hC⟩ := hv
  have hr := B.returns
  have hlocks := B.notSynchronized
  have hl := lv_entry ([.ref x0, .ref x1]) (n := 4) (Nat.le_of_ble_eq_true rfl)
  rw [lg_entry_eq]
  generalize (lg_sl ([.ref x0, .ref x1]) ++ List.replicate (4 - (lg_sl ([.ref x0, .ref x1])).length) Slot.unset).toArray = ls at hl ⊢
  have hl : lv_has ls 4 [(0, .ref x0), (1, .ref x1)] := hl
  exact w_X3_against_B0 ⟨B.exec, B.bytes, hml, findClass_of_methodNamed B.named, atoms_spec (ws := wsX3_against) B.pre, hK⟩ (fun v H locs pc ls hq hC hS hd => W.iret B.exec B.bytes hr (fun t ht hW => ⟨⟨v, _, rfl, ⟨Option.some.inj hq, rfl⟩, CW_e ht hC⟩, hS.F ht⟩) hS.2.2 hd) h hx0 hx1 hl hC va_S.rf

-- RecordShelf$Key.hasAt(ILRecordShelf$Key;)Z
theorem dX3_hasAt_0 : decode cX3_hasAt 0 = .ok (.iload_n 1, 1) := by decide +kernel
theorem dX3_hasAt_1 : decode cX3_hasAt 1 = .ok (.aload_n 2, 1) := by decide +kernel
theorem dX3_hasAt_2 : decode cX3_hasAt 2 = .ok (.getfield 15, 3) := by decide +kernel
theorem dX3_hasAt_5 : decode cX3_hasAt 5 = .ok (.iadd, 1) := by decide +kernel
theorem dX3_hasAt_6 : decode cX3_hasAt 6 = .ok (.aload_n 0, 1) := by decide +kernel
theorem dX3_hasAt_7 : decode cX3_hasAt 7 = .ok (.getfield 15, 3) := by decide +kernel
theorem dX3_hasAt_10 : decode cX3_hasAt 10 = .ok (.if_icmp .le 5, 3) := by decide +kernel
theorem dX3_hasAt_13 : decode cX3_hasAt 13 = .ok (.iconst 0, 1) := by decide +kernel
theorem dX3_hasAt_14 : decode cX3_hasAt 14 = .ok (.ireturn, 1) := by decide +kernel
theorem dX3_hasAt_15 : decode cX3_hasAt 15 = .ok (.iconst 0, 1) := by decide +kernel
theorem dX3_hasAt_16 : decode cX3_hasAt 16 = .ok (.istore_n 3, 1) := by decide +kernel
theorem dX3_hasAt_17 : decode cX3_hasAt 17 = .ok (.iload_n 3, 1) := by decide +kernel
theorem dX3_hasAt_18 : decode cX3_hasAt 18 = .ok (.aload_n 2, 1) := by decide +kernel
theorem dX3_hasAt_19 : decode cX3_hasAt 19 = .ok (.getfield 15, 3) := by decide +kernel
theorem dX3_hasAt_22 : decode cX3_hasAt 22 = .ok (.if_icmp .ge 28, 3) := by decide +kernel
theorem dX3_hasAt_25 : decode cX3_hasAt 25 = .ok (.aload_n 0, 1) := by decide +kernel
theorem dX3_hasAt_26 : decode cX3_hasAt 26 = .ok (.getfield 9, 3) := by decide +kernel
theorem dX3_hasAt_29 : decode cX3_hasAt 29 = .ok (.iload_n 1, 1) := by decide +kernel
theorem dX3_hasAt_30 : decode cX3_hasAt 30 = .ok (.iload_n 3, 1) := by decide +kernel
theorem dX3_hasAt_31 : decode cX3_hasAt 31 = .ok (.iadd, 1) := by decide +kernel
theorem dX3_hasAt_32 : decode cX3_hasAt 32 = .ok (.caload, 1) := by decide +kernel
theorem dX3_hasAt_33 : decode cX3_hasAt 33 = .ok (.aload_n 2, 1) := by decide +kernel
theorem dX3_hasAt_34 : decode cX3_hasAt 34 = .ok (.getfield 9, 3) := by decide +kernel
theorem dX3_hasAt_37 : decode cX3_hasAt 37 = .ok (.iload_n 3, 1) := by decide +kernel
theorem dX3_hasAt_38 : decode cX3_hasAt 38 = .ok (.caload, 1) := by decide +kernel
theorem dX3_hasAt_39 : decode cX3_hasAt 39 = .ok (.if_icmp .eq 5, 3) := by decide +kernel
theorem dX3_hasAt_42 : decode cX3_hasAt 42 = .ok (.iconst 0, 1) := by decide +kernel
theorem dX3_hasAt_43 : decode cX3_hasAt 43 = .ok (.ireturn, 1) := by decide +kernel
theorem dX3_hasAt_44 : decode cX3_hasAt 44 = .ok (.iinc 3 1, 3) := by decide +kernel
theorem dX3_hasAt_47 : decode cX3_hasAt 47 = .ok (.goto (-30), 3) := by decide +kernel
theorem dX3_hasAt_50 : decode cX3_hasAt 50 = .ok (.iconst 1, 1) := by decide +kernel
theorem dX3_hasAt_51 : decode cX3_hasAt 51 = .ok (.ireturn, 1) := by decide +kernel
def rm_X3_hasAt : Room := { frames := 0, cells := 0, slots := 0, locals := 0 }
def fn_X3_hasAt_B17b (b : Nat) (σ : Sg) (z17 : Nat → Int32 → Nat → Int32 → Option (Int32)) (x0 : Nat) (x1 : Int32) (x2 : Nat) (x3 : Int32) : Option (Int32) :=
  (if ((σ.1 x2 1) : Int32) ≤ x3 then
  some 1
  else (if sg_ib (x1 + x3) (sg_kR b x0) then
  (if sg_ib x3 (sg_kR b x2) then
  (if (σ.1 (x0 + 1) (sg_x (x1 + x3))) = (σ.1 (x2 + 1) (sg_x x3)) then
  (sg_lt (x3 + 1 : Int32) fun v1 =>
  z17 x0 x1 x2 v1)
  else some 0)
  else none)
  else none))
def fn_X3_hasAt_B17 (b : Nat) (σ : Sg) : Nat → Nat → Int32 → Nat → Int32 → Option (Int32)
  | 0 => fun _ _ _ _ => none
  | n + 1 => fun x0 x1 x2 x3 => fn_X3_hasAt_B17b b σ (fn_X3_hasAt_B17 b σ n) x0 x1 x2 x3
set_option maxHeartbeats 4000000 in
set_option maxRecDepth 100000 in
theorem w_X3_hasAt_B17b {p : Program} {l : Launch} {e : Env} {s : State} {m : MethodId} {args : Array Value} {below : List Frame} {meth : Method} {c : Code} {Q : State → Prop} {D : va_G} {κ : Nat → ClassId} {b : Nat} {H0 : Heap} {rr : Int32} {σ : Sg} (hZ : sg_Z p c s m args D κ cX3_hasAt 4 RX3 wsX3_hasAt) (hret : ∀ (v : Int32) (H : Heap) (locs : List Loc) (pc : Nat) (ls : Array Slot), some v = some rr → narrow .boolean (.int v) = .int v → CW D κ b σ H → va_S (sg_A b 892) H0 H locs → decode cX3_hasAt pc = .ok (.ireturn, 1) → W p l e rm_X3_hasAt s m args below meth c H locs 0 0 Q (F0 m pc ls [.int v])) {z17 : Nat → Int32 → Nat → Int32 → Option (Int32)} (hr17 : ∀ {x0 : Nat} {x1 : Int32} {x2 : Nat} {x3 : Int32} {H : Heap} {locs : List Loc} {ls : Array Slot}, z17 x0 x1 x2 x3 = some rr → is_Key b x0 → is_Key b x2 → lv_has ls 4 [(0, .ref x0), (1, .int x1), (2, .ref x2), (3, .int x3)] → CW D κ b σ H → va_S (sg_A b 892) H0 H locs → W p l e rm_X3_hasAt s m args below meth c H locs 0 0 Q (F0 m 17 ls [])) : ∀ {x0 : Nat} {x1 : Int32} {x2 : Nat} {x3 : Int32} {H : Heap} {locs : List Loc} {ls : Array Slot}, fn_X3_hasAt_B17b b σ z17 x0 x1 x2 x3 = some rr → is_Key b x0 → is_Key b x2 → lv_has ls 4 [(0, .ref x0), (1, .int x1), (2, .ref x2), (3, .int x3)] → CW D κ b σ H → va_S (sg_A b 892) H0 H locs → W p l e rm_X3_hasAt s m args below meth c H locs 0 0 Q (F0 m 17 ls []) := by
  obtain ⟨hx, hb, hml, hown, hts, hK⟩ := hZ
  intro x0 x1 x2 x3 H locs ls h hx0 hx2 hl hC hS
  unfold fn_X3_hasAt_B17b at h
  refine lv_iload_n hx hb dX3_hasAt_17 rfl (lv_at hl 3 rfl) ?_
  refine lv_aload_n hx hb dX3_hasAt_18 rfl (lv_at hl 2 rfl) ?_
  refine va_get (D := D) (ci := 3) (v := .int (σ.1 x2 1)) (C := RX3) (T := TX3) (N := 3) hx hb hts (wqs inW_X3) hown hK.1 hC.1 (x2 - b) (sg_gKey hx2) rfl 1 (by decide) (hts _ (wq wt_99)) (fun _ h9 => h9) rfl dX3_hasAt_19 ?_
  refine lv_icmp_ge (tgt := 50) hx hb dX3_hasAt_22 (by decide) (fun hc => ?_) (fun hc => ?_)
  · replace h := (if_pos hc).symm.trans h
    refine lv_iconst (v := 1) hx hb dX3_hasAt_50 (by decide) ?_
    exact hret _ _ _ _ _ h (by decide) hC hS dX3_hasAt_51
  · replace h := (if_neg hc).symm.trans h
    refine lv_aload_n hx hb dX3_hasAt_25 rfl (lv_at hl 0 rfl) ?_
    refine va_get (D := D) (ci := 3) (v := .ref (x0 + 1)) (C := RX3) (T := TX3) (N := 3) hx hb hts (wqs inW_X3) hown hK.1 hC.1 (x0 - b) (sg_gKey hx0) rfl 0 (by decide) (hts _ (wq wt_98)) (fun _ h9 => h9) rfl dX3_hasAt_26 ?_
    refine lv_iload_n hx hb dX3_hasAt_29 rfl (lv_at hl 1 rfl) ?_
    refine lv_iload_n hx hb dX3_hasAt_30 rfl (lv_at hl 3 rfl) ?_
    refine lv_iadd hx hb dX3_hasAt_31 ?_
    obtain ⟨hg, h⟩ := sg_gd h
    refine va_cald hx hb hK.1 hC.1 ((x0 + 1) - b) 1 (sg_gksigns hx0) rfl (sg_in hg) dX3_hasAt_32 ?_
    refine lv_aload_n hx hb dX3_hasAt_33 rfl (lv_at hl 2 rfl) ?_
    refine va_get (D := D) (ci := 3) (v := .ref (x2 + 1)) (C := RX3) (T := TX3) (N := 3) hx hb hts (wqs inW_X3) hown hK.1 hC.1 (x2 - b) (sg_gKey hx2) rfl 0 (by decide) (hts _ (wq wt_98)) (fun _ h9 => h9) rfl dX3_hasAt_34 ?_
    refine lv_iload_n hx hb dX3_hasAt_37 rfl (lv_at hl 3 rfl) ?_
    obtain ⟨hg, h⟩ := sg_gd h
    refine va_cald hx hb hK.1 hC.1 ((x2 + 1) - b) 1 (sg_gksigns hx2) rfl (sg_in hg) dX3_hasAt_38 ?_
    refine lv_icmp_eq (tgt := 44) hx hb dX3_hasAt_39 (by decide) (fun hc => ?_) (fun hc => ?_)
    · replace h := (if_pos hc).symm.trans h
      obtain ⟨v1, ev1, h⟩ := sg_lte h
      refine lv_iinc (v := v1) (lv' := [(3, .int v1), (0, .ref x0), (1, .int x1), (2, .ref x2)]) (k := 3) hx hb dX3_hasAt_44 hl rfl (sg_inc (by decide) ev1) (by decide) rfl (fun ls hl => ?_)
      refine lv_goto (tgt := 17) hx hb dX3_hasAt_47 (by decide) ?_
      exact hr17 h hx0 hx2 (lv_sub hl [1, 2, 3, 0] rfl) hC hS
    · replace h := (if_neg hc).symm.trans h
      refine lv_iconst (v := 0) hx hb dX3_hasAt_42 (by decide) ?_
      exact hret _ _ _ _ _ h (by decide) hC hS dX3_hasAt_43
set_option maxHeartbeats 4000000 in
theorem w_X3_hasAt_B17 {p : Program} {l : Launch} {e : Env} {s : State} {m : MethodId} {args : Array Value} {below : List Frame} {meth : Method} {c : Code} {Q : State → Prop} {D : va_G} {κ : Nat → ClassId} {b : Nat} {H0 : Heap} {rr : Int32} {σ : Sg} (hZ : sg_Z p c s m args D κ cX3_hasAt 4 RX3 wsX3_hasAt) (hret : ∀ (v : Int32) (H : Heap) (locs : List Loc) (pc : Nat) (ls : Array Slot), some v = some rr → narrow .boolean (.int v) = .int v → CW D κ b σ H → va_S (sg_A b 892) H0 H locs → decode cX3_hasAt pc = .ok (.ireturn, 1) → W p l e rm_X3_hasAt s m args below meth c H locs 0 0 Q (F0 m pc ls [.int v])) : ∀ n : Nat, ∀ {x0 : Nat} {x1 : Int32} {x2 : Nat} {x3 : Int32} {H : Heap} {locs : List Loc} {ls : Array Slot}, fn_X3_hasAt_B17 b σ n x0 x1 x2 x3 = some rr → is_Key b x0 → is_Key b x2 → lv_has ls 4 [(0, .ref x0), (1, .int x1), (2, .ref x2), (3, .int x3)] → CW D κ b σ H → va_S (sg_A b 892) H0 H locs → W p l e rm_X3_hasAt s m args below meth c H locs 0 0 Q (F0 m 17 ls []) := by
  intro n
  induction n with
  | zero => intro x0 x1 x2 x3 H locs ls h hx0 hx2 hl hC hS; cases (show (none : Option (Int32)) = some rr from h)
  | succ n ih =>
    intro x0 x1 x2 x3 H locs ls h hx0 hx2 hl hC hS
    exact w_X3_hasAt_B17b hZ hret ih (show fn_X3_hasAt_B17b b σ (fn_X3_hasAt_B17 b σ n) x0 x1 x2 x3 = some rr from h) hx0 hx2 hl hC hS
def fn_X3_hasAt (b : Nat) (σ : Sg) (x0 : Nat) (x1 : Int32) (x2 : Nat) : Option (Int32) :=
  (if (x1 + (σ.1 x2 1)) ≤ (σ.1 x0 1) then
  fn_X3_hasAt_B17 b σ sg_N x0 x1 x2 0
  else some 0)
set_option maxHeartbeats 4000000 in
set_option maxRecDepth 100000 in
theorem w_X3_hasAt_B0 {p : Program} {l : Launch} {e : Env} {s : State} {m : MethodId} {args : Array Value} {below : List Frame} {meth : Method} {c : Code} {Q : State → Prop} {D : va_G} {κ : Nat → ClassId} {b : Nat} {H0 : Heap} {rr : Int32} {σ : Sg} (hZ : sg_Z p c s m args D κ cX3_hasAt 4 RX3 wsX3_hasAt) (hret : ∀ (v : Int32) (H : Heap) (locs : List Loc) (pc : Nat) (ls : Array Slot), some v = some rr → narrow .boolean (.int v) = .int v → CW D κ b σ H → va_S (sg_A b 892) H0 H locs → decode cX3_hasAt pc = .ok (.ireturn, 1) → W p l e rm_X3_hasAt s m args below meth c H locs 0 0 Q (F0 m pc ls [.int v])) : ∀ {x0 : Nat} {x1 : Int32} {x2 : Nat} {H : Heap} {locs : List Loc} {ls : Array Slot}, fn_X3_hasAt b σ x0 x1 x2 = some rr → is_Key b x0 → is_Key b x2 → lv_has ls 4 [(0, .ref x0), (1, .int x1), (2, .ref x2)] → CW D κ b σ H → va_S (sg_A b 892) H0 H locs → W p l e rm_X3_hasAt s m args below meth c H locs 0 0 Q (F0 m 0 ls []) := by
  obtain ⟨hx, hb, hml, hown, hts, hK⟩ := hZ
  intro x0 x1 x2 H locs ls h hx0 hx2 hl hC hS
  unfold fn_X3_hasAt at h
  refine lv_iload_n hx hb dX3_hasAt_0 rfl (lv_at hl 1 rfl) ?_
  refine lv_aload_n hx hb dX3_hasAt_1 rfl (lv_at hl 2 rfl) ?_
  refine va_get (D := D) (ci := 3) (v := .int (σ.1 x2 1)) (C := RX3) (T := TX3) (N := 3) hx hb hts (wqs inW_X3) hown hK.1 hC.1 (x2 - b) (sg_gKey hx2) rfl 1 (by decide) (hts _ (wq wt_99)) (fun _ h9 => h9) rfl dX3_hasAt_2 ?_
  refine lv_iadd hx hb dX3_hasAt_5 ?_
  refine lv_aload_n hx hb dX3_hasAt_6 rfl (lv_at hl 0 rfl) ?_
  refine va_get (D := D) (ci := 3) (v := .int (σ.1 x0 1)) (C := RX3) (T := TX3) (N := 3) hx hb hts (wqs inW_X3) hown hK.1 hC.1 (x0 - b) (sg_gKey hx0) rfl 1 (by decide) (hts _ (wq wt_99)) (fun _ h9 => h9) rfl dX3_hasAt_7 ?_
  refine lv_icmp_le (tgt := 15) hx hb dX3_hasAt_10 (by decide) (fun hc => ?_) (fun hc => ?_)
  · replace h := (if_pos hc).symm.trans h
    refine lv_iconst (v := 0) hx hb dX3_hasAt_15 (by decide) ?_
    refine lv_istore_n (lv' := [(3, .int 0), (0, .ref x0), (1, .int x1), (2, .ref x2)]) hx hb dX3_hasAt_16 rfl hl (by decide) rfl (fun ls hl => ?_)
    exact w_X3_hasAt_B17 ⟨hx, hb, hml, hown, hts, hK⟩ hret  sg_N h hx0 hx2 (lv_sub hl [1, 2, 3, 0] rfl) hC hS
  · replace h := (if_neg hc).symm.trans h
    refine lv_iconst (v := 0) hx hb dX3_hasAt_13 (by decide) ?_
    exact hret _ _ _ _ _ h (by decide) hC hS dX3_hasAt_14
set_option maxHeartbeats 4000000 in
set_option maxRecDepth 100000 in
theorem c_X3_hasAt (l : Launch) (D : va_G) (κ : Nat → ClassId) (b : Nat) (σ : Sg) (x0 : Nat) (x1 : Int32) (x2 : Nat) (rr : Int32) (hx0 : is_Key b x0) (hx2 : is_Key b x2) (h : fn_X3_hasAt b σ x0 x1 x2 = some rr) : Met l yX3_hasAt wsX3_hasAt rm_X3_hasAt (va_Pc [.ref x0, .int x1, .ref x2] (fun U => KK D κ U ∧ CW D κ b σ U.heap)) (va_Qi (fun (r : Int32) (u : Sg) => r = rr ∧ u = σ) (fun u t => CW D κ b u t.heap) (sg_A b 892)) 0 0 (sg_A b 892) := by
  refine Met.ofW (cc := cX3_hasAt) (maxL := 4) (ret := (some .boolean)) (by decide) rfl ?_
  intro p e s m args below meth c s₁ B hml hv
  obtain ⟨rfl, hK, hC⟩ := hv
  have hr := B.returns
  have hlocks := B.notSynchronized
  have hl := lv_entry ([.ref x0, .int x1, .ref x2]) (n := 4) (Nat.le_of_ble_eq_true rfl)
  rw [lg_entry_eq]
  generalize (lg_sl ([.ref x0, .int x1, .ref x2]) ++ List.replicate (4 - (lg_sl ([.ref x0, .int x1, .ref x2])).length) Slot.unset).toArray = ls at hl ⊢
  have hl : lv_has ls 4 [(0, .ref x0), (1, .int x1), (2, .ref x2)] := hl
  exact w_X3_hasAt_B0 ⟨B.exec, B.bytes, hml, findClass_of_methodNamed B.named, atoms_spec (ws := wsX3_hasAt) B.pre, hK⟩ (fun v H locs pc ls hq hbo hC hS hd => W.zret B.exec B.bytes hr hbo (fun t ht hW => ⟨⟨v, _, rfl, ⟨Option.some.inj hq, rfl⟩, CW_e ht hC⟩, hS.F ht⟩) hS.2.2 hd) h hx0 hx2 hl hC va_S.rf

-- RecordShelf$Key.isEdge(I)Z
theorem dX3_isEdge_0 : decode cX3_isEdge 0 = .ok (.iload_n 1, 1) := by decide +kernel
theorem dX3_isEdge_1 : decode cX3_isEdge 1 = .ok (.ifCond .lt 22, 3) := by decide +kernel
theorem dX3_isEdge_4 : decode cX3_isEdge 4 = .ok (.iload_n 1, 1) := by decide +kernel
theorem dX3_isEdge_5 : decode cX3_isEdge 5 = .ok (.aload_n 0, 1) := by decide +kernel
theorem dX3_isEdge_6 : decode cX3_isEdge 6 = .ok (.getfield 15, 3) := by decide +kernel
theorem dX3_isEdge_9 : decode cX3_isEdge 9 = .ok (.if_icmp .ge 14, 3) := by decide +kernel
theorem dX3_isEdge_12 : decode cX3_isEdge 12 = .ok (.aload_n 0, 1) := by decide +kernel
theorem dX3_isEdge_13 : decode cX3_isEdge 13 = .ok (.getfield 9, 3) := by decide +kernel
theorem dX3_isEdge_16 : decode cX3_isEdge 16 = .ok (.iload_n 1, 1) := by decide +kernel
theorem dX3_isEdge_17 : decode cX3_isEdge 17 = .ok (.caload, 1) := by decide +kernel
theorem dX3_isEdge_18 : decode cX3_isEdge 18 = .ok (.bipush 32, 2) := by decide +kernel
theorem dX3_isEdge_20 : decode cX3_isEdge 20 = .ok (.if_icmp .ne 7, 3) := by decide +kernel
theorem dX3_isEdge_23 : decode cX3_isEdge 23 = .ok (.iconst 1, 1) := by decide +kernel
theorem dX3_isEdge_24 : decode cX3_isEdge 24 = .ok (.goto 4, 3) := by decide +kernel
theorem dX3_isEdge_27 : decode cX3_isEdge 27 = .ok (.iconst 0, 1) := by decide +kernel
theorem dX3_isEdge_28 : decode cX3_isEdge 28 = .ok (.ireturn, 1) := by decide +kernel
def rm_X3_isEdge : Room := { frames := 0, cells := 0, slots := 0, locals := 0 }
def fn_X3_isEdge_B23 (b : Nat) (σ : Sg) : Option (Int32) :=
  some 1
set_option maxHeartbeats 4000000 in
set_option maxRecDepth 100000 in
theorem w_X3_isEdge_B23 {p : Program} {l : Launch} {e : Env} {s : State} {m : MethodId} {args : Array Value} {below : List Frame} {meth : Method} {c : Code} {Q : State → Prop} {D : va_G} {κ : Nat → ClassId} {b : Nat} {H0 : Heap} {rr : Int32} {σ : Sg} (hZ : sg_Z p c s m args D κ cX3_isEdge 2 RX3 wsX3_isEdge) (hret : ∀ (v : Int32) (H : Heap) (locs : List Loc) (pc : Nat) (ls : Array Slot), some v = some rr → narrow .boolean (.int v) = .int v → CW D κ b σ H → va_S (sg_A b 892) H0 H locs → decode cX3_isEdge pc = .ok (.ireturn, 1) → W p l e rm_X3_isEdge s m args below meth c H locs 0 0 Q (F0 m pc ls [.int v])) : ∀ {H : Heap} {locs : List Loc} {ls : Array Slot}, fn_X3_isEdge_B23 b σ = some rr → lv_has ls 2 [] → CW D κ b σ H → va_S (sg_A b 892) H0 H locs → W p l e rm_X3_isEdge s m args below meth c H locs 0 0 Q (F0 m 23 ls []) := by
  obtain ⟨hx, hb, hml, hown, hts, hK⟩ := hZ
  intro H locs ls h hl hC hS
  unfold fn_X3_isEdge_B23 at h
  refine lv_iconst (v := 1) hx hb dX3_isEdge_23 (by decide) ?_
  refine lv_goto (tgt := 28) hx hb dX3_isEdge_24 (by decide) ?_
  exact hret _ _ _ _ _ h (by decide) hC hS dX3_isEdge_28
def fn_X3_isEdge (b : Nat) (σ : Sg) (x0 : Nat) (x1 : Int32) : Option (Int32) :=
  (if x1 < 0 then
  fn_X3_isEdge_B23 b σ
  else (if ((σ.1 x0 1) : Int32) ≤ x1 then
  fn_X3_isEdge_B23 b σ
  else (if sg_ib x1 (sg_kR b x0) then
  (if (σ.1 (x0 + 1) (sg_x x1)) = 32 then
  fn_X3_isEdge_B23 b σ
  else some 0)
  else none)))
set_option maxHeartbeats 4000000 in
set_option maxRecDepth 100000 in
theorem w_X3_isEdge_B0 {p : Program} {l : Launch} {e : Env} {s : State} {m : MethodId} {args : Array Value} {below : List Frame} {meth : Method} {c : Code} {Q : State → Prop} {D : va_G} {κ : Nat → ClassId} {b : Nat} {H0 : Heap} {rr : Int32} {σ : Sg} (hZ : sg_Z p c s m args D κ cX3_isEdge 2 RX3 wsX3_isEdge) (hret : ∀ (v : Int32) (H : Heap) (locs : List Loc) (pc : Nat) (ls : Array Slot), some v = some rr → narrow .boolean (.int v) = .int v → CW D κ b σ H → va_S (sg_A b 892) H0 H locs → decode cX3_isEdge pc = .ok (.ireturn, 1) → W p l e rm_X3_isEdge s m args below meth c H locs 0 0 Q (F0 m pc ls [.int v])) : ∀ {x0 : Nat} {x1 : Int32} {H : Heap} {locs : List Loc} {ls : Array Slot}, fn_X3_isEdge b σ x0 x1 = some rr → is_Key b x0 → lv_has ls 2 [(0, .ref x0), (1, .int x1)] → CW D κ b σ H → va_S (sg_A b 892) H0 H locs → W p l e rm_X3_isEdge s m args below meth c H locs 0 0 Q (F0 m 0 ls []) := by
  obtain ⟨hx, hb, hml, hown, hts, hK⟩ := hZ
  intro x0 x1 H locs ls h hx0 hl hC hS
  unfold fn_X3_isEdge at h
  refine lv_iload_n hx hb dX3_isEdge_0 rfl (lv_at hl 1 rfl) ?_
  refine lv_if_lt (tgt := 23) hx hb dX3_isEdge_1 (by decide) (fun hc => ?_) (fun hc => ?_)
  · replace h := (if_pos hc).symm.trans h
    exact w_X3_isEdge_B23 ⟨hx, hb, hml, hown, hts, hK⟩ hret  h (lv_sub hl [] rfl) hC hS
  · replace h := (if_neg hc).symm.trans h
    refine lv_iload_n hx hb dX3_isEdge_4 rfl (lv_at hl 1 rfl) ?_
    refine lv_aload_n hx hb dX3_isEdge_5 rfl (lv_at hl 0 rfl) ?_
    refine va_get (D := D) (ci := 3) (v := .int (σ.1 x0 1)) (C := RX3) (T := TX3) (N := 3) hx hb hts (wqs inW_X3) hown hK.1 hC.1 (x0 - b) (sg_gKey hx0) rfl 1 (by decide) (hts _ (wq wt_99)) (fun _ h9 => h9) rfl dX3_isEdge_6 ?_
    refine lv_icmp_ge (tgt := 23) hx hb dX3_isEdge_9 (by decide) (fun hc => ?_) (fun hc => ?_)
    · replace h := (if_pos hc).symm.trans h
      exact w_X3_isEdge_B23 ⟨hx, hb, hml, hown, hts, hK⟩ hret  h (lv_sub hl [] rfl) hC hS
    · replace h := (if_neg hc).symm.trans h
      refine lv_aload_n hx hb dX3_isEdge_12 rfl (lv_at hl 0 rfl) ?_
      refine va_get (D := D) (ci := 3) (v := .ref (x0 + 1)) (C := RX3) (T := TX3) (N := 3) hx hb hts (wqs inW_X3) hown hK.1 hC.1 (x0 - b) (sg_gKey hx0) rfl 0 (by decide) (hts _ (wq wt_98)) (fun _ h9 => h9) rfl dX3_isEdge_13 ?_
      refine lv_iload_n hx hb dX3_isEdge_16 rfl (lv_at hl 1 rfl) ?_
      obtain ⟨hg, h⟩ := sg_gd h
      refine va_cald hx hb hK.1 hC.1 ((x0 + 1) - b) 1 (sg_gksigns hx0) rfl (sg_in hg) dX3_isEdge_17 ?_
      refine lv_bipush (v := 32) hx hb dX3_isEdge_18 (by decide) ?_
      refine lv_icmp_ne (tgt := 27) hx hb dX3_isEdge_20 (by decide) (fun hc => ?_) (fun hc => ?_)
      · replace h := (if_neg hc).symm.trans h
        refine lv_iconst (v := 0) hx hb dX3_isEdge_27 (by decide) ?_
        exact hret _ _ _ _ _ h (by decide) hC hS dX3_isEdge_28
      · replace h := (if_pos hc).symm.trans h
        exact w_X3_isEdge_B23 ⟨hx, hb, hml, hown, hts, hK⟩ hret  h (lv_sub hl [] rfl) hC hS
set_option maxHeartbeats 4000000 in
set_option maxRecDepth 100000 in
theorem c_X3_isEdge (l : Launch) (D : va_G) (κ : Nat → ClassId) (b : Nat) (σ : Sg) (x0 : Nat) (x1 : Int32) (rr : Int32) (hx0 : is_Key b x0) (h : fn_X3_isEdge b σ x0 x1 = some rr) : Met l yX3_isEdge wsX3_isEdge rm_X3_isEdge (va_Pc [.ref x0, .int x1] (fun U => KK D κ U ∧ CW D κ b σ U.heap)) (va_Qi (fun (r : Int32) (u : Sg) => r = rr ∧ u = σ) (fun u t => CW D κ b u t.heap) (sg_A b 892)) 0 0 (sg_A b 892) := by
  refine Met.ofW (cc := cX3_isEdge) (maxL := 2) (ret := (some .boolean)) (by decide) rfl ?_
  intro p e s m args below meth c s₁ B hml hv
  obtain ⟨rfl, hK, hC⟩ := hv
  have hr := B.returns
  have hlocks := B.notSynchronized
  have hl := lv_entry ([.ref x0, .int x1]) (n := 2) (Nat.le_of_ble_eq_true rfl)
  rw [lg_entry_eq]
  generalize (lg_sl ([.ref x0, .int x1]) ++ List.replicate (2 - (lg_sl ([.ref x0, .int x1])).length) Slot.unset).toArray = ls at hl ⊢
  have hl : lv_has ls 2 [(0, .ref x0), (1, .int x1)] := hl
  exact w_X3_isEdge_B0 ⟨B.exec, B.bytes, hml, findClass_of_methodNamed B.named, atoms_spec (ws := wsX3_isEdge) B.pre, hK⟩ (fun v H locs pc ls hq hbo hC hS hd => W.zret B.exec B.bytes hr hbo (fun t ht hW => ⟨⟨v, _, rfl, ⟨Option.some.inj hq, rfl⟩, CW_e ht hC⟩, hS.F ht⟩) hS.2.2 hd) h hx0 hl hC va_S.rf

-- RecordShelf$Key.hasWords(LRecordShelf$Key;)Z
theorem dX3_hasWords_0 : decode cX3_hasWords 0 = .ok (.aload_n 1, 1) := by decide +kernel
theorem dX3_hasWords_1 : decode cX3_hasWords 1 = .ok (.getfield 15, 3) := by decide +kernel
theorem dX3_hasWords_4 : decode cX3_hasWords 4 = .ok (.ifCond .ne 16, 3) := by decide +kernel
theorem dX3_hasWords_7 : decode cX3_hasWords 7 = .ok (.aload_n 0, 1) := by decide +kernel
theorem dX3_hasWords_8 : decode cX3_hasWords 8 = .ok (.getfield 15, 3) := by decide +kernel
theorem dX3_hasWords_11 : decode cX3_hasWords 11 = .ok (.ifCond .ne 7, 3) := by decide +kernel
theorem dX3_hasWords_14 : decode cX3_hasWords 14 = .ok (.iconst 1, 1) := by decide +kernel
theorem dX3_hasWords_15 : decode cX3_hasWords 15 = .ok (.goto 4, 3) := by decide +kernel
theorem dX3_hasWords_18 : decode cX3_hasWords 18 = .ok (.iconst 0, 1) := by decide +kernel
theorem dX3_hasWords_19 : decode cX3_hasWords 19 = .ok (.ireturn, 1) := by decide +kernel
theorem dX3_hasWords_20 : decode cX3_hasWords 20 = .ok (.iconst 0, 1) := by decide +kernel
theorem dX3_hasWords_21 : decode cX3_hasWords 21 = .ok (.istore_n 2, 1) := by decide +kernel
theorem dX3_hasWords_22 : decode cX3_hasWords 22 = .ok (.iload_n 2, 1) := by decide +kernel
theorem dX3_hasWords_23 : decode cX3_hasWords 23 = .ok (.aload_n 1, 1) := by decide +kernel
theorem dX3_hasWords_24 : decode cX3_hasWords 24 = .ok (.getfield 15, 3) := by decide +kernel
theorem dX3_hasWords_27 : decode cX3_hasWords 27 = .ok (.iadd, 1) := by decide +kernel
theorem dX3_hasWords_28 : decode cX3_hasWords 28 = .ok (.aload_n 0, 1) := by decide +kernel
theorem dX3_hasWords_29 : decode cX3_hasWords 29 = .ok (.getfield 15, 3) := by decide +kernel
theorem dX3_hasWords_32 : decode cX3_hasWords 32 = .ok (.if_icmp .gt 53, 3) := by decide +kernel
theorem dX3_hasWords_35 : decode cX3_hasWords 35 = .ok (.aload_n 0, 1) := by decide +kernel
theorem dX3_hasWords_36 : decode cX3_hasWords 36 = .ok (.iload_n 2, 1) := by decide +kernel
theorem dX3_hasWords_37 : decode cX3_hasWords 37 = .ok (.iconst 1, 1) := by decide +kernel
theorem dX3_hasWords_38 : decode cX3_hasWords 38 = .ok (.isub, 1) := by decide +kernel
theorem dX3_hasWords_39 : decode cX3_hasWords 39 = .ok (.invokevirtual 49, 3) := by decide +kernel
theorem dX3_hasWords_42 : decode cX3_hasWords 42 = .ok (.ifCond .eq 20, 3) := by decide +kernel
theorem dX3_hasWords_45 : decode cX3_hasWords 45 = .ok (.aload_n 0, 1) := by decide +kernel
theorem dX3_hasWords_46 : decode cX3_hasWords 46 = .ok (.iload_n 2, 1) := by decide +kernel
theorem dX3_hasWords_47 : decode cX3_hasWords 47 = .ok (.aload_n 1, 1) := by decide +kernel
theorem dX3_hasWords_48 : decode cX3_hasWords 48 = .ok (.getfield 15, 3) := by decide +kernel
theorem dX3_hasWords_51 : decode cX3_hasWords 51 = .ok (.iadd, 1) := by decide +kernel
theorem dX3_hasWords_52 : decode cX3_hasWords 52 = .ok (.invokevirtual 49, 3) := by decide +kernel
theorem dX3_hasWords_55 : decode cX3_hasWords 55 = .ok (.ifCond .eq 7, 3) := by decide +kernel
theorem dX3_hasWords_58 : decode cX3_hasWords 58 = .ok (.iconst 1, 1) := by decide +kernel
theorem dX3_hasWords_59 : decode cX3_hasWords 59 = .ok (.goto 4, 3) := by decide +kernel
theorem dX3_hasWords_62 : decode cX3_hasWords 62 = .ok (.iconst 0, 1) := by decide +kernel
theorem dX3_hasWords_63 : decode cX3_hasWords 63 = .ok (.istore_n 3, 1) := by decide +kernel
theorem dX3_hasWords_64 : decode cX3_hasWords 64 = .ok (.iload_n 3, 1) := by decide +kernel
theorem dX3_hasWords_65 : decode cX3_hasWords 65 = .ok (.ifCond .eq 14, 3) := by decide +kernel
theorem dX3_hasWords_68 : decode cX3_hasWords 68 = .ok (.aload_n 0, 1) := by decide +kernel
theorem dX3_hasWords_69 : decode cX3_hasWords 69 = .ok (.iload_n 2, 1) := by decide +kernel
theorem dX3_hasWords_70 : decode cX3_hasWords 70 = .ok (.aload_n 1, 1) := by decide +kernel
theorem dX3_hasWords_71 : decode cX3_hasWords 71 = .ok (.invokevirtual 41, 3) := by decide +kernel
theorem dX3_hasWords_74 : decode cX3_hasWords 74 = .ok (.ifCond .eq 5, 3) := by decide +kernel
theorem dX3_hasWords_77 : decode cX3_hasWords 77 = .ok (.iconst 1, 1) := by decide +kernel
theorem dX3_hasWords_78 : decode cX3_hasWords 78 = .ok (.ireturn, 1) := by decide +kernel
theorem dX3_hasWords_79 : decode cX3_hasWords 79 = .ok (.iinc 2 1, 3) := by decide +kernel
theorem dX3_hasWords_82 : decode cX3_hasWords 82 = .ok (.goto (-60), 3) := by decide +kernel
theorem dX3_hasWords_85 : decode cX3_hasWords 85 = .ok (.iconst 0, 1) := by decide +kernel
theorem dX3_hasWords_86 : decode cX3_hasWords 86 = .ok (.ireturn, 1) := by decide +kernel
def rm_X3_hasWords : Room := { frames := 1, cells := 0, slots := 0, locals := 23 }
def fn_X3_hasWords_B79 (b : Nat) (σ : Sg) (z22 : Nat → Nat → Int32 → Option (Int32)) (x0 : Nat) (x1 : Nat) (x2 : Int32) : Option (Int32) :=
  (sg_lt (x2 + 1 : Int32) fun v1 =>
  z22 x0 x1 v1)
set_option maxHeartbeats 4000000 in
set_option maxRecDepth 100000 in
theorem w_X3_hasWords_B79 {p : Program} {l : Launch} {e : Env} {s : State} {m : MethodId} {args : Array Value} {below : List Frame} {meth : Method} {c : Code} {Q : State → Prop} {D : va_G} {κ : Nat → ClassId} {b : Nat} {H0 : Heap} {rr : Int32} {σ : Sg} (hZ : sg_Z p c s m args D κ cX3_hasWords 4 RX3 wsX3_hasWords) (hret : ∀ (v : Int32) (H : Heap) (locs : List Loc) (pc : Nat) (ls : Array Slot), some v = some rr → narrow .boolean (.int v) = .int v → CW D κ b σ H → va_S (sg_A b 892) H0 H locs → decode cX3_hasWords pc = .ok (.ireturn, 1) → W p l e rm_X3_hasWords s m args below meth c H locs 0 0 Q (F0 m pc ls [.int v])) {z22 : Nat → Nat → Int32 → Option (Int32)} (hr22 : ∀ {x0 : Nat} {x1 : Nat} {x2 : Int32} {H : Heap} {locs : List Loc} {ls : Array Slot}, z22 x0 x1 x2 = some rr → is_Key b x0 → is_Key b x1 → lv_has ls 4 [(0, .ref x0), (1, .ref x1), (2, .int x2)] → CW D κ b σ H → va_S (sg_A b 892) H0 H locs → W p l e rm_X3_hasWords s m args below meth c H locs 0 0 Q (F0 m 22 ls [])) : ∀ {x0 : Nat} {x1 : Nat} {x2 : Int32} {H : Heap} {locs : List Loc} {ls : Array Slot}, fn_X3_hasWords_B79 b σ z22 x0 x1 x2 = some rr → is_Key b x0 → is_Key b x1 → lv_has ls 4 [(0, .ref x0), (1, .ref x1), (2, .int x2)] → CW D κ b σ H → va_S (sg_A b 892) H0 H locs → W p l e rm_X3_hasWords s m args below meth c H locs 0 0 Q (F0 m 79 ls []) := by
  obtain ⟨hx, hb, hml, hown, hts, hK⟩ := hZ
  intro x0 x1 x2 H locs ls h hx0 hx1 hl hC hS
  unfold fn_X3_hasWords_B79 at h
  obtain ⟨v1, ev1, h⟩ := sg_lte h
  refine lv_iinc (v := v1) (lv' := [(2, .int v1), (0, .ref x0), (1, .ref x1)]) (k := 2) hx hb dX3_hasWords_79 hl rfl (sg_inc (by decide) ev1) (by decide) rfl (fun ls hl => ?_)
  refine lv_goto (tgt := 22) hx hb dX3_hasWords_82 (by decide) ?_
  exact hr22 h hx0 hx1 (lv_sub hl [1, 2, 0] rfl) hC hS
def fn_X3_hasWords_B63 (b : Nat) (σ : Sg) (z22 : Nat → Nat → Int32 → Option (Int32)) (x0 : Nat) (x1 : Nat) (x2 : Int32) (y0 : Int32) : Option (Int32) :=
  (if y0 = 0 then
  fn_X3_hasWords_B79 b σ z22 x0 x1 x2
  else ((fn_X3_hasAt b σ x0 x2 x1).bind fun r1 =>
  (if r1 = 0 then
  fn_X3_hasWords_B79 b σ z22 x0 x1 x2
  else some 1)))
set_option maxHeartbeats 4000000 in
set_option maxRecDepth 100000 in
theorem w_X3_hasWords_B63 {p : Program} {l : Launch} {e : Env} {s : State} {m : MethodId} {args : Array Value} {below : List Frame} {meth : Method} {c : Code} {Q : State → Prop} {D : va_G} {κ : Nat → ClassId} {b : Nat} {H0 : Heap} {rr : Int32} {σ : Sg} (hZ : sg_Z p c s m args D κ cX3_hasWords 4 RX3 wsX3_hasWords) (hret : ∀ (v : Int32) (H : Heap) (locs : List Loc) (pc : Nat) (ls : Array Slot), some v = some rr → narrow .boolean (.int v) = .int v → CW D κ b σ H → va_S (sg_A b 892) H0 H locs → decode cX3_hasWords pc = .ok (.ireturn, 1) → W p l e rm_X3_hasWords s m args below meth c H locs 0 0 Q (F0 m pc ls [.int v])) {z22 : Nat → Nat → Int32 → Option (Int32)} (hr22 : ∀ {x0 : Nat} {x1 : Nat} {x2 : Int32} {H : Heap} {locs : List Loc} {ls : Array Slot}, z22 x0 x1 x2 = some rr → is_Key b x0 → is_Key b x1 → lv_has ls 4 [(0, .ref x0), (1, .ref x1), (2, .int x2)] → CW D κ b σ H → va_S (sg_A b 892) H0 H locs → W p l e rm_X3_hasWords s m args below meth c H locs 0 0 Q (F0 m 22 ls [])) : ∀ {x0 : Nat} {x1 : Nat} {x2 : Int32} {y0 : Int32} {H : Heap} {locs : List Loc} {ls : Array Slot}, fn_X3_hasWords_B63 b σ z22 x0 x1 x2 y0 = some rr → is_Key b x0 → is_Key b x1 → lv_has ls 4 [(0, .ref x0), (1, .ref x1), (2, .int x2)] → CW D κ b σ H → va_S (sg_A b 892) H0 H locs → W p l e rm_X3_hasWords s m args below meth c H locs 0 0 Q (F0 m 63 ls [.int y0]) := by
  obtain ⟨hx, hb, hml, hown, hts, hK⟩ := hZ
  intro x0 x1 x2 y0 H locs ls h hx0 hx1 hl hC hS
  unfold fn_X3_hasWords_B63 at h
  refine lv_istore_n (lv' := [(3, .int y0), (0, .ref x0), (1, .ref x1), (2, .int x2)]) hx hb dX3_hasWords_63 rfl hl (by decide) rfl (fun ls hl => ?_)
  refine lv_iload_n hx hb dX3_hasWords_64 rfl (lv_at hl 0 rfl) ?_
  refine lv_if_eq (tgt := 79) hx hb dX3_hasWords_65 (by decide) (fun hc => ?_) (fun hc => ?_)
  · replace h := (if_pos hc).symm.trans h
    exact w_X3_hasWords_B79 ⟨hx, hb, hml, hown, hts, hK⟩ hret hr22 h hx0 hx1 (lv_sub hl [1, 2, 3] rfl) hC hS
  · replace h := (if_neg hc).symm.trans h
    refine lv_aload_n hx hb dX3_hasWords_68 rfl (lv_at hl 1 rfl) ?_
    refine lv_iload_n hx hb dX3_hasWords_69 rfl (lv_at hl 3 rfl) ?_
    refine lv_aload_n hx hb dX3_hasWords_70 rfl (lv_at hl 2 rfl) ?_
    obtain ⟨r1, er1, h⟩ := Option.bind_eq_some_iff.mp h
    refine va_calli (va_runV (As := [.int x2, .ref x1]) (rest := []) ⟨hx, hb, hml, hown, hts⟩ (c_X3_hasAt l D κ b σ x0 x2 x1 _ hx0 hx1 er1) (cwV 2 hts (gwV wt_630 wt_632 wp_27 wt_5 wt_633) rfl rfl rfl (by decide +kernel) ⟨Nat.le_of_ble_eq_true rfl, Nat.le_of_ble_eq_true rfl⟩) (CW_preV hK hC (sg_gKey hx0) rfl) rfl rfl hl.1 rfl (lv_room (Nat.le_of_ble_eq_true rfl)) dX3_hasWords_71 ⟨Nat.zero_le _, Nat.zero_le _⟩) hS (fun _ _ h => h) (fun _ h => h) (fun r u t H locs ht _ hp hB _ _ hS => ?_)
    refine sg_topi hp.1 ?_
    have hC : CW D κ b σ H := CW_b hB ht hp.2
    refine lv_if_eq (tgt := 79) hx hb dX3_hasWords_74 (by decide) (fun hc => ?_) (fun hc => ?_)
    · replace h := (if_pos hc).symm.trans h
      exact w_X3_hasWords_B79 ⟨hx, hb, hml, hown, hts, hK⟩ hret hr22 h hx0 hx1 (lv_sub hl [1, 2, 3] rfl) hC hS
    · replace h := (if_neg hc).symm.trans h
      refine lv_iconst (v := 1) hx hb dX3_hasWords_77 (by decide) ?_
      exact hret _ _ _ _ _ h (by decide) hC hS dX3_hasWords_78
def fn_X3_hasWords_B62 (b : Nat) (σ : Sg) (z22 : Nat → Nat → Int32 → Option (Int32)) (x0 : Nat) (x1 : Nat) (x2 : Int32) : Option (Int32) :=
  fn_X3_hasWords_B63 b σ z22 x0 x1 x2 0
set_option maxHeartbeats 4000000 in
set_option maxRecDepth 100000 in
theorem w_X3_hasWords_B62 {p : Program} {l : Launch} {e : Env} {s : State} {m : MethodId} {args : Array Value} {below : List Frame} {meth : Method} {c : Code} {Q : State → Prop} {D : va_G} {κ : Nat → ClassId} {b : Nat} {H0 : Heap} {rr : Int32} {σ : Sg} (hZ : sg_Z p c s m args D κ cX3_hasWords 4 RX3 wsX3_hasWords) (hret : ∀ (v : Int32) (H : Heap) (locs : List Loc) (pc : Nat) (ls : Array Slot), some v = some rr → narrow .boolean (.int v) = .int v → CW D κ b σ H → va_S (sg_A b 892) H0 H locs → decode cX3_hasWords pc = .ok (.ireturn, 1) → W p l e rm_X3_hasWords s m args below meth c H locs 0 0 Q (F0 m pc ls [.int v])) {z22 : Nat → Nat → Int32 → Option (Int32)} (hr22 : ∀ {x0 : Nat} {x1 : Nat} {x2 : Int32} {H : Heap} {locs : List Loc} {ls : Array Slot}, z22 x0 x1 x2 = some rr → is_Key b x0 → is_Key b x1 → lv_has ls 4 [(0, .ref x0), (1, .ref x1), (2, .int x2)] → CW D κ b σ H → va_S (sg_A b 892) H0 H locs → W p l e rm_X3_hasWords s m args below meth c H locs 0 0 Q (F0 m 22 ls [])) : ∀ {x0 : Nat} {x1 : Nat} {x2 : Int32} {H : Heap} {locs : List Loc} {ls : Array Slot}, fn_X3_hasWords_B62 b σ z22 x0 x1 x2 = some rr → is_Key b x0 → is_Key b x1 → lv_has ls 4 [(0, .ref x0), (1, .ref x1), (2, .int x2)] → CW D κ b σ H → va_S (sg_A b 892) H0 H locs → W p l e rm_X3_hasWords s m args below meth c H locs 0 0 Q (F0 m 62 ls []) := by
  obtain ⟨hx, hb, hml, hown, hts, hK⟩ := hZ
  intro x0 x1 x2 H locs ls h hx0 hx1 hl hC hS
  unfold fn_X3_hasWords_B62 at h
  refine lv_iconst (v := 0) hx hb dX3_hasWords_62 (by decide) ?_
  exact w_X3_hasWords_B63 ⟨hx, hb, hml, hown, hts, hK⟩ hret hr22 h hx0 hx1 (lv_sub hl [0, 1, 2] rfl) hC hS
def fn_X3_hasWords_B22b (b : Nat) (σ : Sg) (z22 : Nat → Nat → Int32 → Option (Int32)) (x0 : Nat) (x1 : Nat) (x2 : Int32) : Option (Int32) :=
  (if ((σ.1 x0 1) : Int32) < (x2 + (σ.1 x1 1)) then
  some 0
  else ((fn_X3_isEdge b σ x0 (x2 - 1)).bind fun r1 =>
  (if r1 = 0 then
  fn_X3_hasWords_B62 b σ z22 x0 x1 x2
  else ((fn_X3_isEdge b σ x0 (x2 + (σ.1 x1 1))).bind fun r2 =>
  (if r2 = 0 then
  fn_X3_hasWords_B62 b σ z22 x0 x1 x2
  else fn_X3_hasWords_B63 b σ z22 x0 x1 x2 1)))))
def fn_X3_hasWords_B22 (b : Nat) (σ : Sg) : Nat → Nat → Nat → Int32 → Option (Int32)
  | 0 => fun _ _ _ => none
  | n + 1 => fun x0 x1 x2 => fn_X3_hasWords_B22b b σ (fn_X3_hasWords_B22 b σ n) x0 x1 x2
set_option maxHeartbeats 4000000 in
set_option maxRecDepth 100000 in
theorem w_X3_hasWords_B22b {p : Program} {l : Launch} {e : Env} {s : State} {m : MethodId} {args : Array Value} {below : List Frame} {meth : Method} {c : Code} {Q : State → Prop} {D : va_G} {κ : Nat → ClassId} {b : Nat} {H0 : Heap} {rr : Int32} {σ : Sg} (hZ : sg_Z p c s m args D κ cX3_hasWords 4 RX3 wsX3_hasWords) (hret : ∀ (v : Int32) (H : Heap) (locs : List Loc) (pc : Nat) (ls : Array Slot), some v = some rr → narrow .boolean (.int v) = .int v → CW D κ b σ H → va_S (sg_A b 892) H0 H locs → decode cX3_hasWords pc = .ok (.ireturn, 1) → W p l e rm_X3_hasWords s m args below meth c H locs 0 0 Q (F0 m pc ls [.int v])) {z22 : Nat → Nat → Int32 → Option (Int32)} (hr22 : ∀ {x0 : Nat} {x1 : Nat} {x2 : Int32} {H : Heap} {locs : List Loc} {ls : Array Slot}, z22 x0 x1 x2 = some rr → is_Key b x0 → is_Key b x1 → lv_has ls 4 [(0, .ref x0), (1, .ref x1), (2, .int x2)] → CW D κ b σ H → va_S (sg_A b 892) H0 H locs → W p l e rm_X3_hasWords s m args below meth c H locs 0 0 Q (F0 m 22 ls [])) : ∀ {x0 : Nat} {x1 : Nat} {x2 : Int32} {H : Heap} {locs : List Loc} {ls : Array Slot}, fn_X3_hasWords_B22b b σ z22 x0 x1 x2 = some rr → is_Key b x0 → is_Key b x1 → lv_has ls 4 [(0, .ref x0), (1, .ref x1), (2, .int x2)] → CW D κ b σ H → va_S (sg_A b 892) H0 H locs → W p l e rm_X3_hasWords s m args below meth c H locs 0 0 Q (F0 m 22 ls []) := by
  obtain ⟨hx, hb, hml, hown, hts, hK⟩ := hZ
  intro x0 x1 x2 H locs ls h hx0 hx1 hl hC hS
  unfold fn_X3_hasWords_B22b at h
  refine lv_iload_n hx hb dX3_hasWords_22 rfl (lv_at hl 2 rfl) ?_
  refine lv_aload_n hx hb dX3_hasWords_23 rfl (lv_at hl 1 rfl) ?_
  refine va_get (D := D) (ci := 3) (v := .int (σ.1 x1 1)) (C := RX3) (T := TX3) (N := 3) hx hb hts (wqs inW_X3) hown hK.1 hC.1 (x1 - b) (sg_gKey hx1) rfl 1 (by decide) (hts _ (wq wt_99)) (fun _ h9 => h9) rfl dX3_hasWords_24 ?_
  refine lv_iadd hx hb dX3_hasWords_27 ?_
  refine lv_aload_n hx hb dX3_hasWords_28 rfl (lv_at hl 0 rfl) ?_
  refine va_get (D := D) (ci := 3) (v := .int (σ.1 x0 1)) (C := RX3) (T := TX3) (N := 3) hx hb hts (wqs inW_X3) hown hK.1 hC.1 (x0 - b) (sg_gKey hx0) rfl 1 (by decide) (hts _ (wq wt_99)) (fun _ h9 => h9) rfl dX3_hasWords_29 ?_
  refine lv_icmp_gt (tgt := 85) hx hb dX3_hasWords_32 (by decide) (fun hc => ?_) (fun hc => ?_)
  · replace h := (if_pos hc).symm.trans h
    refine lv_iconst (v := 0) hx hb dX3_hasWords_85 (by decide) ?_
    exact hret _ _ _ _ _ h (by decide) hC hS dX3_hasWords_86
  · replace h := (if_neg hc).symm.trans h
    refine lv_aload_n hx hb dX3_hasWords_35 rfl (lv_at hl 0 rfl) ?_
    refine lv_iload_n hx hb dX3_hasWords_36 rfl (lv_at hl 2 rfl) ?_
    refine lv_iconst (v := 1) hx hb dX3_hasWords_37 (by decide) ?_
    refine lv_isub hx hb dX3_hasWords_38 ?_
    obtain ⟨r1, er1, h⟩ := Option.bind_eq_some_iff.mp h
    refine va_calli (va_runV (As := [.int (x2 - 1)]) (rest := []) ⟨hx, hb, hml, hown, hts⟩ (c_X3_isEdge l D κ b σ x0 (x2 - 1) _ hx0 er1) (cwV 1 hts (gwV wt_638 wt_640 wp_29 wt_5 wt_641) rfl rfl rfl (by decide +kernel) ⟨Nat.le_of_ble_eq_true rfl, Nat.le_of_ble_eq_true rfl⟩) (CW_preV hK hC (sg_gKey hx0) rfl) rfl rfl hl.1 rfl (lv_room (Nat.le_of_ble_eq_true rfl)) dX3_hasWords_39 ⟨Nat.zero_le _, Nat.zero_le _⟩) hS (fun _ _ h => h) (fun _ h => h) (fun r u t H locs ht _ hp hB _ _ hS => ?_)
    refine sg_topi hp.1 ?_
    have hC : CW D κ b σ H := CW_b hB ht hp.2
    refine lv_if_eq (tgt := 62) hx hb dX3_hasWords_42 (by decide) (fun hc => ?_) (fun hc => ?_)
    · replace h := (if_pos hc).symm.trans h
      exact w_X3_hasWords_B62 ⟨hx, hb, hml, hown, hts, hK⟩ hret hr22 h hx0 hx1 (lv_sub hl [0, 1, 2] rfl) hC hS
    · replace h := (if_neg hc).symm.trans h
      refine lv_aload_n hx hb dX3_hasWords_45 rfl (lv_at hl 0 rfl) ?_
      refine lv_iload_n hx hb dX3_hasWords_46 rfl (lv_at hl 2 rfl) ?_
      refine lv_aload_n hx hb dX3_hasWords_47 rfl (lv_at hl 1 rfl) ?_
      refine va_get (D := D) (ci := 3) (v := .int (σ.1 x1 1)) (C := RX3) (T := TX3) (N := 3) hx hb hts (wqs inW_X3) hown hK.1 hC.1 (x1 - b) (sg_gKey hx1) rfl 1 (by decide) (hts _ (wq wt_99)) (fun _ h9 => h9) rfl dX3_hasWords_48 ?_
      refine lv_iadd hx hb dX3_hasWords_51 ?_
      obtain ⟨r2, er2, h⟩ := Option.bind_eq_some_iff.mp h
      refine va_calli (va_runV (As := [.int (x2 + (σ.1 x1 1))]) (rest := []) ⟨hx, hb, hml, hown, hts⟩ (c_X3_isEdge l D κ b σ x0 (x2 + (σ.1 x1 1)) _ hx0 er2) (cwV 1 hts (gwV wt_638 wt_640 wp_29 wt_5 wt_641) rfl rfl rfl (by decide +kernel) ⟨Nat.le_of_ble_eq_true rfl, Nat.le_of_ble_eq_true rfl⟩) (CW_preV hK hC (sg_gKey hx0) rfl) rfl rfl hl.1 rfl (lv_room (Nat.le_of_ble_eq_true rfl)) dX3_hasWords_52 ⟨Nat.zero_le _, Nat.zero_le _⟩) hS (fun _ _ h => h) (fun _ h => h) (fun r u t H locs ht _ hp hB _ _ hS => ?_)
      refine sg_topi hp.1 ?_
      have hC : CW D κ b σ H := CW_b hB ht hp.2
      refine lv_if_eq (tgt := 62) hx hb dX3_hasWords_55 (by decide) (fun hc => ?_) (fun hc => ?_)
      · replace h := (if_pos hc).symm.trans h
        exact w_X3_hasWords_B62 ⟨hx, hb, hml, hown, hts, hK⟩ hret hr22 h hx0 hx1 (lv_sub hl [0, 1, 2] rfl) hC hS
      · replace h := (if_neg hc).symm.trans h
        refine lv_iconst (v := 1) hx hb dX3_hasWords_58 (by decide) ?_
        refine lv_goto (tgt := 63) hx hb dX3_hasWords_59 (by decide) ?_
        exact w_X3_hasWords_B63 ⟨hx, hb, hml, hown, hts, hK⟩ hret hr22 h hx0 hx1 (lv_sub hl [0, 1, 2] rfl) hC hS
set_option maxHeartbeats 4000000 in
theorem w_X3_hasWords_B22 {p : Program} {l : Launch} {e : Env} {s : State} {m : MethodId} {args : Array Value} {below : List Frame} {meth : Method} {c : Code} {Q : State → Prop} {D : va_G} {κ : Nat → ClassId} {b : Nat} {H0 : Heap} {rr : Int32} {σ : Sg} (hZ : sg_Z p c s m args D κ cX3_hasWords 4 RX3 wsX3_hasWords) (hret : ∀ (v : Int32) (H : Heap) (locs : List Loc) (pc : Nat) (ls : Array Slot), some v = some rr → narrow .boolean (.int v) = .int v → CW D κ b σ H → va_S (sg_A b 892) H0 H locs → decode cX3_hasWords pc = .ok (.ireturn, 1) → W p l e rm_X3_hasWords s m args below meth c H locs 0 0 Q (F0 m pc ls [.int v])) : ∀ n : Nat, ∀ {x0 : Nat} {x1 : Nat} {x2 : Int32} {H : Heap} {locs : List Loc} {ls : Array Slot}, fn_X3_hasWords_B22 b σ n x0 x1 x2 = some rr → is_Key b x0 → is_Key b x1 → lv_has ls 4 [(0, .ref x0), (1, .ref x1), (2, .int x2)] → CW D κ b σ H → va_S (sg_A b 892) H0 H locs → W p l e rm_X3_hasWords s m args below meth c H locs 0 0 Q (F0 m 22 ls []) := by
  intro n
  induction n with
  | zero => intro x0 x1 x2 H locs ls h hx0 hx1 hl hC hS; cases (show (none : Option (Int32)) = some rr from h)
  | succ n ih =>
    intro x0 x1 x2 H locs ls h hx0 hx1 hl hC hS
    exact w_X3_hasWords_B22b hZ hret ih (show fn_X3_hasWords_B22b b σ (fn_X3_hasWords_B22 b σ n) x0 x1 x2 = some rr from h) hx0 hx1 hl hC hS
def fn_X3_hasWords (b : Nat) (σ : Sg) (x0 : Nat) (x1 : Nat) : Option (Int32) :=
  (if (σ.1 x1 1) = 0 then
  (if (σ.1 x0 1) = 0 then
  some 1
  else some 0)
  else fn_X3_hasWords_B22 b σ sg_N x0 x1 0)
set_option maxHeartbeats 4000000 in
set_option maxRecDepth 100000 in
theorem w_X3_hasWords_B0 {p : Program} {l : Launch} {e : Env} {s : State} {m : MethodId} {args : Array Value} {below : List Frame} {meth : Method} {c : Code} {Q : State → Prop} {D : va_G} {κ : Nat → ClassId} {b : Nat} {H0 : Heap} {rr : Int32} {σ : Sg} (hZ : sg_Z p c s m args D κ cX3_hasWords 4 RX3 wsX3_hasWords) (hret : ∀ (v : Int32) (H : Heap) (locs : List Loc) (pc : Nat) (ls : Array Slot), some v = some rr → narrow .boolean (.int v) = .int v → CW D κ b σ H → va_S (sg_A b 892) H0 H locs → decode cX3_hasWords pc = .ok (.ireturn, 1) → W p l e rm_X3_hasWords s m args below meth c H locs 0 0 Q (F0 m pc ls [.int v])) : ∀ {x0 : Nat} {x1 : Nat} {H : Heap} {locs : List Loc} {ls : Array Slot}, fn_X3_hasWords b σ x0 x1 = some rr → is_Key b x0 → is_Key b x1 → lv_has ls 4 [(0, .ref x0), (1, .ref x1)] → CW D κ b σ H → va_S (sg_A b 892) H0 H locs → W p l e rm_X3_hasWords s m args below meth c H locs 0 0 Q (F0 m 0 ls []) := by
  obtain ⟨hx, hb, hml, hown, hts, hK⟩ := hZ
  intro x0 x1 H locs ls h hx0 hx1 hl hC hS
  unfold fn_X3_hasWords at h
  refine lv_aload_n hx hb dX3_hasWords_0 rfl (lv_at hl 1 rfl) ?_
  refine va_get (D := D) (ci := 3) (v := .int (σ.1 x1 1)) (C := RX3) (T := TX3) (N := 3) hx hb hts (wqs inW_X3) hown hK.1 hC.1 (x1 - b) (sg_gKey hx1) rfl 1 (by decide) (hts _ (wq wt_99)) (fun _ h9 => h9) rfl dX3_hasWords_1 ?_
  refine lv_if_ne (tgt := 20) hx hb dX3_hasWords_4 (by decide) (fun hc => ?_) (fun hc => ?_)
  · replace h := (if_neg hc).symm.trans h
    refine lv_iconst (v := 0) hx hb dX3_hasWords_20 (by decide) ?_
    refine lv_istore_n (lv' := [(2, .int 0), (0, .ref x0), (1, .ref x1)]) hx hb dX3_hasWords_21 rfl hl (by decide) rfl (fun ls hl => ?_)
    exact w_X3_hasWords_B22 ⟨hx, hb, hml, hown, hts, hK⟩ hret  sg_N h hx0 hx1 (lv_sub hl [1, 2, 0] rfl) hC hS
  · replace h := (if_pos hc).symm.trans h
    refine lv_aload_n hx hb dX3_hasWords_7 rfl (lv_at hl 0 rfl) ?_
    refine va_get (D := D) (ci := 3) (v := .int (σ.1 x0 1)) (C := RX3) (T := TX3) (N := 3) hx hb hts (wqs inW_X3) hown hK.1 hC.1 (x0 - b) (sg_gKey hx0) rfl 1 (by decide) (hts _ (wq wt_99)) (fun _ h9 => h9) rfl dX3_hasWords_8 ?_
    refine lv_if_ne (tgt := 18) hx hb dX3_hasWords_11 (by decide) (fun hc => ?_) (fun hc => ?_)
    · replace h := (if_neg hc).symm.trans h
      refine lv_iconst (v := 0) hx hb dX3_hasWords_18 (by decide) ?_
      exact hret _ _ _ _ _ h (by decide) hC hS dX3_hasWords_19
    · replace h := (if_pos hc).symm.trans h
      refine lv_iconst (v := 1) hx hb dX3_hasWords_14 (by decide) ?_
      refine lv_goto (tgt := 19) hx hb dX3_hasWords_15 (by decide) ?_
      exact hret _ _ _ _ _ h (by decide) hC hS dX3_hasWords_19
set_option maxHeartbeats 4000000 in
set_option maxRecDepth 100000 in
theorem c_X3_hasWords (l : Launch) (D : va_G) (κ : Nat → ClassId) (b : Nat) (σ : Sg) (x0 : Nat) (x1 : Nat) (rr : Int32) (hx0 : is_Key b x0) (hx1 : is_Key b x1) (h : fn_X3_hasWords b σ x0 x1 = some rr) : Met l yX3_hasWords wsX3_hasWords rm_X3_hasWords (va_Pc [.ref x0, .ref x1] (fun U => KK D κ U ∧ CW D κ b σ U.heap)) (va_Qi (fun (r : Int32) (u : Sg) => r = rr ∧ u = σ) (fun u t => CW D κ b u t.heap) (sg_A b 892)) 0 0 (sg_A b 892) := by
  refine Met.ofW (cc := cX3_hasWords) (maxL := 4) (ret := (some .boolean)) (by decide) rfl ?_
  intro p e s m args below meth c s₁ B hml hv
  obtain ⟨rfl, hK, hC⟩ := hv
  have hr := B.returns
  have hlocks := B.notSynchronized
  have hl := lv_entry ([.ref x0, .ref x1]) (n := 4) (Nat.le_of_ble_eq_true rfl)
  rw [lg_entry_eq]
  generalize (lg_sl ([.ref x0, .ref x1]) ++ List.replicate (4 - (lg_sl ([.ref x0, .ref x1])).length) Slot.unset).toArray = ls at hl ⊢
  have hl : lv_has ls 4 [(0, .ref x0), (1, .ref x1)] := hl
  exact w_X3_hasWords_B0 ⟨B.exec, B.bytes, hml, findClass_of_methodNamed B.named, atoms_spec (ws := wsX3_hasWords) B.pre, hK⟩ (fun v H locs pc ls hq hbo hC hS hd => W.zret B.exec B.bytes hr hbo (fun t ht hW => ⟨⟨v, _, rfl, ⟨Option.some.inj hq, rfl⟩, CW_e ht hC⟩, hS.F ht⟩) hS.2.2 hd) h hx0 hx1 hl hC va_S.rf

-- RecordShelf$Key.fits(LRecordShelf$Key;I)Z
theorem dX3_fits_0 : decode cX3_fits 0 = .ok (.iload_n 2, 1) := by decide +kernel
theorem dX3_fits_1 : decode cX3_fits 1 = .ok (.lookupswitch 48 #[(0, 27), (1, 41)], 27) := by decide +kernel
theorem dX3_fits_28 : decode cX3_fits 28 = .ok (.aload_n 0, 1) := by decide +kernel
theorem dX3_fits_29 : decode cX3_fits 29 = .ok (.aload_n 1, 1) := by decide +kernel
theorem dX3_fits_30 : decode cX3_fits 30 = .ok (.invokevirtual 37, 3) := by decide +kernel
theorem dX3_fits_33 : decode cX3_fits 33 = .ok (.ifCond .ne 7, 3) := by decide +kernel
theorem dX3_fits_36 : decode cX3_fits 36 = .ok (.iconst 1, 1) := by decide +kernel
theorem dX3_fits_37 : decode cX3_fits 37 = .ok (.goto 4, 3) := by decide +kernel
theorem dX3_fits_40 : decode cX3_fits 40 = .ok (.iconst 0, 1) := by decide +kernel
theorem dX3_fits_41 : decode cX3_fits 41 = .ok (.ireturn, 1) := by decide +kernel
theorem dX3_fits_42 : decode cX3_fits 42 = .ok (.aload_n 0, 1) := by decide +kernel
theorem dX3_fits_43 : decode cX3_fits 43 = .ok (.iconst 0, 1) := by decide +kernel
theorem dX3_fits_44 : decode cX3_fits 44 = .ok (.aload_n 1, 1) := by decide +kernel
theorem dX3_fits_45 : decode cX3_fits 45 = .ok (.invokevirtual 41, 3) := by decide +kernel
theorem dX3_fits_48 : decode cX3_fits 48 = .ok (.ireturn, 1) := by decide +kernel
theorem dX3_fits_49 : decode cX3_fits 49 = .ok (.aload_n 0, 1) := by decide +kernel
theorem dX3_fits_50 : decode cX3_fits 50 = .ok (.aload_n 1, 1) := by decide +kernel
theorem dX3_fits_51 : decode cX3_fits 51 = .ok (.invokevirtual 45, 3) := by decide +kernel
theorem dX3_fits_54 : decode cX3_fits 54 = .ok (.ireturn, 1) := by decide +kernel
def rm_X3_fits : Room := { frames := 2, cells := 0, slots := 0, locals := 46 }
def fn_X3_fits (b : Nat) (σ : Sg) (x0 : Nat) (x1 : Nat) (x2 : Int32) : Option (Int32) :=
  (if x2 = 0 then
  ((fn_X3_against b σ x0 x1).bind fun r1 =>
  (if r1 = 0 then
  some 1
  else some 0))
  else (if x2 = 1 then
  ((fn_X3_hasAt b σ x0 0 x1).bind fun r2 =>
  (if sg_bo r2 then some r2 else none))
  else ((fn_X3_hasWords b σ x0 x1).bind fun r3 =>
  (if sg_bo r3 then some r3 else none))))
set_option maxHeartbeats 4000000 in
set_option maxRecDepth 100000 in
theorem w_X3_fits_B0 {p : Program} {l : Launch} {e : Env} {s : State} {m : MethodId} {args : Array Value} {below : List Frame} {meth : Method} {c : Code} {Q : State → Prop} {D : va_G} {κ : Nat → ClassId} {b : Nat} {H0 : Heap} {rr : Int32} {σ : Sg} (hZ : sg_Z p c s m args D κ cX3_fits 3 RX3 wsX3_fits) (hret : ∀ (v : Int32) (H : Heap) (locs : List Loc) (pc : Nat) (ls : Array Slot), some v = some rr → narrow .boolean (.int v) = .int v → CW D κ b σ H → va_S (sg_A b 892) H0 H locs → decode cX3_fits pc = .ok (.ireturn, 1) → W p l e rm_X3_fits s m args below meth c H locs 0 0 Q (F0 m pc ls [.int v])) : ∀ {x0 : Nat} {x1 : Nat} {x2 : Int32} {H : Heap} {locs : List Loc} {ls : Array Slot}, fn_X3_fits b σ x0 x1 x2 = some rr → is_Key b x0 → is_Key b x1 → lv_has ls 3 [(0, .ref x0), (1, .ref x1), (2, .int x2)] → CW D κ b σ H → va_S (sg_A b 892) H0 H locs → W p l e rm_X3_fits s m args below meth c H locs 0 0 Q (F0 m 0 ls []) := by
  obtain ⟨hx, hb, hml, hown, hts, hK⟩ := hZ
  intro x0 x1 x2 H locs ls h hx0 hx1 hl hC hS
  unfold fn_X3_fits at h
  refine lv_iload_n hx hb dX3_fits_0 rfl (lv_at hl 2 rfl) ?_
  by_cases hs0 : x2 = 0
  · replace h := (if_pos hs0).symm.trans h
    refine lv_lookup (tgt := 28) hx hb dX3_fits_1 (by decide) (by rw [hs0] <;> rfl) (by decide) ?_
    refine lv_aload_n hx hb dX3_fits_28 rfl (lv_at hl 0 rfl) ?_
    refine lv_aload_n hx hb dX3_fits_29 rfl (lv_at hl 1 rfl) ?_
    obtain ⟨r1, er1, h⟩ := Option.bind_eq_some_iff.mp h
    refine va_calli (va_runV (As := [.ref x1]) (rest := []) ⟨hx, hb, hml, hown, hts⟩ (c_X3_against l D κ b σ x0 x1 _ hx0 hx1 er1) (cwV 1 hts (gwV wt_629 wt_595 wt_596 wt_5 wt_597) rfl rfl rfl (by decide +kernel) ⟨Nat.le_of_ble_eq_true rfl, Nat.le_of_ble_eq_true rfl⟩) (CW_preV hK hC (sg_gKey hx0) rfl) rfl rfl hl.1 rfl (lv_room (Nat.le_of_ble_eq_true rfl)) dX3_fits_30 ⟨Nat.zero_le _, Nat.zero_le _⟩) hS (fun _ _ h => h) (fun _ h => h) (fun r u t H locs ht _ hp hB _ _ hS => ?_)
    refine sg_topi hp.1 ?_
    have hC : CW D κ b σ H := CW_b hB ht hp.2
    refine lv_if_ne (tgt := 40) hx hb dX3_fits_33 (by decide) (fun hc => ?_) (fun hc => ?_)
    · replace h := (if_neg hc).symm.trans h
      refine lv_iconst (v := 0) hx hb dX3_fits_40 (by decide) ?_
      exact hret _ _ _ _ _ h (by decide) hC hS dX3_fits_41
    · replace h := (if_pos hc).symm.trans h
      refine lv_iconst (v := 1) hx hb dX3_fits_36 (by decide) ?_
      refine lv_goto (tgt := 41) hx hb dX3_fits_37 (by decide) ?_
      exact hret _ _ _ _ _ h (by decide) hC hS dX3_fits_41
  · replace h := (if_neg hs0).symm.trans h
    by_cases hs1 : x2 = 1
    · replace h := (if_pos hs1).symm.trans h
      refine lv_lookup (tgt := 42) hx hb dX3_fits_1 (by decide) (by rw [hs1] <;> rfl) (by decide) ?_
      refine lv_aload_n hx hb dX3_fits_42 rfl (lv_at hl 0 rfl) ?_
      refine lv_iconst (v := 0) hx hb dX3_fits_43 (by decide) ?_
      refine lv_aload_n hx hb dX3_fits_44 rfl (lv_at hl 1 rfl) ?_
      obtain ⟨r2, er2, h⟩ := Option.bind_eq_some_iff.mp h
      refine va_calli (va_runV (As := [.int 0, .ref x1]) (rest := []) ⟨hx, hb, hml, hown, hts⟩ (c_X3_hasAt l D κ b σ x0 0 x1 _ hx0 hx1 er2) (cwV 2 hts (gwV wt_630 wt_632 wp_27 wt_5 wt_633) rfl rfl rfl (by decide +kernel) ⟨Nat.le_of_ble_eq_true rfl, Nat.le_of_ble_eq_true rfl⟩) (CW_preV hK hC (sg_gKey hx0) rfl) rfl rfl hl.1 rfl (lv_room (Nat.le_of_ble_eq_true rfl)) dX3_fits_45 ⟨Nat.zero_le _, Nat.zero_le _⟩) hS (fun _ _ h => h) (fun _ h => h) (fun r u t H locs ht _ hp hB _ _ hS => ?_)
      refine sg_topi hp.1 ?_
      have hC : CW D κ b σ H := CW_b hB ht hp.2
      obtain ⟨hg, h⟩ := sg_gd h
      exact hret _ _ _ _ _ h (sg_bn hg) hC hS dX3_fits_48
    · replace h := (if_neg hs1).symm.trans h
      refine lv_lookup (off := 48) (tgt := 49) hx hb dX3_fits_1 (by decide) (sg_sw2l hs0 hs1) (by decide) ?_
      refine lv_aload_n hx hb dX3_fits_49 rfl (lv_at hl 0 rfl) ?_
      refine lv_aload_n hx hb dX3_fits_50 rfl (lv_at hl 1 rfl) ?_
      obtain ⟨r3, er3, h⟩ := Option.bind_eq_some_iff.mp h
      refine va_calli (va_runV (As := [.ref x1]) (rest := []) ⟨hx, hb, hml, hown, hts⟩ (c_X3_hasWords l D κ b σ x0 x1 _ hx0 hx1 er3) (cwV 1 hts (gwV wt_634 wt_636 wp_28 wt_5 wt_637) rfl rfl rfl (by decide +kernel) ⟨Nat.le_of_ble_eq_true rfl, Nat.le_of_ble_eq_true rfl⟩) (CW_preV hK hC (sg_gKey hx0) rfl) rfl rfl hl.1 rfl (lv_room (Nat.le_of_ble_eq_true rfl)) dX3_fits_51 ⟨Nat.zero_le _, Nat.zero_le _⟩) hS (fun _ _ h => h) (fun _ h => h) (fun r u t H locs ht _ hp hB _ _ hS => ?_)
      refine sg_topi hp.1 ?_
      have hC : CW D κ b σ H := CW_b hB ht hp.2
      obtain ⟨hg, h⟩ := sg_gd h
      exact hret _ _ _ _ _ h (sg_bn hg) hC hS dX3_fits_54
set_option maxHeartbeats 4000000 in
set_option maxRecDepth 100000 in
theorem c_X3_fits (l : Launch) (D : va_G) (κ : Nat → ClassId) (b : Nat) (σ : Sg) (x0 : Nat) (x1 : Nat) (x2 : Int32) (rr : Int32) (hx0 : is_Key b x0) (hx1 : is_Key b x1) (h : fn_X3_fits b σ x0 x1 x2 = some rr) : Met l yX3_fits wsX3_fits rm_X3_fits (va_Pc [.ref x0, .ref x1, .int x2] (fun U => KK D κ U ∧ CW D κ b σ U.heap)) (va_Qi (fun (r : Int32) (u : Sg) => r = rr ∧ u = σ) (fun u t => CW D κ b u t.heap) (sg_A b 892)) 0 0 (sg_A b 892) := by
  refine Met.ofW (cc := cX3_fits) (maxL := 3) (ret := (some .boolean)) (by decide) rfl ?_
  intro p e s m args below meth c s₁ B hml hv
  obtain ⟨rfl, hK, hC⟩ := hv
  have hr := B.returns
  have hlocks := B.notSynchronized
  have hl := lv_entry ([.ref x0, .ref x1, .int x2]) (n := 3) (Nat.le_of_ble_eq_true rfl)
  rw [lg_entry_eq]
  generalize (lg_sl ([.ref x0, .ref x1, .int x2]) ++ List.replicate (3 - (lg_sl ([.ref x0, .ref x1, .int x2])).length) Slot.unset).toArray = ls at hl ⊢
  have hl : lv_has ls 3 [(0, .ref x0), (1, .ref x1), (2, .int x2)] := hl
  exact w_X3_fits_B0 ⟨B.exec, B.bytes, hml, findClass_of_methodNamed B.named, atoms_spec (ws := wsX3_fits) B.pre, hK⟩ (fun v H locs pc ls hq hbo hC hS hd => W.zret B.exec B.bytes hr hbo (fun t ht hW => ⟨⟨v, _, rfl, ⟨Option.some.inj hq, rfl⟩, CW_e ht hC⟩, hS.F ht⟩) hS.2.2 hd) h hx0 hx1 hl hC va_S.rf

-- RecordShelf$Key.clear()V
theorem dX3_clear_0 : decode cX3_clear 0 = .ok (.aload_n 0, 1) := by decide +kernel
theorem dX3_clear_1 : decode cX3_clear 1 = .ok (.iconst 0, 1) := by decide +kernel
theorem dX3_clear_2 : decode cX3_clear 2 = .ok (.putfield 15, 3) := by decide +kernel
theorem dX3_clear_5 : decode cX3_clear 5 = .ok (.aload_n 0, 1) := by decide +kernel
theorem dX3_clear_6 : decode cX3_clear 6 = .ok (.iconst 0, 1) := by decide +kernel
theorem dX3_clear_7 : decode cX3_clear 7 = .ok (.putfield 19, 3) := by decide +kernel
theorem dX3_clear_10 : decode cX3_clear 10 = .ok (.return_, 1) := by decide +kernel
def rm_X3_clear : Room := { frames := 0, cells := 0, slots := 0, locals := 0 }
def fn_X3_clear (b : Nat) (σ : Sg) (x0 : Nat) : Option (Sg) :=
  (sg_lt (sg_w σ x0 1 0) fun σ1 =>
  (sg_lt (sg_w σ1 x0 2 0) fun σ2 =>
  some σ2))
set_option maxHeartbeats 4000000 in
set_option maxRecDepth 100000 in
theorem w_X3_clear_B0 {p : Program} {l : Launch} {e : Env} {s : State} {m : MethodId} {args : Array Value} {below : List Frame} {meth : Method} {c : Code} {Q : State → Prop} {D : va_G} {κ : Nat → ClassId} {b : Nat} {H0 : Heap} {rr : Sg} (hZ : sg_Z p c s m args D κ cX3_clear 1 RX3 wsX3_clear) (hret : ∀ (u : Sg) (H : Heap) (locs : List Loc) (pc : Nat) (ls : Array Slot), some u = some rr → CW D κ b u H → va_S (sg_A b 892) H0 H locs → decode cX3_clear pc = .ok (.return_, 1) → W p l e rm_X3_clear s m args below meth c H locs 0 0 Q (F0 m pc ls [])) : ∀ {σ : Sg} {x0 : Nat} {H : Heap} {locs : List Loc} {ls : Array Slot}, fn_X3_clear b σ x0 = some rr → is_Key b x0 → lv_has ls 1 [(0, .ref x0)] → CW D κ b σ H → va_S (sg_A b 892) H0 H locs → W p l e rm_X3_clear s m args below meth c H locs 0 0 Q (F0 m 0 ls []) := by
  obtain ⟨hx, hb, hml, hown, hts, hK⟩ := hZ
  intro σ x0 H locs ls h hx0 hl hC hS
  unfold fn_X3_clear at h
  refine lv_aload_n hx hb dX3_clear_0 rfl (lv_at hl 0 rfl) ?_
  refine lv_iconst (v := 0) hx hb dX3_clear_1 (by decide) ?_
  refine va_put (D := D) (ci := 3) (v := .int 0) (ty := .int) (C := RX3) (T := TX3) (N := 3) hx hb hts (wqs inW_X3) tyX3 tyX3_ok nmX3 hown hK.1 hC.1 sg_D hS (x0 - b) (sg_gKey hx0) rfl 1 (by decide) (hts _ (wq wt_99)) (fun _ h9 => h9) rfl (by decide +kernel) rfl rfl (Nat.le_of_ble_eq_true rfl) dX3_clear_2 (fun H locs hP _ hS => ?_)
  obtain ⟨σ1, eσ1, h⟩ := sg_lte h
  have hC : CW D κ b σ1 H := eσ1 ▸ CW_put (k := 1) (v := 0) hC (sg_aKey hx0) (sg_yKey hx0 _ _) hP
  refine lv_aload_n hx hb dX3_clear_5 rfl (lv_at hl 0 rfl) ?_
  refine lv_iconst (v := 0) hx hb dX3_clear_6 (by decide) ?_
  refine va_put (D := D) (ci := 3) (v := .int 0) (ty := .boolean) (C := RX3) (T := TX3) (N := 3) hx hb hts (wqs inW_X3) tyX3 tyX3_ok nmX3 hown hK.1 hC.1 sg_D hS (x0 - b) (sg_gKey hx0) rfl 2 (by decide) (hts _ (wq wt_100)) (fun _ h9 => h9) rfl (by decide +kernel) (by decide) (by decide) (Nat.le_of_ble_eq_true rfl) dX3_clear_7 (fun H locs hP _ hS => ?_)
  obtain ⟨σ2, eσ2, h⟩ := sg_lte h
  have hC : CW D κ b σ2 H := eσ2 ▸ CW_put (k := 2) (v := 0) hC (sg_aKey hx0) (sg_yKey hx0 _ _) hP
  exact hret _ _ _ _ _ h hC hS dX3_clear_10
set_option maxHeartbeats 4000000 in
set_option maxRecDepth 100000 in
theorem c_X3_clear (l : Launch) (D : va_G) (κ : Nat → ClassId) (b : Nat) (σ : Sg) (x0 : Nat) (rr : Sg) (hx0 : is_Key b x0) (h : fn_X3_clear b σ x0 = some rr) : Met l yX3_clear wsX3_clear rm_X3_clear (va_Pc [.ref x0] (fun U => KK D κ U ∧ CW D κ b σ U.heap)) (va_Qv (fun u : Sg => u = rr) (fun u t => CW D κ b u t.heap) (sg_A b 892)) 0 0 (sg_A b 892) := by
  refine Met.ofW (cc := cX3_clear) (maxL := 1) (ret := none) (by decide) rfl ?_
  intro p e s m args below meth c s₁ B hml hv
  obtain ⟨rfl, hK, hC⟩ := hv
  have hr := B.returns
  have hlocks := B.notSynchronized
  have hl := lv_entry ([.ref x0]) (n := 1) (Nat.le_of_ble_eq_true rfl)
  rw [lg_entry_eq]
  generalize (lg_sl ([.ref x0]) ++ List.replicate (1 - (lg_sl ([.ref x0])).length) Slot.unset).toArray = ls at hl ⊢
  have hl : lv_has ls 1 [(0, .ref x0)] := hl
  exact w_X3_clear_B0 ⟨B.exec, B.bytes, hml, findClass_of_methodNamed B.named, atoms_spec (ws := wsX3_clear) B.pre, hK⟩ (fun u H locs pc ls hq hC hS hd => W.vret B.exec B.bytes hr (fun t ht hW => ⟨⟨_, rfl, Option.some.inj hq, CW_e ht hC⟩, hS.F ht⟩) hS.2.2 hd) h hx0 hl hC va_S.rf

-- RecordShelf$Key.put(C)V
theorem dX3_put_0 : decode cX3_put 0 = .ok (.aload_n 0, 1) := by decide +kernel
theorem dX3_put_1 : decode cX3_put 1 = .ok (.getfield 15, 3) := by decide +kernel
theorem dX3_put_4 : decode cX3_put 4 = .ok (.aload_n 0, 1) := by decide +kernel
theorem dX3_put_5 : decode cX3_put 5 = .ok (.getfield 9, 3) := by decide +kernel
theorem dX3_put_8 : decode cX3_put 8 = .ok (.arraylength, 1) := by decide +kernel
theorem dX3_put_9 : decode cX3_put 9 = .ok (.if_icmp .ge 23, 3) := by decide +kernel
theorem dX3_put_12 : decode cX3_put 12 = .ok (.aload_n 0, 1) := by decide +kernel
theorem dX3_put_13 : decode cX3_put 13 = .ok (.getfield 9, 3) := by decide +kernel
theorem dX3_put_16 : decode cX3_put 16 = .ok (.aload_n 0, 1) := by decide +kernel
theorem dX3_put_17 : decode cX3_put 17 = .ok (.getfield 15, 3) := by decide +kernel
theorem dX3_put_20 : decode cX3_put 20 = .ok (.iload_n 1, 1) := by decide +kernel
theorem dX3_put_21 : decode cX3_put 21 = .ok (.castore, 1) := by decide +kernel
theorem dX3_put_22 : decode cX3_put 22 = .ok (.aload_n 0, 1) := by decide +kernel
theorem dX3_put_23 : decode cX3_put 23 = .ok (.dup, 1) := by decide +kernel
theorem dX3_put_24 : decode cX3_put 24 = .ok (.getfield 15, 3) := by decide +kernel
theorem dX3_put_27 : decode cX3_put 27 = .ok (.iconst 1, 1) := by decide +kernel
theorem dX3_put_28 : decode cX3_put 28 = .ok (.iadd, 1) := by decide +kernel
theorem dX3_put_29 : decode cX3_put 29 = .ok (.putfield 15, 3) := by decide +kernel
theorem dX3_put_32 : decode cX3_put 32 = .ok (.return_, 1) := by decide +kernel
def rm_X3_put : Room := { frames := 0, cells := 0, slots := 0, locals := 0 }
def fn_X3_put (b : Nat) (σ : Sg) (x0 : Nat) (x1 : Int32) : Option (Sg) :=
  (if ((nI (sg_kR b x0)) : Int32) ≤ (σ.1 x0 1) then
  some σ
  else (if sg_ib (σ.1 x0 1) (sg_kR b x0) then
  (sg_lt (sg_w σ (x0 + 1) (sg_x (σ.1 x0 1)) (vp_nar .char x1)) fun σ1 =>
  (sg_lt (sg_w σ1 x0 1 ((σ1.1 x0 1) + 1)) fun σ2 =>
  some σ2))
  else none))
set_option maxHeartbeats 4000000 in
set_option maxRecDepth 100000 in
theorem w_X3_put_B0 {p : Program} {l : Launch} {e : Env} {s : State} {m : MethodId} {args : Array Value} {below : List Frame} {meth : Method} {c : Code} {Q : State → Prop} {D : va_G} {κ : Nat → ClassId} {b : Nat} {H0 : Heap} {rr : Sg} (hZ : sg_Z p c s m args D κ cX3_put 2 RX3 wsX3_put) (hret : ∀ (u : Sg) (H : Heap) (locs : List Loc) (pc : Nat) (ls : Array Slot), some u = some rr → CW D κ b u H → va_S (sg_A b 892) H0 H locs → decode cX3_put pc = .ok (.return_, 1) → W p l e rm_X3_put s m args below meth c H locs 0 0 Q (F0 m pc ls [])) : ∀ {σ : Sg} {x0 : Nat} {x1 : Int32} {H : Heap} {locs : List Loc} {ls : Array Slot}, fn_X3_put b σ x0 x1 = some rr → is_Key b x0 → lv_has ls 2 [(0, .ref x0), (1, .int x1)] → CW D κ b σ H → va_S (sg_A b 892) H0 H locs → W p l e rm_X3_put s m args below meth c H locs 0 0 Q (F0 m 0 ls []) := by
  obtain ⟨hx, hb, hml, hown, hts, hK⟩ := hZ
  intro σ x0 x1 H locs ls h hx0 hl hC hS
  unfold fn_X3_put at h
  refine lv_aload_n hx hb dX3_put_0 rfl (lv_at hl 0 rfl) ?_
  refine va_get (D := D) (ci := 3) (v := .int (σ.1 x0 1)) (C := RX3) (T := TX3) (N := 3) hx hb hts (wqs inW_X3) hown hK.1 hC.1 (x0 - b) (sg_gKey hx0) rfl 1 (by decide) (hts _ (wq wt_99)) (fun _ h9 => h9) rfl dX3_put_1 ?_
  refine lv_aload_n hx hb dX3_put_4 rfl (lv_at hl 0 rfl) ?_
  refine va_get (D := D) (ci := 3) (v := .ref (x0 + 1)) (C := RX3) (T := TX3) (N := 3) hx hb hts (wqs inW_X3) hown hK.1 hC.1 (x0 - b) (sg_gKey hx0) rfl 0 (by decide) (hts _ (wq wt_98)) (fun _ h9 => h9) rfl dX3_put_5 ?_
  refine va_alen (v := (nI (sg_kR b x0))) hx hb hK.1 hC.1 ((x0 + 1) - b) 1 (sg_gksigns hx0) rfl rfl dX3_put_8 ?_
  refine lv_icmp_ge (tgt := 32) hx hb dX3_put_9 (by decide) (fun hc => ?_) (fun hc => ?_)
  · replace h := (if_pos hc).symm.trans h
    exact hret _ _ _ _ _ h hC hS dX3_put_32
  · replace h := (if_neg hc).symm.trans h
    refine lv_aload_n hx hb dX3_put_12 rfl (lv_at hl 0 rfl) ?_
    refine va_get (D := D) (ci := 3) (v := .ref (x0 + 1)) (C := RX3) (T := TX3) (N := 3) hx hb hts (wqs inW_X3) hown hK.1 hC.1 (x0 - b) (sg_gKey hx0) rfl 0 (by decide) (hts _ (wq wt_98)) (fun _ h9 => h9) rfl dX3_put_13 ?_
    refine lv_aload_n hx hb dX3_put_16 rfl (lv_at hl 0 rfl) ?_
    refine va_get (D := D) (ci := 3) (v := .int (σ.1 x0 1)) (C := RX3) (T := TX3) (N := 3) hx hb hts (wqs inW_X3) hown hK.1 hC.1 (x0 - b) (sg_gKey hx0) rfl 1 (by decide) (hts _ (wq wt_99)) (fun _ h9 => h9) rfl dX3_put_17 ?_
    refine lv_iload_n hx hb dX3_put_20 rfl (lv_at hl 1 rfl) ?_
    obtain ⟨hg, h⟩ := sg_gd h
    refine va_cast hx hb hK.1 hC.1 sg_D hS ((x0 + 1) - b) 1 (sg_gksigns hx0) rfl (sg_in hg) dX3_put_21 (fun H locs hP _ hS => ?_)
    obtain ⟨σ1, eσ1, h⟩ := sg_lte h
    have hC : CW D κ b σ1 H := eσ1 ▸ CW_put (k := sg_x (σ.1 x0 1)) (v := (vp_nar .char x1)) hC (sg_aksigns hx0) (sg_yksigns hx0 _ _) hP
    refine lv_aload_n hx hb dX3_put_22 rfl (lv_at hl 0 rfl) ?_
    refine lv_dup hx hb dX3_put_23 rfl ?_
    refine va_get (D := D) (ci := 3) (v := .int (σ1.1 x0 1)) (C := RX3) (T := TX3) (N := 3) hx hb hts (wqs inW_X3) hown hK.1 hC.1 (x0 - b) (sg_gKey hx0) rfl 1 (by decide) (hts _ (wq wt_99)) (fun _ h9 => h9) rfl dX3_put_24 ?_
    refine lv_iconst (v := 1) hx hb dX3_put_27 (by decide) ?_
    refine lv_iadd hx hb dX3_put_28 ?_
    refine va_put (D := D) (ci := 3) (v := .int ((σ1.1 x0 1) + 1)) (ty := .int) (C := RX3) (T := TX3) (N := 3) hx hb hts (wqs inW_X3) tyX3 tyX3_ok nmX3 hown hK.1 hC.1 sg_D hS (x0 - b) (sg_gKey hx0) rfl 1 (by decide) (hts _ (wq wt_99)) (fun _ h9 => h9) rfl (by decide +kernel) rfl rfl (Nat.le_of_ble_eq_true rfl) dX3_put_29 (fun H locs hP _ hS => ?_)
    obtain ⟨σ2, eσ2, h⟩ := sg_lte h
    have hC : CW D κ b σ2 H := eσ2 ▸ CW_put (k := 1) (v := ((σ1.1 x0 1) + 1)) hC (sg_aKey hx0) (sg_yKey hx0 _ _) hP
    exact hret _ _ _ _ _ h hC hS dX3_put_32
set_option maxHeartbeats 4000000 in
set_option maxRecDepth 100000 in
theorem c_X3_put (l : Launch) (D : va_G) (κ : Nat → ClassId) (b : Nat) (σ : Sg) (x0 : Nat) (x1 : Int32) (rr : Sg) (hx0 : is_Key b x0) (h : fn_X3_put b σ x0 x1 = some rr) : Met l yX3_put wsX3_put rm_X3_put (va_Pc [.ref x0, .int x1] (fun U => KK D κ U ∧ CW D κ b σ U.heap)) (va_Qv (fun u : Sg => u = rr) (fun u t => CW D κ b u t.heap) (sg_A b 892)) 0 0 (sg_A b 892) := by
  refine Met.ofW (cc := cX3_put) (maxL := 2) (ret := none) (by decide) rfl ?_
  intro p e s m args below meth c s₁ B hml hv
  obtain ⟨rfl, hK, hC⟩ := hv
  have hr := B.returns
  have hlocks := B.notSynchronized
  have hl := lv_entry ([.ref x0, .int x1]) (n := 2) (Nat.le_of_ble_eq_true rfl)
  rw [lg_entry_eq]
  generalize (lg_sl ([.ref x0, .int x1]) ++ List.replicate (2 - (lg_sl ([.ref x0, .int x1])).length) Slot.unset).toArray = ls at hl ⊢
  have hl : lv_has ls 2 [(0, .ref x0), (1, .int x1)] := hl
  exact w_X3_put_B0 ⟨B.exec, B.bytes, hml, findClass_of_methodNamed B.named, atoms_spec (ws := wsX3_put) B.pre, hK⟩ (fun u H locs pc ls hq hC hS hd => W.vret B.exec B.bytes hr (fun t ht hW => ⟨⟨_, rfl, Option.some.inj hq, CW_e ht hC⟩, hS.F ht⟩) hS.2.2 hd) h hx0 hl hC va_S.rf

-- RecordShelf$Key.take(C)V
theorem dX3_take_0 : decode cX3_take 0 = .ok (.iload_n 1, 1) := by decide +kernel
theorem dX3_take_1 : decode cX3_take 1 = .ok (.bipush 65, 2) := by decide +kernel
theorem dX3_take_3 : decode cX3_take 3 = .ok (.if_icmp .lt 13, 3) := by decide +kernel
theorem dX3_take_6 : decode cX3_take 6 = .ok (.iload_n 1, 1) := by decide +kernel
theorem dX3_take_7 : decode cX3_take 7 = .ok (.bipush 90, 2) := by decide +kernel
theorem dX3_take_9 : decode cX3_take 9 = .ok (.if_icmp .gt 7, 3) := by decide +kernel
theorem dX3_take_12 : decode cX3_take 12 = .ok (.iconst 1, 1) := by decide +kernel
theorem dX3_take_13 : decode cX3_take 13 = .ok (.goto 4, 3) := by decide +kernel
theorem dX3_take_16 : decode cX3_take 16 = .ok (.iconst 0, 1) := by decide +kernel
theorem dX3_take_17 : decode cX3_take 17 = .ok (.istore_n 2, 1) := by decide +kernel
theorem dX3_take_18 : decode cX3_take 18 = .ok (.iload_n 2, 1) := by decide +kernel
theorem dX3_take_19 : decode cX3_take 19 = .ok (.ifCond .ne 16, 3) := by decide +kernel
theorem dX3_take_22 : decode cX3_take 22 = .ok (.iload_n 1, 1) := by decide +kernel
theorem dX3_take_23 : decode cX3_take 23 = .ok (.invokestatic 23, 3) := by decide +kernel
theorem dX3_take_26 : decode cX3_take 26 = .ok (.ifCond .ne 9, 3) := by decide +kernel
theorem dX3_take_29 : decode cX3_take 29 = .ok (.aload_n 0, 1) := by decide +kernel
theorem dX3_take_30 : decode cX3_take 30 = .ok (.iconst 1, 1) := by decide +kernel
theorem dX3_take_31 : decode cX3_take 31 = .ok (.putfield 19, 3) := by decide +kernel
theorem dX3_take_34 : decode cX3_take 34 = .ok (.return_, 1) := by decide +kernel
theorem dX3_take_35 : decode cX3_take 35 = .ok (.aload_n 0, 1) := by decide +kernel
theorem dX3_take_36 : decode cX3_take 36 = .ok (.getfield 19, 3) := by decide +kernel
theorem dX3_take_39 : decode cX3_take 39 = .ok (.ifCond .eq 16, 3) := by decide +kernel
theorem dX3_take_42 : decode cX3_take 42 = .ok (.aload_n 0, 1) := by decide +kernel
theorem dX3_take_43 : decode cX3_take 43 = .ok (.getfield 15, 3) := by decide +kernel
theorem dX3_take_46 : decode cX3_take 46 = .ok (.ifCond .le 9, 3) := by decide +kernel
theorem dX3_take_49 : decode cX3_take 49 = .ok (.aload_n 0, 1) := by decide +kernel
theorem dX3_take_50 : decode cX3_take 50 = .ok (.bipush 32, 2) := by decide +kernel
theorem dX3_take_52 : decode cX3_take 52 = .ok (.invokevirtual 27, 3) := by decide +kernel
theorem dX3_take_55 : decode cX3_take 55 = .ok (.aload_n 0, 1) := by decide +kernel
theorem dX3_take_56 : decode cX3_take 56 = .ok (.iconst 0, 1) := by decide +kernel
theorem dX3_take_57 : decode cX3_take 57 = .ok (.putfield 19, 3) := by decide +kernel
theorem dX3_take_60 : decode cX3_take 60 = .ok (.aload_n 0, 1) := by decide +kernel
theorem dX3_take_61 : decode cX3_take 61 = .ok (.iload_n 2, 1) := by decide +kernel
theorem dX3_take_62 : decode cX3_take 62 = .ok (.ifCond .eq 14, 3) := by decide +kernel
theorem dX3_take_65 : decode cX3_take 65 = .ok (.iload_n 1, 1) := by decide +kernel
theorem dX3_take_66 : decode cX3_take 66 = .ok (.bipush 65, 2) := by decide +kernel
theorem dX3_take_68 : decode cX3_take 68 = .ok (.isub, 1) := by decide +kernel
theorem dX3_take_69 : decode cX3_take 69 = .ok (.bipush 97, 2) := by decide +kernel
theorem dX3_take_71 : decode cX3_take 71 = .ok (.iadd, 1) := by decide +kernel
theorem dX3_take_72 : decode cX3_take 72 = .ok (.i2c, 1) := by decide +kernel
theorem dX3_take_73 : decode cX3_take 73 = .ok (.goto 4, 3) := by decide +kernel
theorem dX3_take_76 : decode cX3_take 76 = .ok (.iload_n 1, 1) := by decide +kernel
theorem dX3_take_77 : decode cX3_take 77 = .ok (.invokevirtual 27, 3) := by decide +kernel
theorem dX3_take_80 : decode cX3_take 80 = .ok (.return_, 1) := by decide +kernel
def rm_X3_take : Room := { frames := 1, cells := 0, slots := 0, locals := 21 }
def fn_X3_take_B77 (b : Nat) (σ : Sg) (y0 : Int32) (y1 : Nat) : Option (Sg) :=
  ((fn_X3_put b σ y1 y0).bind fun r1 =>
  some r1)
set_option maxHeartbeats 4000000 in
set_option maxRecDepth 100000 in
theorem w_X3_take_B77 {p : Program} {l : Launch} {e : Env} {s : State} {m : MethodId} {args : Array Value} {below : List Frame} {meth : Method} {c : Code} {Q : State → Prop} {D : va_G} {κ : Nat → ClassId} {b : Nat} {H0 : Heap} {rr : Sg} (hZ : sg_Z p c s m args D κ cX3_take 3 RX3 wsX3_take) (hret : ∀ (u : Sg) (H : Heap) (locs : List Loc) (pc : Nat) (ls : Array Slot), some u = some rr → CW D κ b u H → va_S (sg_A b 892) H0 H locs → decode cX3_take pc = .ok (.return_, 1) → W p l e rm_X3_take s m args below meth c H locs 0 0 Q (F0 m pc ls [])) : ∀ {σ : Sg} {y0 : Int32} {y1 : Nat} {H : Heap} {locs : List Loc} {ls : Array Slot}, fn_X3_take_B77 b σ y0 y1 = some rr → is_Key b y1 → lv_has ls 3 [] → CW D κ b σ H → va_S (sg_A b 892) H0 H locs → W p l e rm_X3_take s m args below meth c H locs 0 0 Q (F0 m 77 ls [.int y0, .ref y1]) := by
  obtain ⟨hx, hb, hml, hown, hts, hK⟩ := hZ
  intro σ y0 y1 H locs ls h hy1 hl hC hS
  unfold fn_X3_take_B77 at h
  obtain ⟨r1, er1, h⟩ := Option.bind_eq_some_iff.mp h
  refine va_callv (va_runV (As := [.int y0]) (rest := []) ⟨hx, hb, hml, hown, hts⟩ (c_X3_put l D κ b σ y1 y0 _ hy1 er1) (cwV 1 hts (gwV wt_406 wt_408 wp_12 wt_5 wt_409) rfl rfl rfl (by decide +kernel) ⟨Nat.le_of_ble_eq_true rfl, Nat.le_of_ble_eq_true rfl⟩) (CW_preV hK hC (sg_gKey hy1) rfl) rfl rfl hl.1 rfl (lv_room (Nat.le_of_ble_eq_true rfl)) dX3_take_77 ⟨Nat.zero_le _, Nat.zero_le _⟩) hS (fun _ _ h => h) (fun _ h => h) (fun u t H locs ht _ hp hB _ _ hS => ?_)
  have hC : CW D κ b r1 H := CW_b hB ht hp
  exact hret _ _ _ _ _ h hC hS dX3_take_80
def fn_X3_take_B55 (b : Nat) (σ : Sg) (x0 : Nat) (x1 : Int32) (x2 : Int32) : Option (Sg) :=
  (sg_lt (sg_w σ x0 2 0) fun σ1 =>
  (if x2 = 0 then
  fn_X3_take_B77 b σ1 x1 x0
  else fn_X3_take_B77 b σ1 (sg_c ((x1 - 65) + 97)) x0))
set_option maxHeartbeats 4000000 in
set_option maxRecDepth 100000 in
theorem w_X3_take_B55 {p : Program} {l : Launch} {e : Env} {s : State} {m : MethodId} {args : Array Value} {below : List Frame} {meth : Method} {c : Code} {Q : State → Prop} {D : va_G} {κ : Nat → ClassId} {b : Nat} {H0 : Heap} {rr : Sg} (hZ : sg_Z p c s m args D κ cX3_take 3 RX3 wsX3_take) (hret : ∀ (u : Sg) (H : Heap) (locs : List Loc) (pc : Nat) (ls : Array Slot), some u = some rr → CW D κ b u H → va_S (sg_A b 892) H0 H locs → decode cX3_take pc = .ok (.return_, 1) → W p l e rm_X3_take s m args below meth c H locs 0 0 Q (F0 m pc ls [])) : ∀ {σ : Sg} {x0 : Nat} {x1 : Int32} {x2 : Int32} {H : Heap} {locs : List Loc} {ls : Array Slot}, fn_X3_take_B55 b σ x0 x1 x2 = some rr → is_Key b x0 → lv_has ls 3 [(0, .ref x0), (1, .int x1), (2, .int x2)] → CW D κ b σ H → va_S (sg_A b 892) H0 H locs → W p l e rm_X3_take s m args below meth c H locs 0 0 Q (F0 m 55 ls []) := by
  obtain ⟨hx, hb, hml, hown, hts, hK⟩ := hZ
  intro σ x0 x1 x2 H locs ls h hx0 hl hC hS
  unfold fn_X3_take_B55 at h
  refine lv_aload_n hx hb dX3_take_55 rfl (lv_at hl 0 rfl) ?_
  refine lv_iconst (v := 0) hx hb dX3_take_56 (by decide) ?_
  refine va_put (D := D) (ci := 3) (v := .int 0) (ty := .boolean) (C := RX3) (T := TX3) (N := 3) hx hb hts (wqs inW_X3) tyX3 tyX3_ok nmX3 hown hK.1 hC.1 sg_D hS (x0 - b) (sg_gKey hx0) rfl 2 (by decide) (hts _ (wq wt_100)) (fun _ h9 => h9) rfl (by decide +kernel) (by decide) (by decide) (Nat.le_of_ble_eq_true rfl) dX3_take_57 (fun H locs hP _ hS => ?_)
  obtain ⟨σ1, eσ1, h⟩ := sg_lte h
  have hC : CW D κ b σ1 H := eσ1 ▸ CW_put (k := 2) (v := 0) hC (sg_aKey hx0) (sg_yKey hx0 _ _) hP
  refine lv_aload_n hx hb dX3_take_60 rfl (lv_at hl 0 rfl) ?_
  refine lv_iload_n hx hb dX3_take_61 rfl (lv_at hl 2 rfl) ?_
  refine lv_if_eq (tgt := 76) hx hb dX3_take_62 (by decide) (fun hc => ?_) (fun hc => ?_)
  · replace h := (if_pos hc).symm.trans h
    refine lv_iload_n hx hb dX3_take_76 rfl (lv_at hl 1 rfl) ?_
    exact w_X3_take_B77 ⟨hx, hb, hml, hown, hts, hK⟩ hret  h hx0 (lv_sub hl [] rfl) hC hS
  · replace h := (if_neg hc).symm.trans h
    refine lv_iload_n hx hb dX3_take_65 rfl (lv_at hl 1 rfl) ?_
    refine lv_bipush (v := 65) hx hb dX3_take_66 (by decide) ?_
    refine lv_isub hx hb dX3_take_68 ?_
    refine lv_bipush (v := 97) hx hb dX3_take_69 (by decide) ?_
    refine lv_iadd hx hb dX3_take_71 ?_
    refine lv_i2c (v := (sg_c ((x1 - 65) + 97))) hx hb dX3_take_72 rfl ?_
    refine lv_goto (tgt := 77) hx hb dX3_take_73 (by decide) ?_
    exact w_X3_take_B77 ⟨hx, hb, hml, hown, hts, hK⟩ hret  h hx0 (lv_sub hl [] rfl) hC hS
def fn_X3_take_B35 (b : Nat) (σ : Sg) (x0 : Nat) (x1 : Int32) (x2 : Int32) : Option (Sg) :=
  (if (σ.1 x0 2) = 0 then
  fn_X3_take_B55 b σ x0 x1 x2
  else (if (σ.1 x0 1) ≤ 0 then
  fn_X3_take_B55 b σ x0 x1 x2
  else ((fn_X3_put b σ x0 32).bind fun r1 =>
  fn_X3_take_B55 b r1 x0 x1 x2)))
set_option maxHeartbeats 4000000 in
set_option maxRecDepth 100000 in
theorem w_X3_take_B35 {p : Program} {l : Launch} {e : Env} {s : State} {m : MethodId} {args : Array Value} {below : List Frame} {meth : Method} {c : Code} {Q : State → Prop} {D : va_G} {κ : Nat → ClassId} {b : Nat} {H0 : Heap} {rr : Sg} (hZ : sg_Z p c s m args D κ cX3_take 3 RX3 wsX3_take) (hret : ∀ (u : Sg) (H : Heap) (locs : List Loc) (pc : Nat) (ls : Array Slot), some u = some rr → CW D κ b u H → va_S (sg_A b 892) H0 H locs → decode cX3_take pc = .ok (.return_, 1) → W p l e rm_X3_take s m args below meth c H locs 0 0 Q (F0 m pc ls [])) : ∀ {σ : Sg} {x0 : Nat} {x1 : Int32} {x2 : Int32} {H : Heap} {locs : List Loc} {ls : Array Slot}, fn_X3_take_B35 b σ x0 x1 x2 = some rr → is_Key b x0 → lv_has ls 3 [(0, .ref x0), (1, .int x1), (2, .int x2)] → CW D κ b σ H → va_S (sg_A b 892) H0 H locs → W p l e rm_X3_take s m args below meth c H locs 0 0 Q (F0 m 35 ls []) := by
  obtain ⟨hx, hb, hml, hown, hts, hK⟩ := hZ
  intro σ x0 x1 x2 H locs ls h hx0 hl hC hS
  unfold fn_X3_take_B35 at h
  refine lv_aload_n hx hb dX3_take_35 rfl (lv_at hl 0 rfl) ?_
  refine va_get (D := D) (ci := 3) (v := .int (σ.1 x0 2)) (C := RX3) (T := TX3) (N := 3) hx hb hts (wqs inW_X3) hown hK.1 hC.1 (x0 - b) (sg_gKey hx0) rfl 2 (by decide) (hts _ (wq wt_100)) (fun _ h9 => h9) rfl dX3_take_36 ?_
  refine lv_if_eq (tgt := 55) hx hb dX3_take_39 (by decide) (fun hc => ?_) (fun hc => ?_)
  · replace h := (if_pos hc).symm.trans h
    exact w_X3_take_B55 ⟨hx, hb, hml, hown, hts, hK⟩ hret  h hx0 (lv_sub hl [0, 1, 2] rfl) hC hS
  · replace h := (if_neg hc).symm.trans h
    refine lv_aload_n hx hb dX3_take_42 rfl (lv_at hl 0 rfl) ?_
    refine va_get (D := D) (ci := 3) (v := .int (σ.1 x0 1)) (C := RX3) (T := TX3) (N := 3) hx hb hts (wqs inW_X3) hown hK.1 hC.1 (x0 - b) (sg_gKey hx0) rfl 1 (by decide) (hts _ (wq wt_99)) (fun _ h9 => h9) rfl dX3_take_43 ?_
    refine lv_if_le (tgt := 55) hx hb dX3_take_46 (by decide) (fun hc => ?_) (fun hc => ?_)
    · replace h := (if_pos hc).symm.trans h
      exact w_X3_take_B55 ⟨hx, hb, hml, hown, hts, hK⟩ hret  h hx0 (lv_sub hl [0, 1, 2] rfl) hC hS
    · replace h := (if_neg hc).symm.trans h
      refine lv_aload_n hx hb dX3_take_49 rfl (lv_at hl 0 rfl) ?_
      refine lv_bipush (v := 32) hx hb dX3_take_50 (by decide) ?_
      obtain ⟨r1, er1, h⟩ := Option.bind_eq_some_iff.mp h
      refine va_callv (va_runV (As := [.int 32]) (rest := []) ⟨hx, hb, hml, hown, hts⟩ (c_X3_put l D κ b σ x0 32 _ hx0 er1) (cwV 1 hts (gwV wt_406 wt_408 wp_12 wt_5 wt_409) rfl rfl rfl (by decide +kernel) ⟨Nat.le_of_ble_eq_true rfl, Nat.le_of_ble_eq_true rfl⟩) (CW_preV hK hC (sg_gKey hx0) rfl) rfl rfl hl.1 rfl (lv_room (Nat.le_of_ble_eq_true rfl)) dX3_take_52 ⟨Nat.zero_le _, Nat.zero_le _⟩) hS (fun _ _ h => h) (fun _ h => h) (fun u t H locs ht _ hp hB _ _ hS => ?_)
      have hC : CW D κ b r1 H := CW_b hB ht hp
      exact w_X3_take_B55 ⟨hx, hb, hml, hown, hts, hK⟩ hret  h hx0 (lv_sub hl [0, 1, 2] rfl) hC hS
def fn_X3_take_B17 (b : Nat) (σ : Sg) (x0 : Nat) (x1 : Int32) (y0 : Int32) : Option (Sg) :=
  (if y0 = 0 then
  ((fn_X7_isCode x1).bind fun r1 =>
  (if r1 = 0 then
  (sg_lt (sg_w σ x0 2 1) fun σ2 =>
  some σ2)
  else fn_X3_take_B35 b σ x0 x1 y0))
  else fn_X3_take_B35 b σ x0 x1 y0)
set_option maxHeartbeats 4000000 in
set_option maxRecDepth 100000 in
theorem w_X3_take_B17 {p : Program} {l : Launch} {e : Env} {s : State} {m : MethodId} {args : Array Value} {below : List Frame} {meth : Method} {c : Code} {Q : State → Prop} {D : va_G} {κ : Nat → ClassId} {b : Nat} {H0 : Heap} {rr : Sg} (hZ : sg_Z p c s m args D κ cX3_take 3 RX3 wsX3_take) (hret : ∀ (u : Sg) (H : Heap) (locs : List Loc) (pc : Nat) (ls : Array Slot), some u = some rr → CW D κ b u H → va_S (sg_A b 892) H0 H locs → decode cX3_take pc = .ok (.return_, 1) → W p l e rm_X3_take s m args below meth c H locs 0 0 Q (F0 m pc ls [])) : ∀ {σ : Sg} {x0 : Nat} {x1 : Int32} {y0 : Int32} {H : Heap} {locs : List Loc} {ls : Array Slot}, fn_X3_take_B17 b σ x0 x1 y0 = some rr → is_Key b x0 → lv_has ls 3 [(0, .ref x0), (1, .int x1)] → CW D κ b σ H → va_S (sg_A b 892) H0 H locs → W p l e rm_X3_take s m args below meth c H locs 0 0 Q (F0 m 17 ls [.int y0]) := by
  obtain ⟨hx, hb, hml, hown, hts, hK⟩ := hZ
  intro σ x0 x1 y0 H locs ls h hx0 hl hC hS
  unfold fn_X3_take_B17 at h
  refine lv_istore_n (lv' := [(2, .int y0), (0, .ref x0), (1, .int x1)]) hx hb dX3_take_17 rfl hl (by decide) rfl (fun ls hl => ?_)
  refine lv_iload_n hx hb dX3_take_18 rfl (lv_at hl 0 rfl) ?_
  refine lv_if_ne (tgt := 35) hx hb dX3_take_19 (by decide) (fun hc => ?_) (fun hc => ?_)
  · replace h := (if_neg hc).symm.trans h
    exact w_X3_take_B35 ⟨hx, hb, hml, hown, hts, hK⟩ hret  h hx0 (lv_sub hl [1, 2, 0] rfl) hC hS
  · replace h := (if_pos hc).symm.trans h
    refine lv_iload_n hx hb dX3_take_22 rfl (lv_at hl 2 rfl) ?_
    obtain ⟨r1, er1, h⟩ := Option.bind_eq_some_iff.mp h
    refine va_calli (va_runSN (As := [.int x1]) (rest := []) ⟨hx, hb, hml, hown, hts⟩ (c_X7_isCode l D κ b σ x1 _ er1) ⟨va_cnB 1 hts (gw0 wt_405) rfl rfl rfl (nm_7 hK) (hts _ (wq wt_1)) (by decide +kernel) ⟨Nat.le_of_ble_eq_true rfl, Nat.le_of_ble_eq_true rfl⟩, hts _ (wq wt_404), trivial⟩ (CW_preS hK hC) rfl rfl hl.1 rfl (lv_room (Nat.le_of_ble_eq_true rfl)) dX3_take_23 ⟨Nat.zero_le _, Nat.zero_le _⟩) hS (fun _ _ h => h) (fun _ h => h) (fun r u t H locs ht _ hp hB _ _ hS => ?_)
    refine sg_topi hp.1 ?_
    have hC : CW D κ b σ H := CW_b hB ht hp.2
    refine lv_if_ne (tgt := 35) hx hb dX3_take_26 (by decide) (fun hc => ?_) (fun hc => ?_)
    · replace h := (if_neg hc).symm.trans h
      exact w_X3_take_B35 ⟨hx, hb, hml, hown, hts, hK⟩ hret  h hx0 (lv_sub hl [1, 2, 0] rfl) hC hS
    · replace h := (if_pos hc).symm.trans h
      refine lv_aload_n hx hb dX3_take_29 rfl (lv_at hl 1 rfl) ?_
      refine lv_iconst (v := 1) hx hb dX3_take_30 (by decide) ?_
      refine va_put (D := D) (ci := 3) (v := .int 1) (ty := .boolean) (C := RX3) (T := TX3) (N := 3) hx hb hts (wqs inW_X3) tyX3 tyX3_ok nmX3 hown hK.1 hC.1 sg_D hS (x0 - b) (sg_gKey hx0) rfl 2 (by decide) (hts _ (wq wt_100)) (fun _ h9 => h9) rfl (by decide +kernel) (by decide) (by decide) (Nat.le_of_ble_eq_true rfl) dX3_take_31 (fun H locs hP _ hS => ?_)
      obtain ⟨σ2, eσ2, h⟩ := sg_lte h
      have hC : CW D κ b σ2 H := eσ2 ▸ CW_put (k := 2) (v := 1) hC (sg_aKey hx0) (sg_yKey hx0 _ _) hP
      exact hret _ _ _ _ _ h hC hS dX3_take_34
def fn_X3_take_B16 (b : Nat) (σ : Sg) (x0 : Nat) (x1 : Int32) : Option (Sg) :=
  fn_X3_take_B17 b σ x0 x1 0
set_option maxHeartbeats 4000000 in
set_option maxRecDepth 100000 in
theorem w_X3_take_B16 {p : Program} {l : Launch} {e : Env} {s : State} {m : MethodId} {args : Array Value} {below : List Frame} {meth : Method} {c : Code} {Q : State → Prop} {D : va_G} {κ : Nat → ClassId} {b : Nat} {H0 : Heap} {rr : Sg} (hZ : sg_Z p c s m args D κ cX3_take 3 RX3 wsX3_take) (hret : ∀ (u : Sg) (H : Heap) (locs : List Loc) (pc : Nat) (ls : Array Slot), some u = some rr → CW D κ b u H → va_S (sg_A b 892) H0 H locs → decode cX3_take pc = .ok (.return_, 1) → W p l e rm_X3_take s m args below meth c H locs 0 0 Q (F0 m pc ls [])) : ∀ {σ : Sg} {x0 : Nat} {x1 : Int32} {H : Heap} {locs : List Loc} {ls : Array Slot}, fn_X3_take_B16 b σ x0 x1 = some rr → is_Key b x0 → lv_has ls 3 [(0, .ref x0), (1, .int x1)] → CW D κ b σ H → va_S (sg_A b 892) H0 H locs → W p l e rm_X3_take s m args below meth c H locs 0 0 Q (F0 m 16 ls []) := by
  obtain ⟨hx, hb, hml, hown, hts, hK⟩ := hZ
  intro σ x0 x1 H locs ls h hx0 hl hC hS
  unfold fn_X3_take_B16 at h
  refine lv_iconst (v := 0) hx hb dX3_take_16 (by decide) ?_
  exact w_X3_take_B17 ⟨hx, hb, hml, hown, hts, hK⟩ hret  h hx0 (lv_sub hl [0, 1] rfl) hC hS
def fn_X3_take (b : Nat) (σ : Sg) (x0 : Nat) (x1 : Int32) : Option (Sg) :=
  (if x1 < 65 then
  fn_X3_take_B16 b σ x0 x1
  else (if (90 : Int32) < x1 then
  fn_X3_take_B16 b σ x0 x1
  else fn_X3_take_B17 b σ x0 x1 1))
set_option maxHeartbeats 4000000 in
set_option maxRecDepth 100000 in
theorem w_X3_take_B0 {p : Program} {l : Launch} {e : Env} {s : State} {m : MethodId} {args : Array Value} {below : List Frame} {meth : Method} {c : Code} {Q : State → Prop} {D : va_G} {κ : Nat → ClassId} {b : Nat} {H0 : Heap} {rr : Sg} (hZ : sg_Z p c s m args D κ cX3_take 3 RX3 wsX3_take) (hret : ∀ (u : Sg) (H : Heap) (locs : List Loc) (pc : Nat) (ls : Array Slot), some u = some rr → CW D κ b u H → va_S (sg_A b 892) H0 H locs → decode cX3_take pc = .ok (.return_, 1) → W p l e rm_X3_take s m args below meth c H locs 0 0 Q (F0 m pc ls [])) : ∀ {σ : Sg} {x0 : Nat} {x1 : Int32} {H : Heap} {locs : List Loc} {ls : Array Slot}, fn_X3_take b σ x0 x1 = some rr → is_Key b x0 → lv_has ls 3 [(0, .ref x0), (1, .int x1)] → CW D κ b σ H → va_S (sg_A b 892) H0 H locs → W p l e rm_X3_take s m args below meth c H locs 0 0 Q (F0 m 0 ls []) := by
  obtain ⟨hx, hb, hml, hown, hts, hK⟩ := hZ
  intro σ x0 x1 H locs ls h hx0 hl hC hS
  unfold fn_X3_take at h
  refine lv_iload_n hx hb dX3_take_0 rfl (lv_at hl 1 rfl) ?_
  refine lv_bipush (v := 65) hx hb dX3_take_1 (by decide) ?_
  refine lv_icmp_lt (tgt := 16) hx hb dX3_take_3 (by decide) (fun hc => ?_) (fun hc => ?_)
  · replace h := (if_pos hc).symm.trans h
    exact w_X3_take_B16 ⟨hx, hb, hml, hown, hts, hK⟩ hret  h hx0 (lv_sub hl [0, 1] rfl) hC hS
  · replace h := (if_neg hc).symm.trans h
    refine lv_iload_n hx hb dX3_take_6 rfl (lv_at hl 1 rfl) ?_
    refine lv_bipush (v := 90) hx hb dX3_take_7 (by decide) ?_
    refine lv_icmp_gt (tgt := 16) hx hb dX3_take_9 (by decide) (fun hc => ?_) (fun hc => ?_)
    · replace h := (if_pos hc).symm.trans h
      exact w_X3_take_B16 ⟨hx, hb, hml, hown, hts, hK⟩ hret  h hx0 (lv_sub hl [0, 1] rfl) hC hS
    · replace h := (if_neg hc).symm.trans h
      refine lv_iconst (v := 1) hx hb dX3_take_12 (by decide) ?_
      refine lv_goto (tgt := 17) hx hb dX3_take_13 (by decide) ?_
      exact w_X3_take_B17 ⟨hx, hb, hml, hown, hts, hK⟩ hret  h hx0 (lv_sub hl [0, 1] rfl) hC hS
set_option maxHeartbeats 4000000 in
set_option maxRecDepth 100000 in
theorem c_X3_take (l : Launch) (D : va_G) (κ : Nat → ClassId) (b : Nat) (σ : Sg) (x0 : Nat) (x1 : Int32) (rr : Sg) (hx0 : is_Key b x0) (h : fn_X3_take b σ x0 x1 = some rr) : Met l yX3_take wsX3_take rm_X3_take (va_Pc [.ref x0, .int x1] (fun U => KK D κ U ∧ CW D κ b σ U.heap)) (va_Qv (fun u : Sg => u = rr) (fun u t => CW D κ b u t.heap) (sg_A b 892)) 0 0 (sg_A b 892) := by
  refine Met.ofW (cc := cX3_take) (maxL := 3) (ret := none) (by decide) rfl ?_
  intro p e s m args below meth c s₁ B hml hv
  obtain ⟨rfl, hK, hC⟩ := hv
  have hr := B.returns
  have hlocks := B.notSynchronized
  have hl := lv_entry ([.ref x0, .int x1]) (n := 3) (Nat.le_of_ble_eq_true rfl)
  rw [lg_entry_eq]
  generalize (lg_sl ([.ref x0, .int x1]) ++ List.replicate (3 - (lg_sl ([.ref x0, .int x1])).length) Slot.unset).toArray = ls at hl ⊢
  have hl : lv_has ls 3 [(0, .ref x0), (1, .int x1)] := hl
  exact w_X3_take_B0 ⟨B.exec, B.bytes, hml, findClass_of_methodNamed B.named, atoms_spec (ws := wsX3_take) B.pre, hK⟩ (fun u H locs pc ls hq hC hS hd => W.vret B.exec B.bytes hr (fun t ht hW => ⟨⟨_, rfl, Option.some.inj hq, CW_e ht hC⟩, hS.F ht⟩) hS.2.2 hd) h hx0 hl hC va_S.rf
