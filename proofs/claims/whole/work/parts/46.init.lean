set_option maxHeartbeats 4000000 in
set_option maxRecDepth 100000 in
theorem c_sha_init {l : Launch} {D : va_G} {cI cZ cG : ClassId} (a : Nat) : MK l gE yX0_init (.code yX0_init cX0_init 1 none :: tW) ({ frames := 2, cells := 3, slots := 328, locals := 20 }) D vwCl (tC cI cZ cG) [.ref a] ([(a, .inr (1, [.null, .int 0, .null, .null]))]) (β := Nat × Nat × Nat) (fun _ => True) (fun u => [(a, .inr (1, [.ref u.1, .int (nI 0), .ref u.2.1, .ref u.2.2])), (u.1, .inl (cI, 256, .inl (fun _ => 0))), (u.2.1, .inl (cI, 64, .inl (fun _ => 0))), (u.2.2, .inl (cI, 8, .inl (fun _ => 0)))]) 3 328 := by
  refine MK.ofW (by decide +kernel) rfl (Nat.le_of_ble_eq_true rfl) ?_
  intro p e s m below meth c A ls hx hb hr hts hown hlk hml hA hP hK hD hT hl hin
  have hS : va_S A s.heap s.heap [] := va_S.rf
  have hown : s.vm.findClass RX0 = some m.cls := hown
  have hin : meth.name = "<init>" := hin
  have hW : ∀ w ∈ tW, w.before _ s = true := fun w h => hts w (List.mem_cons_of_mem _ h)
  have hl : lv_has ls 1 [(0, .ref a)] := hl
  refine lv_aload_n hx hb dX0_init_0 rfl (lv_at hl 0 rfl) ?_
  refine W.objInit hx hb hown (hW _ tw_27) (hW _ tw_20) (hW _ tw_21) rfl (by rw [hml]; exact hl.1) rfl dX0_init_1 (Nat.le_of_ble_eq_true rfl) (Nat.le_of_ble_eq_true rfl) ?_
  refine W.eq (g2 := F0 m 4 ls []) rfl ?_
  refine lv_aload_n hx hb dX0_init_4 rfl (lv_at hl 0 rfl) ?_
  refine lv_sipush (v := nI 256) hx hb dX0_init_5 (by decide) ?_
  refine z_newa (atype := .int) (cA := cI) (N' := 256) (a0 := (256, .inl (fun _ => 0))) hx hb (hW _ tw_41) (hK.2 0 _ rfl).2 hP hD hS hA rfl (by decide) (by decide) (by decide) (Nat.le_of_ble_eq_true rfl) (Nat.le_of_ble_eq_true rfl) dX0_init_8 (fun q1 H hP hD hS => ?_)
  refine va_putF (D := D) (ci := 1) (v := .ref q1) (ty := .array .int) (C := RX0) (T := TX0) (N := 4) hx hb hW iSH tyX0 tyX0_ok nmX0 hown hK hP hD hS 0 rfl rfl 0 (by decide) (hW _ tw_28) (fun _ h9 => h9) rfl hin rfl (by decide +kernel) rfl rfl (Nat.le_of_ble_eq_true rfl) dX0_init_10 (fun H locs hP hD hS => ?_)
  have hP : va_P D vwCl ([(a, .inr (1, [.ref q1, .int 0, .null, .null]))] ++ [(q1, .inl (cI, 256, .inl (fun _ => 0)))]) H := hP
  have hD : va_D A ([(a, .inr (1, [.ref q1, .int 0, .null, .null]))] ++ [(q1, .inl (cI, 256, .inl (fun _ => 0)))]) := hD
  refine lv_aload_n hx hb dX0_init_13 rfl (lv_at hl 0 rfl) ?_
  refine lv_iconst (v := nI 0) hx hb dX0_init_14 (by decide) ?_
  refine va_put (D := D) (ci := 1) (v := .int (nI 0)) (ty := .int) (C := RX0) (T := TX0) (N := 4) hx hb hW iSH tyX0 tyX0_ok nmX0 hown hK hP hD hS 0 rfl rfl 1 (by decide) (hW _ tw_29) (fun _ h9 => h9) rfl (by decide +kernel) rfl rfl (Nat.le_of_ble_eq_true rfl) dX0_init_15 (fun H locs hP hD hS => ?_)
  have hP : va_P D vwCl ([(a, .inr (1, [.ref q1, .int (nI 0), .null, .null]))] ++ [(q1, .inl (cI, 256, .inl (fun _ => 0)))]) H := hP
  have hD : va_D A ([(a, .inr (1, [.ref q1, .int (nI 0), .null, .null]))] ++ [(q1, .inl (cI, 256, .inl (fun _ => 0)))]) := hD
  refine lv_aload_n hx hb dX0_init_18 rfl (lv_at hl 0 rfl) ?_
  refine lv_bipush (v := nI 64) hx hb dX0_init_19 (by decide) ?_
  refine z_newa (atype := .int) (cA := cI) (N' := 64) (a0 := (64, .inl (fun _ => 0))) hx hb (hW _ tw_41) (hK.2 0 _ rfl).2 hP hD hS hA rfl (by decide) (by decide) (by decide) (Nat.le_of_ble_eq_true rfl) (Nat.le_of_ble_eq_true rfl) dX0_init_21 (fun q2 H hP hD hS => ?_)
  refine va_putF (D := D) (ci := 1) (v := .ref q2) (ty := .array .int) (C := RX0) (T := TX0) (N := 4) hx hb hW iSH tyX0 tyX0_ok nmX0 hown hK hP hD hS 0 rfl rfl 2 (by decide) (hW _ tw_30) (fun _ h9 => h9) rfl hin rfl (by decide +kernel) rfl rfl (Nat.le_of_ble_eq_true rfl) dX0_init_23 (fun H locs hP hD hS => ?_)
  have hP : va_P D vwCl ([(a, .inr (1, [.ref q1, .int (nI 0), .ref q2, .null]))] ++ [(q1, .inl (cI, 256, .inl (fun _ => 0)))] ++ [(q2, .inl (cI, 64, .inl (fun _ => 0)))]) H := hP
  have hD : va_D A ([(a, .inr (1, [.ref q1, .int (nI 0), .ref q2, .null]))] ++ [(q1, .inl (cI, 256, .inl (fun _ => 0)))] ++ [(q2, .inl (cI, 64, .inl (fun _ => 0)))]) := hD
  refine lv_aload_n hx hb dX0_init_26 rfl (lv_at hl 0 rfl) ?_
  refine lv_bipush (v := nI 8) hx hb dX0_init_27 (by decide) ?_
  refine z_newa (atype := .int) (cA := cI) (N' := 8) (a0 := (8, .inl (fun _ => 0))) hx hb (hW _ tw_41) (hK.2 0 _ rfl).2 hP hD hS hA rfl (by decide) (by decide) (by decide) (Nat.le_of_ble_eq_true rfl) (Nat.le_of_ble_eq_true rfl) dX0_init_29 (fun q3 H hP hD hS => ?_)
  refine va_putF (D := D) (ci := 1) (v := .ref q3) (ty := .array .int) (C := RX0) (T := TX0) (N := 4) hx hb hW iSH tyX0 tyX0_ok nmX0 hown hK hP hD hS 0 rfl rfl 3 (by decide) (hW _ tw_31) (fun _ h9 => h9) rfl hin rfl (by decide +kernel) rfl rfl (Nat.le_of_ble_eq_true rfl) dX0_init_31 (fun H locs hP hD hS => ?_)
  have hP : va_P D vwCl ([(a, .inr (1, [.ref q1, .int (nI 0), .ref q2, .ref q3]))] ++ [(q1, .inl (cI, 256, .inl (fun _ => 0)))] ++ [(q2, .inl (cI, 64, .inl (fun _ => 0)))] ++ [(q3, .inl (cI, 8, .inl (fun _ => 0)))]) H := hP
  have hD : va_D A ([(a, .inr (1, [.ref q1, .int (nI 0), .ref q2, .ref q3]))] ++ [(q1, .inl (cI, 256, .inl (fun _ => 0)))] ++ [(q2, .inl (cI, 64, .inl (fun _ => 0)))] ++ [(q3, .inl (cI, 8, .inl (fun _ => 0)))]) := hD
  exact mk_ret (w1 := fun u : Nat × Nat × Nat => [(a, .inr (1, [.ref u.1, .int (nI 0), .ref u.2.1, .ref u.2.2])), (u.1, .inl (cI, 256, .inl (fun _ => 0))), (u.2.1, .inl (cI, 64, .inl (fun _ => 0))), (u.2.2, .inl (cI, 8, .inl (fun _ => 0)))]) ((q1, q2, q3)) trivial hx hb hr hlk hS hP hD dX0_init_34
def gPL (k : Nat) : Nat := [0, 1, 6, 32, 46, 52, 31, 5, 45, 77, 2, 3, 4, 7, 8, 9, 10, 11, 12, 13, 14, 15, 16, 17, 18, 19, 20, 21, 22, 23, 24, 25, 26, 27, 28, 29, 30, 33, 34, 35, 36, 37, 38, 39, 40, 41, 42, 43, 44, 47, 48, 49, 50, 51, 53, 54, 55, 56, 57, 58, 59, 60, 61, 62, 63, 64, 65, 66, 67, 68, 69, 70, 71, 72, 73, 74, 75, 76].getD k 0
theorem gPL_inj : ∀ i j : Nat, i < 78 → j < 78 → gPL i = gPL j → i = j := by
  have h : ∀ i, i < 78 → ∀ j, j < 78 → gPL i = gPL j → i = j := by decide +kernel
  exact fun i j hi hj e => h i hi j hj e
def oPL (a q1 q2 q3 q4 q5 q6 k : Nat) : Nat := match k with
  | 0 => a
  | 1 => q1
  | 2 => q2
  | 3 => q3
  | 4 => q4
  | 5 => q5
  | _ => q6
def aPL (t dq md m3 m4 m5 q2 q3 q4 q5 k : Nat) : Nat := if k < 6 then [t, dq, md, m3, m4, m5].getD k 0 else if k < 30 then q2 + 1 + (k - 6) else if k < 42 then q3 + 1 + (k - 30) else if k < 47 then q4 + 1 + (k - 42) else q5 + 1 + (k - 47)
theorem aPL_leaf (t dq md m3 m4 m5 q2 q3 q4 q5 : Nat) : ∀ i, i < 24 → aPL t dq md m3 m4 m5 q2 q3 q4 q5 (6 + i) = q2 + 1 + i := by
  intro i hi
  unfold aPL
  rw [if_neg (by omega), if_pos (by omega), Nat.add_sub_cancel_left]
theorem aPL_root (t dq md m3 m4 m5 q2 q3 q4 q5 : Nat) : ∀ i, i < 12 → aPL t dq md m3 m4 m5 q2 q3 q4 q5 (30 + i) = q3 + 1 + i := by
  intro i hi
  unfold aPL
  rw [if_neg (by omega), if_neg (by omega), if_pos (by omega), Nat.add_sub_cancel_left]
theorem aPL_path (t dq md m3 m4 m5 q2 q3 q4 q5 : Nat) : ∀ i, i < 5 → aPL t dq md m3 m4 m5 q2 q3 q4 q5 (42 + i) = q4 + 1 + i := by
  intro i hi
  unfold aPL
  rw [if_neg (by omega), if_neg (by omega), if_neg (by omega), if_pos (by omega), Nat.add_sub_cancel_left]
theorem aPL_lev (t dq md m3 m4 m5 q2 q3 q4 q5 : Nat) : ∀ i, i < 24 → aPL t dq md m3 m4 m5 q2 q3 q4 q5 (47 + i) = q5 + 1 + i := by
  intro i hi
  unfold aPL
  rw [if_neg (by omega), if_neg (by omega), if_neg (by omega), if_neg (by omega), Nat.add_sub_cancel_left]
set_option maxRecDepth 100000 in
theorem gPL_ok (a q1 q2 q3 q4 q5 q6 q7 q8 q9 m3 m4 m5 : Nat) (cI cZ cG : ClassId) (k : Nat) (z : Nat × va_E) (h : (wC (oPL a q1 q3 q5 q7 q8 q4) (aPL q2 q6 q9 m3 m4 m5 q3 q5 q7 q8) cI cZ cG (nI 0) (nI 0) (nI 0) (nI 0) (-1) (nI 0) (fun _ => 0) (fun _ _ => 0))[k]? = some z) : ∃ x, ([(a, .inr (0, [.ref q1, .ref q2, .int (nI 0), .ref q3, .ref q4, .int (nI 0), .int (nI 0), .ref q5, .ref q6, .int (nI 0), .ref q7, .int (-1), .ref q8, .ref q9]))] ++ [(q1, .inr (1, [.ref m3, .int (nI 0), .ref m4, .ref m5])), (m3, .inl (cI, 256, .inl (fun _ => 0))), (m4, .inl (cI, 64, .inl (fun _ => 0))), (m5, .inl (cI, 8, .inl (fun _ => 0)))] ++ [(q2, .inl (cI, 200, .inl (fun _ => 0)))] ++ z_grid q3 cG cI 24 32 ++ [(q4, .inl (cZ, 24, .inl (fun _ => 0)))] ++ z_grid q5 cG cI 12 32 ++ [(q6, .inl (cI, 12, .inl (fun _ => 0)))] ++ z_grid q7 cG cI 5 32 ++ z_grid q8 cG cI 24 32 ++ [(q9, .inl (cI, 32, .inl (fun _ => 0)))] : va_W)[gPL k]? = some x ∧ simE x z := by
  have hlt : k < 78 := (List.getElem?_eq_some_iff.mp h).1
  match k, hlt, h with
  | 0, _, h =>
    have h := Option.some.inj h
    subst h
    exact ⟨_, rfl, rfl, Or.inl rfl⟩
  | 1, _, h =>
    have h := Option.some.inj h
    subst h
    exact ⟨_, rfl, rfl, Or.inl rfl⟩
  | 2, _, h =>
    have h := Option.some.inj h
    subst h
    exact ⟨_, rfl, rfl, Or.inr ⟨_, _, _, _, rfl, rfl, fun i hi => congrArg some (aPL_leaf _ _ _ _ _ _ _ _ _ _ i hi).symm⟩⟩
  | 3, _, h =>
    have h := Option.some.inj h
    subst h
    exact ⟨_, rfl, rfl, Or.inr ⟨_, _, _, _, rfl, rfl, fun i hi => congrArg some (aPL_root _ _ _ _ _ _ _ _ _ _ i hi).symm⟩⟩
  | 4, _, h =>
    have h := Option.some.inj h
    subst h
    exact ⟨_, rfl, rfl, Or.inr ⟨_, _, _, _, rfl, rfl, fun i hi => congrArg some (aPL_path _ _ _ _ _ _ _ _ _ _ i hi).symm⟩⟩
  | 5, _, h =>
    have h := Option.some.inj h
    subst h
    exact ⟨_, rfl, rfl, Or.inr ⟨_, _, _, _, rfl, rfl, fun i hi => congrArg some (aPL_lev _ _ _ _ _ _ _ _ _ _ i hi).symm⟩⟩
  | 6, _, h =>
    have h := Option.some.inj h
    subst h
    exact ⟨_, rfl, rfl, Or.inl rfl⟩
  | 7, _, h =>
    have h := Option.some.inj h
    subst h
    exact ⟨_, rfl, rfl, Or.inl rfl⟩
  | 8, _, h =>
    have h := Option.some.inj h
    subst h
    exact ⟨_, rfl, rfl, Or.inl rfl⟩
  | 9, _, h =>
    have h := Option.some.inj h
    subst h
    exact ⟨_, rfl, rfl, Or.inl rfl⟩
  | 10, _, h =>
    have h := Option.some.inj h
    subst h
    exact ⟨_, rfl, rfl, Or.inl rfl⟩
  | 11, _, h =>
    have h := Option.some.inj h
    subst h
    exact ⟨_, rfl, rfl, Or.inl rfl⟩
  | 12, _, h =>
    have h := Option.some.inj h
    subst h
    exact ⟨_, rfl, rfl, Or.inl rfl⟩
  | 13, _, h =>
    have h := Option.some.inj h
    subst h
    exact ⟨_, rfl, rfl, Or.inl rfl⟩
  | 14, _, h =>
    have h := Option.some.inj h
    subst h
    exact ⟨_, rfl, rfl, Or.inl rfl⟩
  | 15, _, h =>
    have h := Option.some.inj h
    subst h
    exact ⟨_, rfl, rfl, Or.inl rfl⟩
  | 16, _, h =>
    have h := Option.some.inj h
    subst h
    exact ⟨_, rfl, rfl, Or.inl rfl⟩
  | 17, _, h =>
    have h := Option.some.inj h
    subst h
    exact ⟨_, rfl, rfl, Or.inl rfl⟩
  | 18, _, h =>
    have h := Option.some.inj h
    subst h
    exact ⟨_, rfl, rfl, Or.inl rfl⟩
  | 19, _, h =>
    have h := Option.some.inj h
    subst h
    exact ⟨_, rfl, rfl, Or.inl rfl⟩
  | 20, _, h =>
    have h := Option.some.inj h
    subst h
    exact ⟨_, rfl, rfl, Or.inl rfl⟩
  | 21, _, h =>
    have h := Option.some.inj h
    subst h
    exact ⟨_, rfl, rfl, Or.inl rfl⟩
  | 22, _, h =>
    have h := Option.some.inj h
    subst h
    exact ⟨_, rfl, rfl, Or.inl rfl⟩
  | 23, _, h =>
    have h := Option.some.inj h
    subst h
    exact ⟨_, rfl, rfl, Or.inl rfl⟩
  | 24, _, h =>
    have h := Option.some.inj h
    subst h
    exact ⟨_, rfl, rfl, Or.inl rfl⟩
  | 25, _, h =>
    have h := Option.some.inj h
    subst h
    exact ⟨_, rfl, rfl, Or.inl rfl⟩
  | 26, _, h =>
    have h := Option.some.inj h
    subst h
    exact ⟨_, rfl, rfl, Or.inl rfl⟩
  | 27, _, h =>
    have h := Option.some.inj h
    subst h
    exact ⟨_, rfl, rfl, Or.inl rfl⟩
  | 28, _, h =>
    have h := Option.some.inj h
    subst h
    exact ⟨_, rfl, rfl, Or.inl rfl⟩
  | 29, _, h =>
    have h := Option.some.inj h
    subst h
    exact ⟨_, rfl, rfl, Or.inl rfl⟩
  | 30, _, h =>
    have h := Option.some.inj h
    subst h
    exact ⟨_, rfl, rfl, Or.inl rfl⟩
  | 31, _, h =>
    have h := Option.some.inj h
    subst h
    exact ⟨_, rfl, rfl, Or.inl rfl⟩
  | 32, _, h =>
    have h := Option.some.inj h
    subst h
    exact ⟨_, rfl, rfl, Or.inl rfl⟩
  | 33, _, h =>
    have h := Option.some.inj h
    subst h
    exact ⟨_, rfl, rfl, Or.inl rfl⟩
  | 34, _, h =>
    have h := Option.some.inj h
    subst h
    exact ⟨_, rfl, rfl, Or.inl rfl⟩
  | 35, _, h =>
    have h := Option.some.inj h
    subst h
    exact ⟨_, rfl, rfl, Or.inl rfl⟩
  | 36, _, h =>
    have h := Option.some.inj h
    subst h
    exact ⟨_, rfl, rfl, Or.inl rfl⟩
  | 37, _, h =>
    have h := Option.some.inj h
    subst h
    exact ⟨_, rfl, rfl, Or.inl rfl⟩
  | 38, _, h =>
    have h := Option.some.inj h
    subst h
    exact ⟨_, rfl, rfl, Or.inl rfl⟩
  | 39, _, h =>
    have h := Option.some.inj h
    subst h
    exact ⟨_, rfl, rfl, Or.inl rfl⟩
  | 40, _, h =>
    have h := Option.some.inj h
    subst h
    exact ⟨_, rfl, rfl, Or.inl rfl⟩
  | 41, _, h =>
    have h := Option.some.inj h
    subst h
    exact ⟨_, rfl, rfl, Or.inl rfl⟩
  | 42, _, h =>
    have h := Option.some.inj h
    subst h
    exact ⟨_, rfl, rfl, Or.inl rfl⟩
  | 43, _, h =>
    have h := Option.some.inj h
    subst h
    exact ⟨_, rfl, rfl, Or.inl rfl⟩
  | 44, _, h =>
    have h := Option.some.inj h
    subst h
    exact ⟨_, rfl, rfl, Or.inl rfl⟩
  | 45, _, h =>
    have h := Option.some.inj h
    subst h
    exact ⟨_, rfl, rfl, Or.inl rfl⟩
  | 46, _, h =>
    have h := Option.some.inj h
    subst h
    exact ⟨_, rfl, rfl, Or.inl rfl⟩
  | 47, _, h =>
    have h := Option.some.inj h
    subst h
    exact ⟨_, rfl, rfl, Or.inl rfl⟩
  | 48, _, h =>
    have h := Option.some.inj h
    subst h
    exact ⟨_, rfl, rfl, Or.inl rfl⟩
  | 49, _, h =>
    have h := Option.some.inj h
    subst h
    exact ⟨_, rfl, rfl, Or.inl rfl⟩
  | 50, _, h =>
    have h := Option.some.inj h
    subst h
    exact ⟨_, rfl, rfl, Or.inl rfl⟩
  | 51, _, h =>
    have h := Option.some.inj h
    subst h
    exact ⟨_, rfl, rfl, Or.inl rfl⟩
  | 52, _, h =>
    have h := Option.some.inj h
    subst h
    exact ⟨_, rfl, rfl, Or.inl rfl⟩
  | 53, _, h =>
    have h := Option.some.inj h
    subst h
    exact ⟨_, rfl, rfl, Or.inl rfl⟩
  | 54, _, h =>
    have h := Option.some.inj h
    subst h
    exact ⟨_, rfl, rfl, Or.inl rfl⟩
  | 55, _, h =>
    have h := Option.some.inj h
    subst h
    exact ⟨_, rfl, rfl, Or.inl rfl⟩
  | 56, _, h =>
    have h := Option.some.inj h
    subst h
    exact ⟨_, rfl, rfl, Or.inl rfl⟩
  | 57, _, h =>
    have h := Option.some.inj h
    subst h
    exact ⟨_, rfl, rfl, Or.inl rfl⟩
  | 58, _, h =>
    have h := Option.some.inj h
    subst h
    exact ⟨_, rfl, rfl, Or.inl rfl⟩
  | 59, _, h =>
    have h := Option.some.inj h
    subst h
    exact ⟨_, rfl, rfl, Or.inl rfl⟩
  | 60, _, h =>
    have h := Option.some.inj h
    subst h
    exact ⟨_, rfl, rfl, Or.inl rfl⟩
  | 61, _, h =>
    have h := Option.some.inj h
    subst h
    exact ⟨_, rfl, rfl, Or.inl rfl⟩
  | 62, _, h =>
    have h := Option.some.inj h
    subst h
    exact ⟨_, rfl, rfl, Or.inl rfl⟩
  | 63, _, h =>
    have h := Option.some.inj h
    subst h
    exact ⟨_, rfl, rfl, Or.inl rfl⟩
  | 64, _, h =>
    have h := Option.some.inj h
    subst h
    exact ⟨_, rfl, rfl, Or.inl rfl⟩
  | 65, _, h =>
    have h := Option.some.inj h
    subst h
    exact ⟨_, rfl, rfl, Or.inl rfl⟩
  | 66, _, h =>
    have h := Option.some.inj h
    subst h
    exact ⟨_, rfl, rfl, Or.inl rfl⟩
  | 67, _, h =>
    have h := Option.some.inj h
    subst h
    exact ⟨_, rfl, rfl, Or.inl rfl⟩
  | 68, _, h =>
    have h := Option.some.inj h
    subst h
    exact ⟨_, rfl, rfl, Or.inl rfl⟩
  | 69, _, h =>
    have h := Option.some.inj h
    subst h
    exact ⟨_, rfl, rfl, Or.inl rfl⟩
  | 70, _, h =>
    have h := Option.some.inj h
    subst h
    exact ⟨_, rfl, rfl, Or.inl rfl⟩
  | 71, _, h =>
    have h := Option.some.inj h
    subst h
    exact ⟨_, rfl, rfl, Or.inl rfl⟩
  | 72, _, h =>
    have h := Option.some.inj h
    subst h
    exact ⟨_, rfl, rfl, Or.inl rfl⟩
  | 73, _, h =>
    have h := Option.some.inj h
    subst h
    exact ⟨_, rfl, rfl, Or.inl rfl⟩
  | 74, _, h =>
    have h := Option.some.inj h
    subst h
    exact ⟨_, rfl, rfl, Or.inl rfl⟩
  | 75, _, h =>
    have h := Option.some.inj h
    subst h
    exact ⟨_, rfl, rfl, Or.inl rfl⟩
  | 76, _, h =>
    have h := Option.some.inj h
    subst h
    exact ⟨_, rfl, rfl, Or.inl rfl⟩
  | 77, _, h =>
    have h := Option.some.inj h
    subst h
    exact ⟨_, rfl, rfl, Or.inl rfl⟩
set_option maxHeartbeats 4000000 in
set_option maxRecDepth 100000 in
theorem c_pl_init {l : Launch} {D : va_G} {cI cZ cG : ClassId} (a : Nat) : MK l gE yX1_init (.code yX1_init cX1_init 1 none :: tW) ({ frames := 4, cells := 77, slots := 2745, locals := 100 }) D vwCl (tC cI cZ cG) [.ref a] ([(a, .inr (0, [.null, .null, .int 0, .null, .null, .int 0, .int 0, .null, .null, .int 0, .null, .int 0, .null, .null]))]) (β := (Nat → Nat) × (Nat → Nat)) (fun u => u.1 0 = a) (fun u => wC u.1 u.2 cI cZ cG (nI 0) (nI 0) (nI 0) (nI 0) (-1) (nI 0) (fun _ => 0) (fun _ _ => 0)) 77 2745 := by
  refine MK.ofW (by decide +kernel) rfl (Nat.le_of_ble_eq_true rfl) ?_
  intro p e s m below meth c A ls hx hb hr hts hown hlk hml hA hP hK hD hT hl hin
  have hS : va_S A s.heap s.heap [] := va_S.rf
  have hown : s.vm.findClass RX1 = some m.cls := hown
  have hin : meth.name = "<init>" := hin
  have hW : ∀ w ∈ tW, w.before _ s = true := fun w h => hts w (List.mem_cons_of_mem _ h)
  have hl : lv_has ls 1 [(0, .ref a)] := hl
  refine lv_aload_n hx hb dX1_init_0 rfl (lv_at hl 0 rfl) ?_
  refine W.objInit hx hb hown (hW _ tw_19) (hW _ tw_20) (hW _ tw_21) rfl (by rw [hml]; exact hl.1) rfl dX1_init_1 (Nat.le_of_ble_eq_true rfl) (Nat.le_of_ble_eq_true rfl) ?_
  refine W.eq (g2 := F0 m 4 ls []) rfl ?_
  refine lv_aload_n hx hb dX1_init_4 rfl (lv_at hl 0 rfl) ?_
  refine va_new (D := D) (ci := 1) (C := RX0) (T := TX0) (N := 4) (own := RX1) (fs := [.null, .int 0, .null, .null]) hx hb hW iSH tyX0 tyX0_ok hown (hW _ tw_22) (hW _ tw_23) (hW _ tw_2) hK hP hD hS hA rfl (by decide +kernel) (Nat.le_of_ble_eq_true rfl) (Nat.le_of_ble_eq_true rfl) dX1_init_5 (fun q1 H hP hD hS => ?_)
  refine lv_dup hx hb dX1_init_8 rfl ?_
  have hP := va_P_sw hP
  have hD := va_D_sw hD
  refine mk_frI (As := []) (rest := [.ref q1, .ref a]) (wr := [(a, .inr (0, [.null, .null, .int 0, .null, .null, .int 0, .int 0, .null, .null, .int 0, .null, .int 0, .null, .null]))]) ⟨hx, hb, hml, hown, hW⟩ (c_sha_init q1) gE_ok (cwI 0 hW (gI tw_26) rfl rfl rfl (hW _ tw_2) (hW _ tw_24) (hW _ tw_25) rfl (by decide +kernel) ⟨Nat.le_of_ble_eq_true rfl, Nat.le_of_ble_eq_true rfl⟩) hP hD hK hS hA hT rfl hl.1 rfl (Nat.le_of_ble_eq_true rfl) dX1_init_9 ⟨Nat.le_of_ble_eq_true rfl, Nat.le_of_ble_eq_true rfl⟩ (fun u H locs hu hP hD hS => ?_)
  have hP := va_P_sw hP
  have hD := va_D_sw hD
  have hP : va_P D vwCl ([(a, .inr (0, [.null, .null, .int 0, .null, .null, .int 0, .int 0, .null, .null, .int 0, .null, .int 0, .null, .null]))] ++ [(q1, .inr (1, [.ref u.1, .int (nI 0), .ref u.2.1, .ref u.2.2])), (u.1, .inl (cI, 256, .inl (fun _ => 0))), (u.2.1, .inl (cI, 64, .inl (fun _ => 0))), (u.2.2, .inl (cI, 8, .inl (fun _ => 0)))]) H := hP
  have hD : va_D A ([(a, .inr (0, [.null, .null, .int 0, .null, .null, .int 0, .int 0, .null, .null, .int 0, .null, .int 0, .null, .null]))] ++ [(q1, .inr (1, [.ref u.1, .int (nI 0), .ref u.2.1, .ref u.2.2])), (u.1, .inl (cI, 256, .inl (fun _ => 0))), (u.2.1, .inl (cI, 64, .inl (fun _ => 0))), (u.2.2, .inl (cI, 8, .inl (fun _ => 0)))]) := hD
  refine va_putF (D := D) (ci := 0) (v := .ref q1) (ty := .object "ProofLeaves$Sha256") (C := RX1) (T := TX1) (N := 14) hx hb hW iPL tyX1 tyX1_ok nmX1 hown hK hP hD hS 0 rfl rfl 0 (by decide) (hW _ tw_44) (fun _ h9 => h9) rfl hin rfl (by decide +kernel) rfl rfl (Nat.le_of_ble_eq_true rfl) dX1_init_12 (fun H locs hP hD hS => ?_)
  have hP : va_P D vwCl ([(a, .inr (0, [.ref q1, .null, .int 0, .null, .null, .int 0, .int 0, .null, .null, .int 0, .null, .int 0, .null, .null]))] ++ [(q1, .inr (1, [.ref u.1, .int (nI 0), .ref u.2.1, .ref u.2.2])), (u.1, .inl (cI, 256, .inl (fun _ => 0))), (u.2.1, .inl (cI, 64, .inl (fun _ => 0))), (u.2.2, .inl (cI, 8, .inl (fun _ => 0)))]) H := hP
  have hD : va_D A ([(a, .inr (0, [.ref q1, .null, .int 0, .null, .null, .int 0, .int 0, .null, .null, .int 0, .null, .int 0, .null, .null]))] ++ [(q1, .inr (1, [.ref u.1, .int (nI 0), .ref u.2.1, .ref u.2.2])), (u.1, .inl (cI, 256, .inl (fun _ => 0))), (u.2.1, .inl (cI, 64, .inl (fun _ => 0))), (u.2.2, .inl (cI, 8, .inl (fun _ => 0)))]) := hD
  refine lv_aload_n hx hb dX1_init_15 rfl (lv_at hl 0 rfl) ?_
  refine lv_sipush (v := nI 200) hx hb dX1_init_16 (by decide) ?_
  refine z_newa (atype := .int) (cA := cI) (N' := 200) (a0 := (200, .inl (fun _ => 0))) hx hb (hW _ tw_41) (hK.2 0 _ rfl).2 hP hD hS hA rfl (by decide) (by decide) (by decide) (Nat.le_of_ble_eq_true rfl) (Nat.le_of_ble_eq_true rfl) dX1_init_19 (fun q2 H hP hD hS => ?_)
  refine va_putF (D := D) (ci := 0) (v := .ref q2) (ty := .array .int) (C := RX1) (T := TX1) (N := 14) hx hb hW iPL tyX1 tyX1_ok nmX1 hown hK hP hD hS 0 rfl rfl 1 (by decide) (hW _ tw_45) (fun _ h9 => h9) rfl hin rfl (by decide +kernel) rfl rfl (Nat.le_of_ble_eq_true rfl) dX1_init_21 (fun H locs hP hD hS => ?_)
  have hP : va_P D vwCl ([(a, .inr (0, [.ref q1, .ref q2, .int 0, .null, .null, .int 0, .int 0, .null, .null, .int 0, .null, .int 0, .null, .null]))] ++ [(q1, .inr (1, [.ref u.1, .int (nI 0), .ref u.2.1, .ref u.2.2])), (u.1, .inl (cI, 256, .inl (fun _ => 0))), (u.2.1, .inl (cI, 64, .inl (fun _ => 0))), (u.2.2, .inl (cI, 8, .inl (fun _ => 0)))] ++ [(q2, .inl (cI, 200, .inl (fun _ => 0)))]) H := hP
  have hD : va_D A ([(a, .inr (0, [.ref q1, .ref q2, .int 0, .null, .null, .int 0, .int 0, .null, .null, .int 0, .null, .int 0, .null, .null]))] ++ [(q1, .inr (1, [.ref u.1, .int (nI 0), .ref u.2.1, .ref u.2.2])), (u.1, .inl (cI, 256, .inl (fun _ => 0))), (u.2.1, .inl (cI, 64, .inl (fun _ => 0))), (u.2.2, .inl (cI, 8, .inl (fun _ => 0)))] ++ [(q2, .inl (cI, 200, .inl (fun _ => 0)))]) := hD
  refine lv_aload_n hx hb dX1_init_24 rfl (lv_at hl 0 rfl) ?_
  refine lv_iconst (v := nI 0) hx hb dX1_init_25 (by decide) ?_
  refine va_put (D := D) (ci := 0) (v := .int (nI 0)) (ty := .int) (C := RX1) (T := TX1) (N := 14) hx hb hW iPL tyX1 tyX1_ok nmX1 hown hK hP hD hS 0 rfl rfl 2 (by decide) (hW _ tw_46) (fun _ h9 => h9) rfl (by decide +kernel) rfl rfl (Nat.le_of_ble_eq_true rfl) dX1_init_26 (fun H locs hP hD hS => ?_)
  have hP : va_P D vwCl ([(a, .inr (0, [.ref q1, .ref q2, .int (nI 0), .null, .null, .int 0, .int 0, .null, .null, .int 0, .null, .int 0, .null, .null]))] ++ [(q1, .inr (1, [.ref u.1, .int (nI 0), .ref u.2.1, .ref u.2.2])), (u.1, .inl (cI, 256, .inl (fun _ => 0))), (u.2.1, .inl (cI, 64, .inl (fun _ => 0))), (u.2.2, .inl (cI, 8, .inl (fun _ => 0)))] ++ [(q2, .inl (cI, 200, .inl (fun _ => 0)))]) H := hP
  have hD : va_D A ([(a, .inr (0, [.ref q1, .ref q2, .int (nI 0), .null, .null, .int 0, .int 0, .null, .null, .int 0, .null, .int 0, .null, .null]))] ++ [(q1, .inr (1, [.ref u.1, .int (nI 0), .ref u.2.1, .ref u.2.2])), (u.1, .inl (cI, 256, .inl (fun _ => 0))), (u.2.1, .inl (cI, 64, .inl (fun _ => 0))), (u.2.2, .inl (cI, 8, .inl (fun _ => 0)))] ++ [(q2, .inl (cI, 200, .inl (fun _ => 0)))]) := hD
  refine lv_aload_n hx hb dX1_init_29 rfl (lv_at hl 0 rfl) ?_
  refine lv_bipush (v := nI 24) hx hb dX1_init_30 (by decide) ?_
  refine lv_bipush (v := nI 32) hx hb dX1_init_32 (by decide) ?_
  refine z_new2 (cG := cG) (cI := cI) (own := RX1) hx hb hown (hW _ tw_42) (z_over (hT.2.2.2 (.arrayOver (.array .int)) (by decide +kernel))) (hW _ tw_41) (hK.2 2 _ rfl).2 (hK.2 0 _ rfl).2 hP hD hS hA 24 32 (by decide) (by decide) (by decide) (by decide) (by decide) (by decide) (Nat.le_of_ble_eq_true rfl) (Nat.le_of_ble_eq_true rfl) dX1_init_34 (fun q3 H hP hD hS => ?_)
  refine va_putF (D := D) (ci := 0) (v := .ref q3) (ty := .array (.array .int)) (C := RX1) (T := TX1) (N := 14) hx hb hW iPL tyX1 tyX1_ok nmX1 hown hK hP hD hS 0 rfl rfl 3 (by decide) (hW _ tw_47) (fun _ h9 => h9) rfl hin rfl (by decide +kernel) rfl rfl (Nat.le_of_ble_eq_true rfl) dX1_init_38 (fun H locs hP hD hS => ?_)
  have hP : va_P D vwCl ([(a, .inr (0, [.ref q1, .ref q2, .int (nI 0), .ref q3, .null, .int 0, .int 0, .null, .null, .int 0, .null, .int 0, .null, .null]))] ++ [(q1, .inr (1, [.ref u.1, .int (nI 0), .ref u.2.1, .ref u.2.2])), (u.1, .inl (cI, 256, .inl (fun _ => 0))), (u.2.1, .inl (cI, 64, .inl (fun _ => 0))), (u.2.2, .inl (cI, 8, .inl (fun _ => 0)))] ++ [(q2, .inl (cI, 200, .inl (fun _ => 0)))] ++ z_grid q3 cG cI 24 32) H := hP
  have hD : va_D A ([(a, .inr (0, [.ref q1, .ref q2, .int (nI 0), .ref q3, .null, .int 0, .int 0, .null, .null, .int 0, .null, .int 0, .null, .null]))] ++ [(q1, .inr (1, [.ref u.1, .int (nI 0), .ref u.2.1, .ref u.2.2])), (u.1, .inl (cI, 256, .inl (fun _ => 0))), (u.2.1, .inl (cI, 64, .inl (fun _ => 0))), (u.2.2, .inl (cI, 8, .inl (fun _ => 0)))] ++ [(q2, .inl (cI, 200, .inl (fun _ => 0)))] ++ z_grid q3 cG cI 24 32) := hD
  refine lv_aload_n hx hb dX1_init_41 rfl (lv_at hl 0 rfl) ?_
  refine lv_bipush (v := nI 24) hx hb dX1_init_42 (by decide) ?_
  refine z_newa (atype := .boolean) (cA := cZ) (N' := 24) (a0 := (24, .inl (fun _ => 0))) hx hb (hW _ tw_87) (hK.2 1 _ rfl).2 hP hD hS hA rfl (by decide) (by decide) (by decide) (Nat.le_of_ble_eq_true rfl) (Nat.le_of_ble_eq_true rfl) dX1_init_44 (fun q4 H hP hD hS => ?_)
  refine va_putF (D := D) (ci := 0) (v := .ref q4) (ty := .array .boolean) (C := RX1) (T := TX1) (N := 14) hx hb hW iPL tyX1 tyX1_ok nmX1 hown hK hP hD hS 0 rfl rfl 4 (by decide) (hW _ tw_48) (fun _ h9 => h9) rfl hin rfl (by decide +kernel) rfl rfl (Nat.le_of_ble_eq_true rfl) dX1_init_46 (fun H locs hP hD hS => ?_)
  have hP : va_P D vwCl ([(a, .inr (0, [.ref q1, .ref q2, .int (nI 0), .ref q3, .ref q4, .int 0, .int 0, .null, .null, .int 0, .null, .int 0, .null, .null]))] ++ [(q1, .inr (1, [.ref u.1, .int (nI 0), .ref u.2.1, .ref u.2.2])), (u.1, .inl (cI, 256, .inl (fun _ => 0))), (u.2.1, .inl (cI, 64, .inl (fun _ => 0))), (u.2.2, .inl (cI, 8, .inl (fun _ => 0)))] ++ [(q2, .inl (cI, 200, .inl (fun _ => 0)))] ++ z_grid q3 cG cI 24 32 ++ [(q4, .inl (cZ, 24, .inl (fun _ => 0)))]) H := hP
  have hD : va_D A ([(a, .inr (0, [.ref q1, .ref q2, .int (nI 0), .ref q3, .ref q4, .int 0, .int 0, .null, .null, .int 0, .null, .int 0, .null, .null]))] ++ [(q1, .inr (1, [.ref u.1, .int (nI 0), .ref u.2.1, .ref u.2.2])), (u.1, .inl (cI, 256, .inl (fun _ => 0))), (u.2.1, .inl (cI, 64, .inl (fun _ => 0))), (u.2.2, .inl (cI, 8, .inl (fun _ => 0)))] ++ [(q2, .inl (cI, 200, .inl (fun _ => 0)))] ++ z_grid q3 cG cI 24 32 ++ [(q4, .inl (cZ, 24, .inl (fun _ => 0)))]) := hD
  refine lv_aload_n hx hb dX1_init_49 rfl (lv_at hl 0 rfl) ?_
  refine lv_iconst (v := nI 0) hx hb dX1_init_50 (by decide) ?_
  refine va_put (D := D) (ci := 0) (v := .int (nI 0)) (ty := .int) (C := RX1) (T := TX1) (N := 14) hx hb hW iPL tyX1 tyX1_ok nmX1 hown hK hP hD hS 0 rfl rfl 5 (by decide) (hW _ tw_49) (fun _ h9 => h9) rfl (by decide +kernel) rfl rfl (Nat.le_of_ble_eq_true rfl) dX1_init_51 (fun H locs hP hD hS => ?_)
  have hP : va_P D vwCl ([(a, .inr (0, [.ref q1, .ref q2, .int (nI 0), .ref q3, .ref q4, .int (nI 0), .int 0, .null, .null, .int 0, .null, .int 0, .null, .null]))] ++ [(q1, .inr (1, [.ref u.1, .int (nI 0), .ref u.2.1, .ref u.2.2])), (u.1, .inl (cI, 256, .inl (fun _ => 0))), (u.2.1, .inl (cI, 64, .inl (fun _ => 0))), (u.2.2, .inl (cI, 8, .inl (fun _ => 0)))] ++ [(q2, .inl (cI, 200, .inl (fun _ => 0)))] ++ z_grid q3 cG cI 24 32 ++ [(q4, .inl (cZ, 24, .inl (fun _ => 0)))]) H := hP
  have hD : va_D A ([(a, .inr (0, [.ref q1, .ref q2, .int (nI 0), .ref q3, .ref q4, .int (nI 0), .int 0, .null, .null, .int 0, .null, .int 0, .null, .null]))] ++ [(q1, .inr (1, [.ref u.1, .int (nI 0), .ref u.2.1, .ref u.2.2])), (u.1, .inl (cI, 256, .inl (fun _ => 0))), (u.2.1, .inl (cI, 64, .inl (fun _ => 0))), (u.2.2, .inl (cI, 8, .inl (fun _ => 0)))] ++ [(q2, .inl (cI, 200, .inl (fun _ => 0)))] ++ z_grid q3 cG cI 24 32 ++ [(q4, .inl (cZ, 24, .inl (fun _ => 0)))]) := hD
  refine lv_aload_n hx hb dX1_init_54 rfl (lv_at hl 0 rfl) ?_
  refine lv_iconst (v := nI 0) hx hb dX1_init_55 (by decide) ?_
  refine va_put (D := D) (ci := 0) (v := .int (nI 0)) (ty := .int) (C := RX1) (T := TX1) (N := 14) hx hb hW iPL tyX1 tyX1_ok nmX1 hown hK hP hD hS 0 rfl rfl 6 (by decide) (hW _ tw_50) (fun _ h9 => h9) rfl (by decide +kernel) rfl rfl (Nat.le_of_ble_eq_true rfl) dX1_init_56 (fun H locs hP hD hS => ?_)
  have hP : va_P D vwCl ([(a, .inr (0, [.ref q1, .ref q2, .int (nI 0), .ref q3, .ref q4, .int (nI 0), .int (nI 0), .null, .null, .int 0, .null, .int 0, .null, .null]))] ++ [(q1, .inr (1, [.ref u.1, .int (nI 0), .ref u.2.1, .ref u.2.2])), (u.1, .inl (cI, 256, .inl (fun _ => 0))), (u.2.1, .inl (cI, 64, .inl (fun _ => 0))), (u.2.2, .inl (cI, 8, .inl (fun _ => 0)))] ++ [(q2, .inl (cI, 200, .inl (fun _ => 0)))] ++ z_grid q3 cG cI 24 32 ++ [(q4, .inl (cZ, 24, .inl (fun _ => 0)))]) H := hP
  have hD : va_D A ([(a, .inr (0, [.ref q1, .ref q2, .int (nI 0), .ref q3, .ref q4, .int (nI 0), .int (nI 0), .null, .null, .int 0, .null, .int 0, .null, .null]))] ++ [(q1, .inr (1, [.ref u.1, .int (nI 0), .ref u.2.1, .ref u.2.2])), (u.1, .inl (cI, 256, .inl (fun _ => 0))), (u.2.1, .inl (cI, 64, .inl (fun _ => 0))), (u.2.2, .inl (cI, 8, .inl (fun _ => 0)))] ++ [(q2, .inl (cI, 200, .inl (fun _ => 0)))] ++ z_grid q3 cG cI 24 32 ++ [(q4, .inl (cZ, 24, .inl (fun _ => 0)))]) := hD
  refine lv_aload_n hx hb dX1_init_59 rfl (lv_at hl 0 rfl) ?_
  refine lv_bipush (v := nI 12) hx hb dX1_init_60 (by decide) ?_
  refine lv_bipush (v := nI 32) hx hb dX1_init_62 (by decide) ?_
  refine z_new2 (cG := cG) (cI := cI) (own := RX1) hx hb hown (hW _ tw_42) (z_over (hT.2.2.2 (.arrayOver (.array .int)) (by decide +kernel))) (hW _ tw_41) (hK.2 2 _ rfl).2 (hK.2 0 _ rfl).2 hP hD hS hA 12 32 (by decide) (by decide) (by decide) (by decide) (by decide) (by decide) (Nat.le_of_ble_eq_true rfl) (Nat.le_of_ble_eq_true rfl) dX1_init_64 (fun q5 H hP hD hS => ?_)
  refine va_putF (D := D) (ci := 0) (v := .ref q5) (ty := .array (.array .int)) (C := RX1) (T := TX1) (N := 14) hx hb hW iPL tyX1 tyX1_ok nmX1 hown hK hP hD hS 0 rfl rfl 7 (by decide) (hW _ tw_51) (fun _ h9 => h9) rfl hin rfl (by decide +kernel) rfl rfl (Nat.le_of_ble_eq_true rfl) dX1_init_68 (fun H locs hP hD hS => ?_)
  have hP : va_P D vwCl ([(a, .inr (0, [.ref q1, .ref q2, .int (nI 0), .ref q3, .ref q4, .int (nI 0), .int (nI 0), .ref q5, .null, .int 0, .null, .int 0, .null, .null]))] ++ [(q1, .inr (1, [.ref u.1, .int (nI 0), .ref u.2.1, .ref u.2.2])), (u.1, .inl (cI, 256, .inl (fun _ => 0))), (u.2.1, .inl (cI, 64, .inl (fun _ => 0))), (u.2.2, .inl (cI, 8, .inl (fun _ => 0)))] ++ [(q2, .inl (cI, 200, .inl (fun _ => 0)))] ++ z_grid q3 cG cI 24 32 ++ [(q4, .inl (cZ, 24, .inl (fun _ => 0)))] ++ z_grid q5 cG cI 12 32) H := hP
  have hD : va_D A ([(a, .inr (0, [.ref q1, .ref q2, .int (nI 0), .ref q3, .ref q4, .int (nI 0), .int (nI 0), .ref q5, .null, .int 0, .null, .int 0, .null, .null]))] ++ [(q1, .inr (1, [.ref u.1, .int (nI 0), .ref u.2.1, .ref u.2.2])), (u.1, .inl (cI, 256, .inl (fun _ => 0))), (u.2.1, .inl (cI, 64, .inl (fun _ => 0))), (u.2.2, .inl (cI, 8, .inl (fun _ => 0)))] ++ [(q2, .inl (cI, 200, .inl (fun _ => 0)))] ++ z_grid q3 cG cI 24 32 ++ [(q4, .inl (cZ, 24, .inl (fun _ => 0)))] ++ z_grid q5 cG cI 12 32) := hD
  refine lv_aload_n hx hb dX1_init_71 rfl (lv_at hl 0 rfl) ?_
  refine lv_bipush (v := nI 12) hx hb dX1_init_72 (by decide) ?_
  refine z_newa (atype := .int) (cA := cI) (N' := 12) (a0 := (12, .inl (fun _ => 0))) hx hb (hW _ tw_41) (hK.2 0 _ rfl).2 hP hD hS hA rfl (by decide) (by decide) (by decide) (Nat.le_of_ble_eq_true rfl) (Nat.le_of_ble_eq_true rfl) dX1_init_74 (fun q6 H hP hD hS => ?_)
  refine va_putF (D := D) (ci := 0) (v := .ref q6) (ty := .array .int) (C := RX1) (T := TX1) (N := 14) hx hb hW iPL tyX1 tyX1_ok nmX1 hown hK hP hD hS 0 rfl rfl 8 (by decide) (hW _ tw_52) (fun _ h9 => h9) rfl hin rfl (by decide +kernel) rfl rfl (Nat.le_of_ble_eq_true rfl) dX1_init_76 (fun H locs hP hD hS => ?_)
  have hP : va_P D vwCl ([(a, .inr (0, [.ref q1, .ref q2, .int (nI 0), .ref q3, .ref q4, .int (nI 0), .int (nI 0), .ref q5, .ref q6, .int 0, .null, .int 0, .null, .null]))] ++ [(q1, .inr (1, [.ref u.1, .int (nI 0), .ref u.2.1, .ref u.2.2])), (u.1, .inl (cI, 256, .inl (fun _ => 0))), (u.2.1, .inl (cI, 64, .inl (fun _ => 0))), (u.2.2, .inl (cI, 8, .inl (fun _ => 0)))] ++ [(q2, .inl (cI, 200, .inl (fun _ => 0)))] ++ z_grid q3 cG cI 24 32 ++ [(q4, .inl (cZ, 24, .inl (fun _ => 0)))] ++ z_grid q5 cG cI 12 32 ++ [(q6, .inl (cI, 12, .inl (fun _ => 0)))]) H := hP
  have hD : va_D A ([(a, .inr (0, [.ref q1, .ref q2, .int (nI 0), .ref q3, .ref q4, .int (nI 0), .int (nI 0), .ref q5, .ref q6, .int 0, .null, .int 0, .null, .null]))] ++ [(q1, .inr (1, [.ref u.1, .int (nI 0), .ref u.2.1, .ref u.2.2])), (u.1, .inl (cI, 256, .inl (fun _ => 0))), (u.2.1, .inl (cI, 64, .inl (fun _ => 0))), (u.2.2, .inl (cI, 8, .inl (fun _ => 0)))] ++ [(q2, .inl (cI, 200, .inl (fun _ => 0)))] ++ z_grid q3 cG cI 24 32 ++ [(q4, .inl (cZ, 24, .inl (fun _ => 0)))] ++ z_grid q5 cG cI 12 32 ++ [(q6, .inl (cI, 12, .inl (fun _ => 0)))]) := hD
  refine lv_aload_n hx hb dX1_init_79 rfl (lv_at hl 0 rfl) ?_
  refine lv_iconst (v := nI 0) hx hb dX1_init_80 (by decide) ?_
  refine va_put (D := D) (ci := 0) (v := .int (nI 0)) (ty := .int) (C := RX1) (T := TX1) (N := 14) hx hb hW iPL tyX1 tyX1_ok nmX1 hown hK hP hD hS 0 rfl rfl 9 (by decide) (hW _ tw_53) (fun _ h9 => h9) rfl (by decide +kernel) rfl rfl (Nat.le_of_ble_eq_true rfl) dX1_init_81 (fun H locs hP hD hS => ?_)
  have hP : va_P D vwCl ([(a, .inr (0, [.ref q1, .ref q2, .int (nI 0), .ref q3, .ref q4, .int (nI 0), .int (nI 0), .ref q5, .ref q6, .int (nI 0), .null, .int 0, .null, .null]))] ++ [(q1, .inr (1, [.ref u.1, .int (nI 0), .ref u.2.1, .ref u.2.2])), (u.1, .inl (cI, 256, .inl (fun _ => 0))), (u.2.1, .inl (cI, 64, .inl (fun _ => 0))), (u.2.2, .inl (cI, 8, .inl (fun _ => 0)))] ++ [(q2, .inl (cI, 200, .inl (fun _ => 0)))] ++ z_grid q3 cG cI 24 32 ++ [(q4, .inl (cZ, 24, .inl (fun _ => 0)))] ++ z_grid q5 cG cI 12 32 ++ [(q6, .inl (cI, 12, .inl (fun _ => 0)))]) H := hP
  have hD : va_D A ([(a, .inr (0, [.ref q1, .ref q2, .int (nI 0), .ref q3, .ref q4, .int (nI 0), .int (nI 0), .ref q5, .ref q6, .int (nI 0), .null, .int 0, .null, .null]))] ++ [(q1, .inr (1, [.ref u.1, .int (nI 0), .ref u.2.1, .ref u.2.2])), (u.1, .inl (cI, 256, .inl (fun _ => 0))), (u.2.1, .inl (cI, 64, .inl (fun _ => 0))), (u.2.2, .inl (cI, 8, .inl (fun _ => 0)))] ++ [(q2, .inl (cI, 200, .inl (fun _ => 0)))] ++ z_grid q3 cG cI 24 32 ++ [(q4, .inl (cZ, 24, .inl (fun _ => 0)))] ++ z_grid q5 cG cI 12 32 ++ [(q6, .inl (cI, 12, .inl (fun _ => 0)))]) := hD
  refine lv_aload_n hx hb dX1_init_84 rfl (lv_at hl 0 rfl) ?_
  refine lv_iconst (v := nI 5) hx hb dX1_init_85 (by decide) ?_
  refine lv_bipush (v := nI 32) hx hb dX1_init_86 (by decide) ?_
  refine z_new2 (cG := cG) (cI := cI) (own := RX1) hx hb hown (hW _ tw_42) (z_over (hT.2.2.2 (.arrayOver (.array .int)) (by decide +kernel))) (hW _ tw_41) (hK.2 2 _ rfl).2 (hK.2 0 _ rfl).2 hP hD hS hA 5 32 (by decide) (by decide) (by decide) (by decide) (by decide) (by decide) (Nat.le_of_ble_eq_true rfl) (Nat.le_of_ble_eq_true rfl) dX1_init_88 (fun q7 H hP hD hS => ?_)
  refine va_putF (D := D) (ci := 0) (v := .ref q7) (ty := .array (.array .int)) (C := RX1) (T := TX1) (N := 14) hx hb hW iPL tyX1 tyX1_ok nmX1 hown hK hP hD hS 0 rfl rfl 10 (by decide) (hW _ tw_54) (fun _ h9 => h9) rfl hin rfl (by decide +kernel) rfl rfl (Nat.le_of_ble_eq_true rfl) dX1_init_92 (fun H locs hP hD hS => ?_)
  have hP : va_P D vwCl ([(a, .inr (0, [.ref q1, .ref q2, .int (nI 0), .ref q3, .ref q4, .int (nI 0), .int (nI 0), .ref q5, .ref q6, .int (nI 0), .ref q7, .int 0, .null, .null]))] ++ [(q1, .inr (1, [.ref u.1, .int (nI 0), .ref u.2.1, .ref u.2.2])), (u.1, .inl (cI, 256, .inl (fun _ => 0))), (u.2.1, .inl (cI, 64, .inl (fun _ => 0))), (u.2.2, .inl (cI, 8, .inl (fun _ => 0)))] ++ [(q2, .inl (cI, 200, .inl (fun _ => 0)))] ++ z_grid q3 cG cI 24 32 ++ [(q4, .inl (cZ, 24, .inl (fun _ => 0)))] ++ z_grid q5 cG cI 12 32 ++ [(q6, .inl (cI, 12, .inl (fun _ => 0)))] ++ z_grid q7 cG cI 5 32) H := hP
  have hD : va_D A ([(a, .inr (0, [.ref q1, .ref q2, .int (nI 0), .ref q3, .ref q4, .int (nI 0), .int (nI 0), .ref q5, .ref q6, .int (nI 0), .ref q7, .int 0, .null, .null]))] ++ [(q1, .inr (1, [.ref u.1, .int (nI 0), .ref u.2.1, .ref u.2.2])), (u.1, .inl (cI, 256, .inl (fun _ => 0))), (u.2.1, .inl (cI, 64, .inl (fun _ => 0))), (u.2.2, .inl (cI, 8, .inl (fun _ => 0)))] ++ [(q2, .inl (cI, 200, .inl (fun _ => 0)))] ++ z_grid q3 cG cI 24 32 ++ [(q4, .inl (cZ, 24, .inl (fun _ => 0)))] ++ z_grid q5 cG cI 12 32 ++ [(q6, .inl (cI, 12, .inl (fun _ => 0)))] ++ z_grid q7 cG cI 5 32) := hD
  refine lv_aload_n hx hb dX1_init_95 rfl (lv_at hl 0 rfl) ?_
  refine lv_iconst (v := (-1)) hx hb dX1_init_96 (by decide) ?_
  refine va_put (D := D) (ci := 0) (v := .int (-1)) (ty := .int) (C := RX1) (T := TX1) (N := 14) hx hb hW iPL tyX1 tyX1_ok nmX1 hown hK hP hD hS 0 rfl rfl 11 (by decide) (hW _ tw_55) (fun _ h9 => h9) rfl (by decide +kernel) rfl rfl (Nat.le_of_ble_eq_true rfl) dX1_init_97 (fun H locs hP hD hS => ?_)
  have hP : va_P D vwCl ([(a, .inr (0, [.ref q1, .ref q2, .int (nI 0), .ref q3, .ref q4, .int (nI 0), .int (nI 0), .ref q5, .ref q6, .int (nI 0), .ref q7, .int (-1), .null, .null]))] ++ [(q1, .inr (1, [.ref u.1, .int (nI 0), .ref u.2.1, .ref u.2.2])), (u.1, .inl (cI, 256, .inl (fun _ => 0))), (u.2.1, .inl (cI, 64, .inl (fun _ => 0))), (u.2.2, .inl (cI, 8, .inl (fun _ => 0)))] ++ [(q2, .inl (cI, 200, .inl (fun _ => 0)))] ++ z_grid q3 cG cI 24 32 ++ [(q4, .inl (cZ, 24, .inl (fun _ => 0)))] ++ z_grid q5 cG cI 12 32 ++ [(q6, .inl (cI, 12, .inl (fun _ => 0)))] ++ z_grid q7 cG cI 5 32) H := hP
  have hD : va_D A ([(a, .inr (0, [.ref q1, .ref q2, .int (nI 0), .ref q3, .ref q4, .int (nI 0), .int (nI 0), .ref q5, .ref q6, .int (nI 0), .ref q7, .int (-1), .null, .null]))] ++ [(q1, .inr (1, [.ref u.1, .int (nI 0), .ref u.2.1, .ref u.2.2])), (u.1, .inl (cI, 256, .inl (fun _ => 0))), (u.2.1, .inl (cI, 64, .inl (fun _ => 0))), (u.2.2, .inl (cI, 8, .inl (fun _ => 0)))] ++ [(q2, .inl (cI, 200, .inl (fun _ => 0)))] ++ z_grid q3 cG cI 24 32 ++ [(q4, .inl (cZ, 24, .inl (fun _ => 0)))] ++ z_grid q5 cG cI 12 32 ++ [(q6, .inl (cI, 12, .inl (fun _ => 0)))] ++ z_grid q7 cG cI 5 32) := hD
  refine lv_aload_n hx hb dX1_init_100 rfl (lv_at hl 0 rfl) ?_
  refine lv_bipush (v := nI 24) hx hb dX1_init_101 (by decide) ?_
  refine lv_bipush (v := nI 32) hx hb dX1_init_103 (by decide) ?_
  refine z_new2 (cG := cG) (cI := cI) (own := RX1) hx hb hown (hW _ tw_42) (z_over (hT.2.2.2 (.arrayOver (.array .int)) (by decide +kernel))) (hW _ tw_41) (hK.2 2 _ rfl).2 (hK.2 0 _ rfl).2 hP hD hS hA 24 32 (by decide) (by decide) (by decide) (by decide) (by decide) (by decide) (Nat.le_of_ble_eq_true rfl) (Nat.le_of_ble_eq_true rfl) dX1_init_105 (fun q8 H hP hD hS => ?_)
  refine va_putF (D := D) (ci := 0) (v := .ref q8) (ty := .array (.array .int)) (C := RX1) (T := TX1) (N := 14) hx hb hW iPL tyX1 tyX1_ok nmX1 hown hK hP hD hS 0 rfl rfl 12 (by decide) (hW _ tw_56) (fun _ h9 => h9) rfl hin rfl (by decide +kernel) rfl rfl (Nat.le_of_ble_eq_true rfl) dX1_init_109 (fun H locs hP hD hS => ?_)
  have hP : va_P D vwCl ([(a, .inr (0, [.ref q1, .ref q2, .int (nI 0), .ref q3, .ref q4, .int (nI 0), .int (nI 0), .ref q5, .ref q6, .int (nI 0), .ref q7, .int (-1), .ref q8, .null]))] ++ [(q1, .inr (1, [.ref u.1, .int (nI 0), .ref u.2.1, .ref u.2.2])), (u.1, .inl (cI, 256, .inl (fun _ => 0))), (u.2.1, .inl (cI, 64, .inl (fun _ => 0))), (u.2.2, .inl (cI, 8, .inl (fun _ => 0)))] ++ [(q2, .inl (cI, 200, .inl (fun _ => 0)))] ++ z_grid q3 cG cI 24 32 ++ [(q4, .inl (cZ, 24, .inl (fun _ => 0)))] ++ z_grid q5 cG cI 12 32 ++ [(q6, .inl (cI, 12, .inl (fun _ => 0)))] ++ z_grid q7 cG cI 5 32 ++ z_grid q8 cG cI 24 32) H := hP
  have hD : va_D A ([(a, .inr (0, [.ref q1, .ref q2, .int (nI 0), .ref q3, .ref q4, .int (nI 0), .int (nI 0), .ref q5, .ref q6, .int (nI 0), .ref q7, .int (-1), .ref q8, .null]))] ++ [(q1, .inr (1, [.ref u.1, .int (nI 0), .ref u.2.1, .ref u.2.2])), (u.1, .inl (cI, 256, .inl (fun _ => 0))), (u.2.1, .inl (cI, 64, .inl (fun _ => 0))), (u.2.2, .inl (cI, 8, .inl (fun _ => 0)))] ++ [(q2, .inl (cI, 200, .inl (fun _ => 0)))] ++ z_grid q3 cG cI 24 32 ++ [(q4, .inl (cZ, 24, .inl (fun _ => 0)))] ++ z_grid q5 cG cI 12 32 ++ [(q6, .inl (cI, 12, .inl (fun _ => 0)))] ++ z_grid q7 cG cI 5 32 ++ z_grid q8 cG cI 24 32) := hD
  refine lv_aload_n hx hb dX1_init_112 rfl (lv_at hl 0 rfl) ?_
  refine lv_bipush (v := nI 32) hx hb dX1_init_113 (by decide) ?_
  refine z_newa (atype := .int) (cA := cI) (N' := 32) (a0 := (32, .inl (fun _ => 0))) hx hb (hW _ tw_41) (hK.2 0 _ rfl).2 hP hD hS hA rfl (by decide) (by decide) (by decide) (Nat.le_of_ble_eq_true rfl) (Nat.le_of_ble_eq_true rfl) dX1_init_115 (fun q9 H hP hD hS => ?_)
  refine va_putF (D := D) (ci := 0) (v := .ref q9) (ty := .array .int) (C := RX1) (T := TX1) (N := 14) hx hb hW iPL tyX1 tyX1_ok nmX1 hown hK hP hD hS 0 rfl rfl 13 (by decide) (hW _ tw_57) (fun _ h9 => h9) rfl hin rfl (by decide +kernel) rfl rfl (Nat.le_of_ble_eq_true rfl) dX1_init_117 (fun H locs hP hD hS => ?_)
  have hP : va_P D vwCl ([(a, .inr (0, [.ref q1, .ref q2, .int (nI 0), .ref q3, .ref q4, .int (nI 0), .int (nI 0), .ref q5, .ref q6, .int (nI 0), .ref q7, .int (-1), .ref q8, .ref q9]))] ++ [(q1, .inr (1, [.ref u.1, .int (nI 0), .ref u.2.1, .ref u.2.2])), (u.1, .inl (cI, 256, .inl (fun _ => 0))), (u.2.1, .inl (cI, 64, .inl (fun _ => 0))), (u.2.2, .inl (cI, 8, .inl (fun _ => 0)))] ++ [(q2, .inl (cI, 200, .inl (fun _ => 0)))] ++ z_grid q3 cG cI 24 32 ++ [(q4, .inl (cZ, 24, .inl (fun _ => 0)))] ++ z_grid q5 cG cI 12 32 ++ [(q6, .inl (cI, 12, .inl (fun _ => 0)))] ++ z_grid q7 cG cI 5 32 ++ z_grid q8 cG cI 24 32 ++ [(q9, .inl (cI, 32, .inl (fun _ => 0)))]) H := hP
  have hD : va_D A ([(a, .inr (0, [.ref q1, .ref q2, .int (nI 0), .ref q3, .ref q4, .int (nI 0), .int (nI 0), .ref q5, .ref q6, .int (nI 0), .ref q7, .int (-1), .ref q8, .ref q9]))] ++ [(q1, .inr (1, [.ref u.1, .int (nI 0), .ref u.2.1, .ref u.2.2])), (u.1, .inl (cI, 256, .inl (fun _ => 0))), (u.2.1, .inl (cI, 64, .inl (fun _ => 0))), (u.2.2, .inl (cI, 8, .inl (fun _ => 0)))] ++ [(q2, .inl (cI, 200, .inl (fun _ => 0)))] ++ z_grid q3 cG cI 24 32 ++ [(q4, .inl (cZ, 24, .inl (fun _ => 0)))] ++ z_grid q5 cG cI 12 32 ++ [(q6, .inl (cI, 12, .inl (fun _ => 0)))] ++ z_grid q7 cG cI 5 32 ++ z_grid q8 cG cI 24 32 ++ [(q9, .inl (cI, 32, .inl (fun _ => 0)))]) := hD
  have hg := gPL_ok a q1 q2 q3 q4 q5 q6 q7 q8 q9 u.1 u.2.1 u.2.2 cI cZ cG
  have hP := hP.bys gPL hg
  have hD := hD.bys gPL hg gPL_inj
  exact mk_ret (w1 := fun u : (Nat → Nat) × (Nat → Nat) => wC u.1 u.2 cI cZ cG (nI 0) (nI 0) (nI 0) (nI 0) (-1) (nI 0) (fun _ => 0) (fun _ _ => 0)) (oPL a q1 q3 q5 q7 q8 q4, aPL q2 q6 q9 u.1 u.2.1 u.2.2 q3 q5 q7 q8) rfl hx hb hr hlk hS hP hD dX1_init_120
set_option maxHeartbeats 4000000 in
set_option maxRecDepth 100000 in
theorem md_fill {p : Program} {l : Launch} {e : Env} {R : Room} {s : State} {m : MethodId} {args : Array Value} {below : List Frame} {meth : Method} {c : Code} {H : Heap} {locs : List Loc} {cells slots : Nat} {Q : State → Prop} {ls : Array Slot} {D : va_G} {cl : List vw_C} {A : Nat → Prop} {X : va_W} {H0 : Heap} {q a : Nat} {cI cZ cG : ClassId} (hx : p.tables.exec = Jvm.exec) (hb : c.code = cX2_init) (hown : s.vm.findClass RX2 = some m.cls) (hW : ∀ w ∈ tW, w.before args s = true) (hK : va_K D cl (tC cI cZ cG) s) (hP : va_P D cl (X ++ [(q, .inl (cI, 64, .inl (kup 0)))]) H) (hD : va_D A (X ++ [(q, .inl (cI, 64, .inl (kup 0)))])) (hS : va_S A H0 H locs) (kk : ∀ (H : Heap) (locs : List Loc), va_P D cl (X ++ [(q, .inl (cI, 64, .inl (kup 64)))]) H → va_D A (X ++ [(q, .inl (cI, 64, .inl (kup 64)))]) → va_S A H0 H locs → W p l e R s m args below meth c H locs cells slots Q (F0 m 513 ls [.ref q, .ref a])) : W p l e R s m args below meth c H locs cells slots Q (F0 m 135 ls [.ref q, .ref a]) := by
  refine lv_dup hx hb dX2_init_135 rfl ?_
  refine lv_iconst (v := nI 0) hx hb dX2_init_136 (by decide) ?_
  refine lv_ldc (v := 1116352408) hx hb hown (hW _ tw_450) dX2_init_137 ?_
  refine lv_eqi (v := kc 0) (by decide +kernel) ?_
  refine z_ik (j := 0) hx hb hK rfl hP hD hS (by decide) dX2_init_139 (fun H locs hP hD hS => ?_)
  refine lv_dup hx hb dX2_init_140 rfl ?_
  refine lv_iconst (v := nI 1) hx hb dX2_init_141 (by decide) ?_
  refine lv_ldc (v := 1899447441) hx hb hown (hW _ tw_451) dX2_init_142 ?_
  refine lv_eqi (v := kc 1) (by decide +kernel) ?_
  refine z_ik (j := 1) hx hb hK rfl hP hD hS (by decide) dX2_init_144 (fun H locs hP hD hS => ?_)
  refine lv_dup hx hb dX2_init_145 rfl ?_
  refine lv_iconst (v := nI 2) hx hb dX2_init_146 (by decide) ?_
  refine lv_ldc (v := (-1245643825)) hx hb hown (hW _ tw_452) dX2_init_147 ?_
  refine lv_eqi (v := kc 2) (by decide +kernel) ?_
  refine z_ik (j := 2) hx hb hK rfl hP hD hS (by decide) dX2_init_149 (fun H locs hP hD hS => ?_)
  refine lv_dup hx hb dX2_init_150 rfl ?_
  refine lv_iconst (v := nI 3) hx hb dX2_init_151 (by decide) ?_
  refine lv_ldc (v := (-373957723)) hx hb hown (hW _ tw_453) dX2_init_152 ?_
  refine lv_eqi (v := kc 3) (by decide +kernel) ?_
  refine z_ik (j := 3) hx hb hK rfl hP hD hS (by decide) dX2_init_154 (fun H locs hP hD hS => ?_)
  refine lv_dup hx hb dX2_init_155 rfl ?_
  refine lv_iconst (v := nI 4) hx hb dX2_init_156 (by decide) ?_
  refine lv_ldc (v := 961987163) hx hb hown (hW _ tw_454) dX2_init_157 ?_
  refine lv_eqi (v := kc 4) (by decide +kernel) ?_
  refine z_ik (j := 4) hx hb hK rfl hP hD hS (by decide) dX2_init_159 (fun H locs hP hD hS => ?_)
  refine lv_dup hx hb dX2_init_160 rfl ?_
  refine lv_iconst (v := nI 5) hx hb dX2_init_161 (by decide) ?_
  refine lv_ldc (v := 1508970993) hx hb hown (hW _ tw_455) dX2_init_162 ?_
  refine lv_eqi (v := kc 5) (by decide +kernel) ?_
  refine z_ik (j := 5) hx hb hK rfl hP hD hS (by decide) dX2_init_164 (fun H locs hP hD hS => ?_)
  refine lv_dup hx hb dX2_init_165 rfl ?_
  refine lv_bipush (v := nI 6) hx hb dX2_init_166 (by decide) ?_
  refine lv_ldc (v := (-1841331548)) hx hb hown (hW _ tw_456) dX2_init_168 ?_
  refine lv_eqi (v := kc 6) (by decide +kernel) ?_
  refine z_ik (j := 6) hx hb hK rfl hP hD hS (by decide) dX2_init_170 (fun H locs hP hD hS => ?_)
  refine lv_dup hx hb dX2_init_171 rfl ?_
  refine lv_bipush (v := nI 7) hx hb dX2_init_172 (by decide) ?_
  refine lv_ldc (v := (-1424204075)) hx hb hown (hW _ tw_457) dX2_init_174 ?_
  refine lv_eqi (v := kc 7) (by decide +kernel) ?_
  refine z_ik (j := 7) hx hb hK rfl hP hD hS (by decide) dX2_init_176 (fun H locs hP hD hS => ?_)
  refine lv_dup hx hb dX2_init_177 rfl ?_
  refine lv_bipush (v := nI 8) hx hb dX2_init_178 (by decide) ?_
  refine lv_ldc (v := (-670586216)) hx hb hown (hW _ tw_458) dX2_init_180 ?_
  refine lv_eqi (v := kc 8) (by decide +kernel) ?_
  refine z_ik (j := 8) hx hb hK rfl hP hD hS (by decide) dX2_init_182 (fun H locs hP hD hS => ?_)
  refine lv_dup hx hb dX2_init_183 rfl ?_
  refine lv_bipush (v := nI 9) hx hb dX2_init_184 (by decide) ?_
  refine lv_ldc (v := 310598401) hx hb hown (hW _ tw_459) dX2_init_186 ?_
  refine lv_eqi (v := kc 9) (by decide +kernel) ?_
  refine z_ik (j := 9) hx hb hK rfl hP hD hS (by decide) dX2_init_188 (fun H locs hP hD hS => ?_)
  refine lv_dup hx hb dX2_init_189 rfl ?_
  refine lv_bipush (v := nI 10) hx hb dX2_init_190 (by decide) ?_
  refine lv_ldc (v := 607225278) hx hb hown (hW _ tw_460) dX2_init_192 ?_
  refine lv_eqi (v := kc 10) (by decide +kernel) ?_
  refine z_ik (j := 10) hx hb hK rfl hP hD hS (by decide) dX2_init_194 (fun H locs hP hD hS => ?_)
  refine lv_dup hx hb dX2_init_195 rfl ?_
  refine lv_bipush (v := nI 11) hx hb dX2_init_196 (by decide) ?_
  refine lv_ldc (v := 1426881987) hx hb hown (hW _ tw_461) dX2_init_198 ?_
  refine lv_eqi (v := kc 11) (by decide +kernel) ?_
  refine z_ik (j := 11) hx hb hK rfl hP hD hS (by decide) dX2_init_200 (fun H locs hP hD hS => ?_)
  refine lv_dup hx hb dX2_init_201 rfl ?_
  refine lv_bipush (v := nI 12) hx hb dX2_init_202 (by decide) ?_
  refine lv_ldc (v := 1925078388) hx hb hown (hW _ tw_462) dX2_init_204 ?_
  refine lv_eqi (v := kc 12) (by decide +kernel) ?_
  refine z_ik (j := 12) hx hb hK rfl hP hD hS (by decide) dX2_init_206 (fun H locs hP hD hS => ?_)
  refine lv_dup hx hb dX2_init_207 rfl ?_
  refine lv_bipush (v := nI 13) hx hb dX2_init_208 (by decide) ?_
  refine lv_ldc (v := (-2132889090)) hx hb hown (hW _ tw_463) dX2_init_210 ?_
  refine lv_eqi (v := kc 13) (by decide +kernel) ?_
  refine z_ik (j := 13) hx hb hK rfl hP hD hS (by decide) dX2_init_212 (fun H locs hP hD hS => ?_)
  refine lv_dup hx hb dX2_init_213 rfl ?_
  refine lv_bipush (v := nI 14) hx hb dX2_init_214 (by decide) ?_
  refine lv_ldc (v := (-1680079193)) hx hb hown (hW _ tw_464) dX2_init_216 ?_
  refine lv_eqi (v := kc 14) (by decide +kernel) ?_
  refine z_ik (j := 14) hx hb hK rfl hP hD hS (by decide) dX2_init_218 (fun H locs hP hD hS => ?_)
  refine lv_dup hx hb dX2_init_219 rfl ?_
  refine lv_bipush (v := nI 15) hx hb dX2_init_220 (by decide) ?_
  refine lv_ldc (v := (-1046744716)) hx hb hown (hW _ tw_465) dX2_init_222 ?_
  refine lv_eqi (v := kc 15) (by decide +kernel) ?_
  refine z_ik (j := 15) hx hb hK rfl hP hD hS (by decide) dX2_init_224 (fun H locs hP hD hS => ?_)
  refine lv_dup hx hb dX2_init_225 rfl ?_
  refine lv_bipush (v := nI 16) hx hb dX2_init_226 (by decide) ?_
  refine lv_ldc (v := (-459576895)) hx hb hown (hW _ tw_466) dX2_init_228 ?_
  refine lv_eqi (v := kc 16) (by decide +kernel) ?_
  refine z_ik (j := 16) hx hb hK rfl hP hD hS (by decide) dX2_init_230 (fun H locs hP hD hS => ?_)
  refine lv_dup hx hb dX2_init_231 rfl ?_
  refine lv_bipush (v := nI 17) hx hb dX2_init_232 (by decide) ?_
  refine lv_ldc (v := (-272742522)) hx hb hown (hW _ tw_467) dX2_init_234 ?_
  refine lv_eqi (v := kc 17) (by decide +kernel) ?_
  refine z_ik (j := 17) hx hb hK rfl hP hD hS (by decide) dX2_init_236 (fun H locs hP hD hS => ?_)
  refine lv_dup hx hb dX2_init_237 rfl ?_
  refine lv_bipush (v := nI 18) hx hb dX2_init_238 (by decide) ?_
  refine lv_ldc (v := 264347078) hx hb hown (hW _ tw_468) dX2_init_240 ?_
  refine lv_eqi (v := kc 18) (by decide +kernel) ?_
  refine z_ik (j := 18) hx hb hK rfl hP hD hS (by decide) dX2_init_242 (fun H locs hP hD hS => ?_)
  refine lv_dup hx hb dX2_init_243 rfl ?_
  refine lv_bipush (v := nI 19) hx hb dX2_init_244 (by decide) ?_
  refine lv_ldc (v := 604807628) hx hb hown (hW _ tw_469) dX2_init_246 ?_
  refine lv_eqi (v := kc 19) (by decide +kernel) ?_
  refine z_ik (j := 19) hx hb hK rfl hP hD hS (by decide) dX2_init_248 (fun H locs hP hD hS => ?_)
  refine lv_dup hx hb dX2_init_249 rfl ?_
  refine lv_bipush (v := nI 20) hx hb dX2_init_250 (by decide) ?_
  refine lv_ldc (v := 770255983) hx hb hown (hW _ tw_470) dX2_init_252 ?_
  refine lv_eqi (v := kc 20) (by decide +kernel) ?_
  refine z_ik (j := 20) hx hb hK rfl hP hD hS (by decide) dX2_init_254 (fun H locs hP hD hS => ?_)
  refine lv_dup hx hb dX2_init_255 rfl ?_
  refine lv_bipush (v := nI 21) hx hb dX2_init_256 (by decide) ?_
  refine lv_ldc (v := 1249150122) hx hb hown (hW _ tw_471) dX2_init_258 ?_
  refine lv_eqi (v := kc 21) (by decide +kernel) ?_
  refine z_ik (j := 21) hx hb hK rfl hP hD hS (by decide) dX2_init_260 (fun H locs hP hD hS => ?_)
  refine lv_dup hx hb dX2_init_261 rfl ?_
  refine lv_bipush (v := nI 22) hx hb dX2_init_262 (by decide) ?_
  refine lv_ldc (v := 1555081692) hx hb hown (hW _ tw_472) dX2_init_264 ?_
  refine lv_eqi (v := kc 22) (by decide +kernel) ?_
  refine z_ik (j := 22) hx hb hK rfl hP hD hS (by decide) dX2_init_266 (fun H locs hP hD hS => ?_)
  refine lv_dup hx hb dX2_init_267 rfl ?_
  refine lv_bipush (v := nI 23) hx hb dX2_init_268 (by decide) ?_
  refine lv_ldc (v := 1996064986) hx hb hown (hW _ tw_473) dX2_init_270 ?_
  refine lv_eqi (v := kc 23) (by decide +kernel) ?_
  refine z_ik (j := 23) hx hb hK rfl hP hD hS (by decide) dX2_init_272 (fun H locs hP hD hS => ?_)
  refine lv_dup hx hb dX2_init_273 rfl ?_
  refine lv_bipush (v := nI 24) hx hb dX2_init_274 (by decide) ?_
  refine lv_ldc (v := (-1740746414)) hx hb hown (hW _ tw_474) dX2_init_276 ?_
  refine lv_eqi (v := kc 24) (by decide +kernel) ?_
  refine z_ik (j := 24) hx hb hK rfl hP hD hS (by decide) dX2_init_278 (fun H locs hP hD hS => ?_)
  refine lv_dup hx hb dX2_init_279 rfl ?_
  refine lv_bipush (v := nI 25) hx hb dX2_init_280 (by decide) ?_
  refine lv_ldc (v := (-1473132947)) hx hb hown (hW _ tw_475) dX2_init_282 ?_
  refine lv_eqi (v := kc 25) (by decide +kernel) ?_
  refine z_ik (j := 25) hx hb hK rfl hP hD hS (by decide) dX2_init_284 (fun H locs hP hD hS => ?_)
  refine lv_dup hx hb dX2_init_285 rfl ?_
  refine lv_bipush (v := nI 26) hx hb dX2_init_286 (by decide) ?_
  refine lv_ldc (v := (-1341970488)) hx hb hown (hW _ tw_476) dX2_init_288 ?_
  refine lv_eqi (v := kc 26) (by decide +kernel) ?_
  refine z_ik (j := 26) hx hb hK rfl hP hD hS (by decide) dX2_init_290 (fun H locs hP hD hS => ?_)
  refine lv_dup hx hb dX2_init_291 rfl ?_
  refine lv_bipush (v := nI 27) hx hb dX2_init_292 (by decide) ?_
  refine lv_ldc (v := (-1084653625)) hx hb hown (hW _ tw_477) dX2_init_294 ?_
  refine lv_eqi (v := kc 27) (by decide +kernel) ?_
  refine z_ik (j := 27) hx hb hK rfl hP hD hS (by decide) dX2_init_296 (fun H locs hP hD hS => ?_)
  refine lv_dup hx hb dX2_init_297 rfl ?_
  refine lv_bipush (v := nI 28) hx hb dX2_init_298 (by decide) ?_
  refine lv_ldc (v := (-958395405)) hx hb hown (hW _ tw_478) dX2_init_300 ?_
  refine lv_eqi (v := kc 28) (by decide +kernel) ?_
  refine z_ik (j := 28) hx hb hK rfl hP hD hS (by decide) dX2_init_302 (fun H locs hP hD hS => ?_)
  refine lv_dup hx hb dX2_init_303 rfl ?_
  refine lv_bipush (v := nI 29) hx hb dX2_init_304 (by decide) ?_
  refine lv_ldc (v := (-710438585)) hx hb hown (hW _ tw_479) dX2_init_306 ?_
  refine lv_eqi (v := kc 29) (by decide +kernel) ?_
  refine z_ik (j := 29) hx hb hK rfl hP hD hS (by decide) dX2_init_308 (fun H locs hP hD hS => ?_)
  refine lv_dup hx hb dX2_init_309 rfl ?_
  refine lv_bipush (v := nI 30) hx hb dX2_init_310 (by decide) ?_
  refine lv_ldc (v := 113926993) hx hb hown (hW _ tw_480) dX2_init_312 ?_
  refine lv_eqi (v := kc 30) (by decide +kernel) ?_
  refine z_ik (j := 30) hx hb hK rfl hP hD hS (by decide) dX2_init_314 (fun H locs hP hD hS => ?_)
  refine lv_dup hx hb dX2_init_315 rfl ?_
  refine lv_bipush (v := nI 31) hx hb dX2_init_316 (by decide) ?_
  refine lv_ldc (v := 338241895) hx hb hown (hW _ tw_481) dX2_init_318 ?_
  refine lv_eqi (v := kc 31) (by decide +kernel) ?_
  refine z_ik (j := 31) hx hb hK rfl hP hD hS (by decide) dX2_init_320 (fun H locs hP hD hS => ?_)
  refine lv_dup hx hb dX2_init_321 rfl ?_
  refine lv_bipush (v := nI 32) hx hb dX2_init_322 (by decide) ?_
  refine lv_ldc (v := 666307205) hx hb hown (hW _ tw_482) dX2_init_324 ?_
  refine lv_eqi (v := kc 32) (by decide +kernel) ?_
  refine z_ik (j := 32) hx hb hK rfl hP hD hS (by decide) dX2_init_326 (fun H locs hP hD hS => ?_)
  refine lv_dup hx hb dX2_init_327 rfl ?_
  refine lv_bipush (v := nI 33) hx hb dX2_init_328 (by decide) ?_
  refine lv_ldc (v := 773529912) hx hb hown (hW _ tw_483) dX2_init_330 ?_
  refine lv_eqi (v := kc 33) (by decide +kernel) ?_
  refine z_ik (j := 33) hx hb hK rfl hP hD hS (by decide) dX2_init_332 (fun H locs hP hD hS => ?_)
  refine lv_dup hx hb dX2_init_333 rfl ?_
  refine lv_bipush (v := nI 34) hx hb dX2_init_334 (by decide) ?_
  refine lv_ldc (v := 1294757372) hx hb hown (hW _ tw_484) dX2_init_336 ?_
  refine lv_eqi (v := kc 34) (by decide +kernel) ?_
  refine z_ik (j := 34) hx hb hK rfl hP hD hS (by decide) dX2_init_338 (fun H locs hP hD hS => ?_)
  refine lv_dup hx hb dX2_init_339 rfl ?_
  refine lv_bipush (v := nI 35) hx hb dX2_init_340 (by decide) ?_
  refine lv_ldc (v := 1396182291) hx hb hown (hW _ tw_485) dX2_init_342 ?_
  refine lv_eqi (v := kc 35) (by decide +kernel) ?_
  refine z_ik (j := 35) hx hb hK rfl hP hD hS (by decide) dX2_init_344 (fun H locs hP hD hS => ?_)
  refine lv_dup hx hb dX2_init_345 rfl ?_
  refine lv_bipush (v := nI 36) hx hb dX2_init_346 (by decide) ?_
  refine lv_ldc (v := 1695183700) hx hb hown (hW _ tw_486) dX2_init_348 ?_
  refine lv_eqi (v := kc 36) (by decide +kernel) ?_
  refine z_ik (j := 36) hx hb hK rfl hP hD hS (by decide) dX2_init_350 (fun H locs hP hD hS => ?_)
  refine lv_dup hx hb dX2_init_351 rfl ?_
  refine lv_bipush (v := nI 37) hx hb dX2_init_352 (by decide) ?_
  refine lv_ldc (v := 1986661051) hx hb hown (hW _ tw_487) dX2_init_354 ?_
  refine lv_eqi (v := kc 37) (by decide +kernel) ?_
  refine z_ik (j := 37) hx hb hK rfl hP hD hS (by decide) dX2_init_356 (fun H locs hP hD hS => ?_)
  refine lv_dup hx hb dX2_init_357 rfl ?_
  refine lv_bipush (v := nI 38) hx hb dX2_init_358 (by decide) ?_
  refine lv_ldc (v := (-2117940946)) hx hb hown (hW _ tw_488) dX2_init_360 ?_
  refine lv_eqi (v := kc 38) (by decide +kernel) ?_
  refine z_ik (j := 38) hx hb hK rfl hP hD hS (by decide) dX2_init_362 (fun H locs hP hD hS => ?_)
  refine lv_dup hx hb dX2_init_363 rfl ?_
  refine lv_bipush (v := nI 39) hx hb dX2_init_364 (by decide) ?_
  refine lv_ldc (v := (-1838011259)) hx hb hown (hW _ tw_489) dX2_init_366 ?_
  refine lv_eqi (v := kc 39) (by decide +kernel) ?_
  refine z_ik (j := 39) hx hb hK rfl hP hD hS (by decide) dX2_init_368 (fun H locs hP hD hS => ?_)
  refine lv_dup hx hb dX2_init_369 rfl ?_
  refine lv_bipush (v := nI 40) hx hb dX2_init_370 (by decide) ?_
  refine lv_ldc (v := (-1564481375)) hx hb hown (hW _ tw_490) dX2_init_372 ?_
  refine lv_eqi (v := kc 40) (by decide +kernel) ?_
  refine z_ik (j := 40) hx hb hK rfl hP hD hS (by decide) dX2_init_374 (fun H locs hP hD hS => ?_)
  refine lv_dup hx hb dX2_init_375 rfl ?_
  refine lv_bipush (v := nI 41) hx hb dX2_init_376 (by decide) ?_
  refine lv_ldc (v := (-1474664885)) hx hb hown (hW _ tw_491) dX2_init_378 ?_
  refine lv_eqi (v := kc 41) (by decide +kernel) ?_
  refine z_ik (j := 41) hx hb hK rfl hP hD hS (by decide) dX2_init_380 (fun H locs hP hD hS => ?_)
  refine lv_dup hx hb dX2_init_381 rfl ?_
  refine lv_bipush (v := nI 42) hx hb dX2_init_382 (by decide) ?_
  refine lv_ldc (v := (-1035236496)) hx hb hown (hW _ tw_492) dX2_init_384 ?_
  refine lv_eqi (v := kc 42) (by decide +kernel) ?_
  refine z_ik (j := 42) hx hb hK rfl hP hD hS (by decide) dX2_init_386 (fun H locs hP hD hS => ?_)
  refine lv_dup hx hb dX2_init_387 rfl ?_
  refine lv_bipush (v := nI 43) hx hb dX2_init_388 (by decide) ?_
  refine lv_ldc (v := (-949202525)) hx hb hown (hW _ tw_493) dX2_init_390 ?_
  refine lv_eqi (v := kc 43) (by decide +kernel) ?_
  refine z_ik (j := 43) hx hb hK rfl hP hD hS (by decide) dX2_init_392 (fun H locs hP hD hS => ?_)
  refine lv_dup hx hb dX2_init_393 rfl ?_
  refine lv_bipush (v := nI 44) hx hb dX2_init_394 (by decide) ?_
  refine lv_ldc (v := (-778901479)) hx hb hown (hW _ tw_494) dX2_init_396 ?_
  refine lv_eqi (v := kc 44) (by decide +kernel) ?_
  refine z_ik (j := 44) hx hb hK rfl hP hD hS (by decide) dX2_init_398 (fun H locs hP hD hS => ?_)
  refine lv_dup hx hb dX2_init_399 rfl ?_
  refine lv_bipush (v := nI 45) hx hb dX2_init_400 (by decide) ?_
  refine lv_ldc (v := (-694614492)) hx hb hown (hW _ tw_495) dX2_init_402 ?_
  refine lv_eqi (v := kc 45) (by decide +kernel) ?_
  refine z_ik (j := 45) hx hb hK rfl hP hD hS (by decide) dX2_init_404 (fun H locs hP hD hS => ?_)
  refine lv_dup hx hb dX2_init_405 rfl ?_
  refine lv_bipush (v := nI 46) hx hb dX2_init_406 (by decide) ?_
  refine lv_ldc (v := (-200395387)) hx hb hown (hW _ tw_496) dX2_init_408 ?_
  refine lv_eqi (v := kc 46) (by decide +kernel) ?_
  refine z_ik (j := 46) hx hb hK rfl hP hD hS (by decide) dX2_init_410 (fun H locs hP hD hS => ?_)
  refine lv_dup hx hb dX2_init_411 rfl ?_
  refine lv_bipush (v := nI 47) hx hb dX2_init_412 (by decide) ?_
  refine lv_ldc (v := 275423344) hx hb hown (hW _ tw_497) dX2_init_414 ?_
  refine lv_eqi (v := kc 47) (by decide +kernel) ?_
  refine z_ik (j := 47) hx hb hK rfl hP hD hS (by decide) dX2_init_416 (fun H locs hP hD hS => ?_)
  refine lv_dup hx hb dX2_init_417 rfl ?_
  refine lv_bipush (v := nI 48) hx hb dX2_init_418 (by decide) ?_
  refine lv_ldc (v := 430227734) hx hb hown (hW _ tw_498) dX2_init_420 ?_
  refine lv_eqi (v := kc 48) (by decide +kernel) ?_
  refine z_ik (j := 48) hx hb hK rfl hP hD hS (by decide) dX2_init_422 (fun H locs hP hD hS => ?_)
  refine lv_dup hx hb dX2_init_423 rfl ?_
  refine lv_bipush (v := nI 49) hx hb dX2_init_424 (by decide) ?_
  refine lv_ldc (v := 506948616) hx hb hown (hW _ tw_499) dX2_init_426 ?_
  refine lv_eqi (v := kc 49) (by decide +kernel) ?_
  refine z_ik (j := 49) hx hb hK rfl hP hD hS (by decide) dX2_init_428 (fun H locs hP hD hS => ?_)
  refine lv_dup hx hb dX2_init_429 rfl ?_
  refine lv_bipush (v := nI 50) hx hb dX2_init_430 (by decide) ?_
  refine lv_ldc (v := 659060556) hx hb hown (hW _ tw_500) dX2_init_432 ?_
  refine lv_eqi (v := kc 50) (by decide +kernel) ?_
  refine z_ik (j := 50) hx hb hK rfl hP hD hS (by decide) dX2_init_434 (fun H locs hP hD hS => ?_)
  refine lv_dup hx hb dX2_init_435 rfl ?_
  refine lv_bipush (v := nI 51) hx hb dX2_init_436 (by decide) ?_
  refine lv_ldc (v := 883997877) hx hb hown (hW _ tw_501) dX2_init_438 ?_
  refine lv_eqi (v := kc 51) (by decide +kernel) ?_
  refine z_ik (j := 51) hx hb hK rfl hP hD hS (by decide) dX2_init_440 (fun H locs hP hD hS => ?_)
  refine lv_dup hx hb dX2_init_441 rfl ?_
  refine lv_bipush (v := nI 52) hx hb dX2_init_442 (by decide) ?_
  refine lv_ldc (v := 958139571) hx hb hown (hW _ tw_502) dX2_init_444 ?_
  refine lv_eqi (v := kc 52) (by decide +kernel) ?_
  refine z_ik (j := 52) hx hb hK rfl hP hD hS (by decide) dX2_init_446 (fun H locs hP hD hS => ?_)
  refine lv_dup hx hb dX2_init_447 rfl ?_
  refine lv_bipush (v := nI 53) hx hb dX2_init_448 (by decide) ?_
  refine lv_ldc (v := 1322822218) hx hb hown (hW _ tw_503) dX2_init_450 ?_
  refine lv_eqi (v := kc 53) (by decide +kernel) ?_
  refine z_ik (j := 53) hx hb hK rfl hP hD hS (by decide) dX2_init_452 (fun H locs hP hD hS => ?_)
  refine lv_dup hx hb dX2_init_453 rfl ?_
  refine lv_bipush (v := nI 54) hx hb dX2_init_454 (by decide) ?_
  refine lv_ldc (v := 1537002063) hx hb hown (hW _ tw_504) dX2_init_456 ?_
  refine lv_eqi (v := kc 54) (by decide +kernel) ?_
  refine z_ik (j := 54) hx hb hK rfl hP hD hS (by decide) dX2_init_458 (fun H locs hP hD hS => ?_)
  refine lv_dup hx hb dX2_init_459 rfl ?_
  refine lv_bipush (v := nI 55) hx hb dX2_init_460 (by decide) ?_
  refine lv_ldc (v := 1747873779) hx hb hown (hW _ tw_505) dX2_init_462 ?_
  refine lv_eqi (v := kc 55) (by decide +kernel) ?_
  refine z_ik (j := 55) hx hb hK rfl hP hD hS (by decide) dX2_init_464 (fun H locs hP hD hS => ?_)
  refine lv_dup hx hb dX2_init_465 rfl ?_
  refine lv_bipush (v := nI 56) hx hb dX2_init_466 (by decide) ?_
  refine lv_ldc (v := 1955562222) hx hb hown (hW _ tw_506) dX2_init_468 ?_
  refine lv_eqi (v := kc 56) (by decide +kernel) ?_
  refine z_ik (j := 56) hx hb hK rfl hP hD hS (by decide) dX2_init_470 (fun H locs hP hD hS => ?_)
  refine lv_dup hx hb dX2_init_471 rfl ?_
  refine lv_bipush (v := nI 57) hx hb dX2_init_472 (by decide) ?_
  refine lv_ldc (v := 2024104815) hx hb hown (hW _ tw_507) dX2_init_474 ?_
  refine lv_eqi (v := kc 57) (by decide +kernel) ?_
  refine z_ik (j := 57) hx hb hK rfl hP hD hS (by decide) dX2_init_476 (fun H locs hP hD hS => ?_)
  refine lv_dup hx hb dX2_init_477 rfl ?_
  refine lv_bipush (v := nI 58) hx hb dX2_init_478 (by decide) ?_
  refine lv_ldc (v := (-2067236844)) hx hb hown (hW _ tw_508) dX2_init_480 ?_
  refine lv_eqi (v := kc 58) (by decide +kernel) ?_
  refine z_ik (j := 58) hx hb hK rfl hP hD hS (by decide) dX2_init_482 (fun H locs hP hD hS => ?_)
  refine lv_dup hx hb dX2_init_483 rfl ?_
  refine lv_bipush (v := nI 59) hx hb dX2_init_484 (by decide) ?_
  refine lv_ldc (v := (-1933114872)) hx hb hown (hW _ tw_509) dX2_init_486 ?_
  refine lv_eqi (v := kc 59) (by decide +kernel) ?_
  refine z_ik (j := 59) hx hb hK rfl hP hD hS (by decide) dX2_init_488 (fun H locs hP hD hS => ?_)
  refine lv_dup hx hb dX2_init_489 rfl ?_
  refine lv_bipush (v := nI 60) hx hb dX2_init_490 (by decide) ?_
  refine lv_ldc (v := (-1866530822)) hx hb hown (hW _ tw_510) dX2_init_492 ?_
  refine lv_eqi (v := kc 60) (by decide +kernel) ?_
  refine z_ik (j := 60) hx hb hK rfl hP hD hS (by decide) dX2_init_494 (fun H locs hP hD hS => ?_)
  refine lv_dup hx hb dX2_init_495 rfl ?_
  refine lv_bipush (v := nI 61) hx hb dX2_init_496 (by decide) ?_
  refine lv_ldc (v := (-1538233109)) hx hb hown (hW _ tw_511) dX2_init_498 ?_
  refine lv_eqi (v := kc 61) (by decide +kernel) ?_
  refine z_ik (j := 61) hx hb hK rfl hP hD hS (by decide) dX2_init_500 (fun H locs hP hD hS => ?_)
  refine lv_dup hx hb dX2_init_501 rfl ?_
  refine lv_bipush (v := nI 62) hx hb dX2_init_502 (by decide) ?_
  refine lv_ldc (v := (-1090935817)) hx hb hown (hW _ tw_512) dX2_init_504 ?_
  refine lv_eqi (v := kc 62) (by decide +kernel) ?_
  refine z_ik (j := 62) hx hb hK rfl hP hD hS (by decide) dX2_init_506 (fun H locs hP hD hS => ?_)
  refine lv_dup hx hb dX2_init_507 rfl ?_
  refine lv_bipush (v := nI 63) hx hb dX2_init_508 (by decide) ?_
  refine lv_ldc (v := (-965641998)) hx hb hown (hW _ tw_513) dX2_init_510 ?_
  refine lv_eqi (v := kc 63) (by decide +kernel) ?_
  refine z_ik (j := 63) hx hb hK rfl hP hD hS (by decide) dX2_init_512 (fun H locs hP hD hS => ?_)
  exact kk H locs hP hD hS
def gMD (k : Nat) : Nat := [0, 3, 15, 1, 4, 8, 7, 9, 10, 2, 5, 6, 11, 12, 13, 14, 16].getD k 0
theorem gMD_inj : ∀ i j : Nat, i < 17 → j < 17 → gMD i = gMD j → i = j := by
  have h : ∀ i, i < 17 → ∀ j, j < 17 → gMD i = gMD j → i = j := by decide +kernel
  exact fun i j hi hj e => h i hi j hj e
def oMD (a q1 q2 k : Nat) : Nat := match k with
  | 0 => a
  | 1 => q1
  | _ => q2
def aMD (q1 q4 q8 q7 q9 q10 q2 q5 q6 q11 q12 q13 q14 q16 k : Nat) : Nat := [q1, q4, q8, q7, q9, q10, q2, q5, q6, q11, q12, q13, q14, q16].getD k 0
/-- the reference's arrays as the constructor lays them -/
def mZ (k : Nat) : Nat → Int32 := match k with
  | 13 => kup 64
  | _ => fun _ => 0
set_option maxRecDepth 100000 in
theorem gMD_ok (a q1 q2 q3 q4 q5 q6 q7 q8 q9 q10 q11 q12 q13 q14 q15 q16 : Nat) (cI cZ : ClassId) (k : Nat) (z : Nat × va_E) (h : (wM (oMD a q3 q15) (aMD q1 q4 q8 q7 q9 q10 q2 q5 q6 q11 q12 q13 q14 q16) cI cZ (nI 0) (nI 0) (nI 0) (nI 0) (nI 0) (nI 0) (nI 0) (nI 0) (nI 0) (fun _ => 0) (fun _ => 0) mZ)[k]? = some z) : ∃ x, ([(a, .inr (2, [.int 0, .int 0, .ref q1, .int 0, .ref q2, .ref q3, .int 0, .ref q4, .ref q5, .int 0, .int 0, .ref q6, .int 0, .ref q7, .ref q8, .ref q9, .ref q10, .int 0, .ref q11, .ref q12, .int 0, .ref q13, .ref q14, .ref q15, .ref q16])), (q1, .inl (cI, 200, .inl (fun _ => 0))), (q2, .inl (cI, 768, .inl (fun _ => 0))), (q3, .inl (cZ, 24, .inl (fun _ => 0))), (q4, .inl (cI, 12, .inl (fun _ => 0))), (q5, .inl (cI, 384, .inl (fun _ => 0))), (q6, .inl (cI, 320, .inl (fun _ => 0))), (q7, .inl (cI, 256, .inl (fun _ => 0))), (q8, .inl (cI, 32, .inl (fun _ => 0))), (q9, .inl (cI, 64, .inl (fun _ => 0))), (q10, .inl (cI, 8, .inl (fun _ => 0))), (q11, .inl (cI, 256, .inl (fun _ => 0))), (q12, .inl (cI, 8, .inl (fun _ => 0))), (q13, .inl (cI, 8, .inl (fun _ => 0))), (q14, .inl (cI, 8, .inl (fun _ => 0))), (q15, .inl (cZ, 8, .inl (fun _ => 0))), (q16, .inl (cI, 64, .inl (kup 64)))] : va_W)[gMD k]? = some x ∧ simE x z := by
  have hlt : k < 17 := (List.getElem?_eq_some_iff.mp h).1
  match k, hlt, h with
  | 0, _, h =>
    have h := Option.some.inj h
    subst h
    exact ⟨_, rfl, rfl, Or.inl rfl⟩
  | 1, _, h =>
    have h := Option.some.inj h
    subst h
    exact ⟨_, rfl, rfl, Or.inl rfl⟩
  | 2, _, h =>
    have h := Option.some.inj h
    subst h
    exact ⟨_, rfl, rfl, Or.inl rfl⟩
  | 3, _, h =>
    have h := Option.some.inj h
    subst h
    exact ⟨_, rfl, rfl, Or.inl rfl⟩
  | 4, _, h =>
    have h := Option.some.inj h
    subst h
    exact ⟨_, rfl, rfl, Or.inl rfl⟩
  | 5, _, h =>
    have h := Option.some.inj h
    subst h
    exact ⟨_, rfl, rfl, Or.inl rfl⟩
  | 6, _, h =>
    have h := Option.some.inj h
    subst h
    exact ⟨_, rfl, rfl, Or.inl rfl⟩
  | 7, _, h =>
    have h := Option.some.inj h
    subst h
    exact ⟨_, rfl, rfl, Or.inl rfl⟩
  | 8, _, h =>
    have h := Option.some.inj h
    subst h
    exact ⟨_, rfl, rfl, Or.inl rfl⟩
  | 9, _, h =>
    have h := Option.some.inj h
    subst h
    exact ⟨_, rfl, rfl, Or.inl rfl⟩
  | 10, _, h =>
    have h := Option.some.inj h
    subst h
    exact ⟨_, rfl, rfl, Or.inl rfl⟩
  | 11, _, h =>
    have h := Option.some.inj h
    subst h
    exact ⟨_, rfl, rfl, Or.inl rfl⟩
  | 12, _, h =>
    have h := Option.some.inj h
    subst h
    exact ⟨_, rfl, rfl, Or.inl rfl⟩
  | 13, _, h =>
    have h := Option.some.inj h
    subst h
    exact ⟨_, rfl, rfl, Or.inl rfl⟩
  | 14, _, h =>
    have h := Option.some.inj h
    subst h
    exact ⟨_, rfl, rfl, Or.inl rfl⟩
  | 15, _, h =>
    have h := Option.some.inj h
    subst h
    exact ⟨_, rfl, rfl, Or.inl rfl⟩
  | 16, _, h =>
    have h := Option.some.inj h
    subst h
    exact ⟨_, rfl, rfl, Or.inl rfl⟩
set_option maxHeartbeats 4000000 in
set_option maxRecDepth 100000 in
theorem c_md_init {l : Launch} {D : va_G} {cI cZ cG : ClassId} (a : Nat) : MK l nE yX2_init (.code yX2_init cX2_init 1 none :: tW) ({ frames := 2, cells := 16, slots := 2420, locals := 60 }) D vwCl (tC cI cZ cG) [.ref a] ([(a, .inr (2, [.int 0, .int 0, .null, .int 0, .null, .null, .int 0, .null, .null, .int 0, .int 0, .null, .int 0, .null, .null, .null, .null, .int 0, .null, .null, .int 0, .null, .null, .null, .null]))]) (β := (Nat → Nat) × (Nat → Nat)) (fun u => u.1 0 = a) (fun u => wM u.1 u.2 cI cZ (nI 0) (nI 0) (nI 0) (nI 0) (nI 0) (nI 0) (nI 0) (nI 0) (nI 0) (fun _ => 0) (fun _ => 0) mZ) 16 2420 := by
  refine MK.ofW (by decide +kernel) rfl (Nat.le_of_ble_eq_true rfl) ?_
  intro p e s m below meth c A ls hx hb hr hts hown hlk hml hA hP hK hD hT hl hin
  have hS : va_S A s.heap s.heap [] := va_S.rf
  have hown : s.vm.findClass RX2 = some m.cls := hown
  have hin : meth.name = "<init>" := hin
  have hW : ∀ w ∈ tW, w.before _ s = true := fun w h => hts w (List.mem_cons_of_mem _ h)
  have hl : lv_has ls 1 [(0, .ref a)] := hl
  refine lv_aload_n hx hb dX2_init_0 rfl (lv_at hl 0 rfl) ?_
  refine W.objInit hx hb hown (hW _ tw_449) (hW _ tw_20) (hW _ tw_21) rfl (by rw [hml]; exact hl.1) rfl dX2_init_1 (Nat.le_of_ble_eq_true rfl) (Nat.le_of_ble_eq_true rfl) ?_
  refine W.eq (g2 := F0 m 4 ls []) rfl ?_
  refine lv_aload_n hx hb dX2_init_4 rfl (lv_at hl 0 rfl) ?_
  refine lv_sipush (v := nI 200) hx hb dX2_init_5 (by decide) ?_
  refine z_newa (atype := .int) (cA := cI) (N' := 200) (a0 := (200, .inl (fun _ => 0))) hx hb (hW _ tw_41) (hK.2 0 _ rfl).2 hP hD hS hA rfl (by decide) (by decide) (by decide) (Nat.le_of_ble_eq_true rfl) (Nat.le_of_ble_eq_true rfl) dX2_init_8 (fun q1 H hP hD hS => ?_)
  have hP : va_P D vwCl ([(a, .inr (2, [.int 0, .int 0, .null, .int 0, .null, .null, .int 0, .null, .null, .int 0, .int 0, .null, .int 0, .null, .null, .null, .null, .int 0, .null, .null, .int 0, .null, .null, .null, .null])), (q1, .inl (cI, 200, .inl (fun _ => 0)))]) H := hP
  have hD : va_D A ([(a, .inr (2, [.int 0, .int 0, .null, .int 0, .null, .null, .int 0, .null, .null, .int 0, .int 0, .null, .int 0, .null, .null, .null, .null, .int 0, .null, .null, .int 0, .null, .null, .null, .null])), (q1, .inl (cI, 200, .inl (fun _ => 0)))]) := hD
  refine va_putF (D := D) (ci := 2) (v := .ref q1) (ty := .array .int) (C := RX2) (T := TX2) (N := 25) hx hb hW iMD tyX2 tyX2_ok nmX2 hown hK hP hD hS 0 rfl rfl 2 (by decide) (hW _ tw_516) (fun _ h9 => h9) rfl hin rfl (by decide +kernel) rfl rfl (Nat.le_of_ble_eq_true rfl) dX2_init_10 (fun H locs hP hD hS => ?_)
  have hP : va_P D vwCl ([(a, .inr (2, [.int 0, .int 0, .ref q1, .int 0, .null, .null, .int 0, .null, .null, .int 0, .int 0, .null, .int 0, .null, .null, .null, .null, .int 0, .null, .null, .int 0, .null, .null, .null, .null])), (q1, .inl (cI, 200, .inl (fun _ => 0)))]) H := hP
  have hD : va_D A ([(a, .inr (2, [.int 0, .int 0, .ref q1, .int 0, .null, .null, .int 0, .null, .null, .int 0, .int 0, .null, .int 0, .null, .null, .null, .null, .int 0, .null, .null, .int 0, .null, .null, .null, .null])), (q1, .inl (cI, 200, .inl (fun _ => 0)))]) := hD
  refine lv_aload_n hx hb dX2_init_13 rfl (lv_at hl 0 rfl) ?_
  refine lv_sipush (v := nI 768) hx hb dX2_init_14 (by decide) ?_
  refine z_newa (atype := .int) (cA := cI) (N' := 768) (a0 := (768, .inl (fun _ => 0))) hx hb (hW _ tw_41) (hK.2 0 _ rfl).2 hP hD hS hA rfl (by decide) (by decide) (by decide) (Nat.le_of_ble_eq_true rfl) (Nat.le_of_ble_eq_true rfl) dX2_init_17 (fun q2 H hP hD hS => ?_)
  have hP : va_P D vwCl ([(a, .inr (2, [.int 0, .int 0, .ref q1, .int 0, .null, .null, .int 0, .null, .null, .int 0, .int 0, .null, .int 0, .null, .null, .null, .null, .int 0, .null, .null, .int 0, .null, .null, .null, .null])), (q1, .inl (cI, 200, .inl (fun _ => 0))), (q2, .inl (cI, 768, .inl (fun _ => 0)))]) H := hP
  have hD : va_D A ([(a, .inr (2, [.int 0, .int 0, .ref q1, .int 0, .null, .null, .int 0, .null, .null, .int 0, .int 0, .null, .int 0, .null, .null, .null, .null, .int 0, .null, .null, .int 0, .null, .null, .null, .null])), (q1, .inl (cI, 200, .inl (fun _ => 0))), (q2, .inl (cI, 768, .inl (fun _ => 0)))]) := hD
  refine va_putF (D := D) (ci := 2) (v := .ref q2) (ty := .array .int) (C := RX2) (T := TX2) (N := 25) hx hb hW iMD tyX2 tyX2_ok nmX2 hown hK hP hD hS 0 rfl rfl 4 (by decide) (hW _ tw_518) (fun _ h9 => h9) rfl hin rfl (by decide +kernel) rfl rfl (Nat.le_of_ble_eq_true rfl) dX2_init_19 (fun H locs hP hD hS => ?_)
  have hP : va_P D vwCl ([(a, .inr (2, [.int 0, .int 0, .ref q1, .int 0, .ref q2, .null, .int 0, .null, .null, .int 0, .int 0, .null, .int 0, .null, .null, .null, .null, .int 0, .null, .null, .int 0, .null, .null, .null, .null])), (q1, .inl (cI, 200, .inl (fun _ => 0))), (q2, .inl (cI, 768, .inl (fun _ => 0)))]) H := hP
  have hD : va_D A ([(a, .inr (2, [.int 0, .int 0, .ref q1, .int 0, .ref q2, .null, .int 0, .null, .null, .int 0, .int 0, .null, .int 0, .null, .null, .null, .null, .int 0, .null, .null, .int 0, .null, .null, .null, .null])), (q1, .inl (cI, 200, .inl (fun _ => 0))), (q2, .inl (cI, 768, .inl (fun _ => 0)))]) := hD
  refine lv_aload_n hx hb dX2_init_22 rfl (lv_at hl 0 rfl) ?_
  refine lv_bipush (v := nI 24) hx hb dX2_init_23 (by decide) ?_
  refine z_newa (atype := .boolean) (cA := cZ) (N' := 24) (a0 := (24, .inl (fun _ => 0))) hx hb (hW _ tw_87) (hK.2 1 _ rfl).2 hP hD hS hA rfl (by decide) (by decide) (by decide) (Nat.le_of_ble_eq_true rfl) (Nat.le_of_ble_eq_true rfl) dX2_init_25 (fun q3 H hP hD hS => ?_)
  have hP : va_P D vwCl ([(a, .inr (2, [.int 0, .int 0, .ref q1, .int 0, .ref q2, .null, .int 0, .null, .null, .int 0, .int 0, .null, .int 0, .null, .null, .null, .null, .int 0, .null, .null, .int 0, .null, .null, .null, .null])), (q1, .inl (cI, 200, .inl (fun _ => 0))), (q2, .inl (cI, 768, .inl (fun _ => 0))), (q3, .inl (cZ, 24, .inl (fun _ => 0)))]) H := hP
  have hD : va_D A ([(a, .inr (2, [.int 0, .int 0, .ref q1, .int 0, .ref q2, .null, .int 0, .null, .null, .int 0, .int 0, .null, .int 0, .null, .null, .null, .null, .int 0, .null, .null, .int 0, .null, .null, .null, .null])), (q1, .inl (cI, 200, .inl (fun _ => 0))), (q2, .inl (cI, 768, .inl (fun _ => 0))), (q3, .inl (cZ, 24, .inl (fun _ => 0)))]) := hD
  refine va_putF (D := D) (ci := 2) (v := .ref q3) (ty := .array .boolean) (C := RX2) (T := TX2) (N := 25) hx hb hW iMD tyX2 tyX2_ok nmX2 hown hK hP hD hS 0 rfl rfl 5 (by decide) (hW _ tw_519) (fun _ h9 => h9) rfl hin rfl (by decide +kernel) rfl rfl (Nat.le_of_ble_eq_true rfl) dX2_init_27 (fun H locs hP hD hS => ?_)
  have hP : va_P D vwCl ([(a, .inr (2, [.int 0, .int 0, .ref q1, .int 0, .ref q2, .ref q3, .int 0, .null, .null, .int 0, .int 0, .null, .int 0, .null, .null, .null, .null, .int 0, .null, .null, .int 0, .null, .null, .null, .null])), (q1, .inl (cI, 200, .inl (fun _ => 0))), (q2, .inl (cI, 768, .inl (fun _ => 0))), (q3, .inl (cZ, 24, .inl (fun _ => 0)))]) H := hP
  have hD : va_D A ([(a, .inr (2, [.int 0, .int 0, .ref q1, .int 0, .ref q2, .ref q3, .int 0, .null, .null, .int 0, .int 0, .null, .int 0, .null, .null, .null, .null, .int 0, .null, .null, .int 0, .null, .null, .null, .null])), (q1, .inl (cI, 200, .inl (fun _ => 0))), (q2, .inl (cI, 768, .inl (fun _ => 0))), (q3, .inl (cZ, 24, .inl (fun _ => 0)))]) := hD
  refine lv_aload_n hx hb dX2_init_30 rfl (lv_at hl 0 rfl) ?_
  refine lv_bipush (v := nI 12) hx hb dX2_init_31 (by decide) ?_
  refine z_newa (atype := .int) (cA := cI) (N' := 12) (a0 := (12, .inl (fun _ => 0))) hx hb (hW _ tw_41) (hK.2 0 _ rfl).2 hP hD hS hA rfl (by decide) (by decide) (by decide) (Nat.le_of_ble_eq_true rfl) (Nat.le_of_ble_eq_true rfl) dX2_init_33 (fun q4 H hP hD hS => ?_)
  have hP : va_P D vwCl ([(a, .inr (2, [.int 0, .int 0, .ref q1, .int 0, .ref q2, .ref q3, .int 0, .null, .null, .int 0, .int 0, .null, .int 0, .null, .null, .null, .null, .int 0, .null, .null, .int 0, .null, .null, .null, .null])), (q1, .inl (cI, 200, .inl (fun _ => 0))), (q2, .inl (cI, 768, .inl (fun _ => 0))), (q3, .inl (cZ, 24, .inl (fun _ => 0))), (q4, .inl (cI, 12, .inl (fun _ => 0)))]) H := hP
  have hD : va_D A ([(a, .inr (2, [.int 0, .int 0, .ref q1, .int 0, .ref q2, .ref q3, .int 0, .null, .null, .int 0, .int 0, .null, .int 0, .null, .null, .null, .null, .int 0, .null, .null, .int 0, .null, .null, .null, .null])), (q1, .inl (cI, 200, .inl (fun _ => 0))), (q2, .inl (cI, 768, .inl (fun _ => 0))), (q3, .inl (cZ, 24, .inl (fun _ => 0))), (q4, .inl (cI, 12, .inl (fun _ => 0)))]) := hD
  refine va_putF (D := D) (ci := 2) (v := .ref q4) (ty := .array .int) (C := RX2) (T := TX2) (N := 25) hx hb hW iMD tyX2 tyX2_ok nmX2 hown hK hP hD hS 0 rfl rfl 7 (by decide) (hW _ tw_521) (fun _ h9 => h9) rfl hin rfl (by decide +kernel) rfl rfl (Nat.le_of_ble_eq_true rfl) dX2_init_35 (fun H locs hP hD hS => ?_)
  have hP : va_P D vwCl ([(a, .inr (2, [.int 0, .int 0, .ref q1, .int 0, .ref q2, .ref q3, .int 0, .ref q4, .null, .int 0, .int 0, .null, .int 0, .null, .null, .null, .null, .int 0, .null, .null, .int 0, .null, .null, .null, .null])), (q1, .inl (cI, 200, .inl (fun _ => 0))), (q2, .inl (cI, 768, .inl (fun _ => 0))), (q3, .inl (cZ, 24, .inl (fun _ => 0))), (q4, .inl (cI, 12, .inl (fun _ => 0)))]) H := hP
  have hD : va_D A ([(a, .inr (2, [.int 0, .int 0, .ref q1, .int 0, .ref q2, .ref q3, .int 0, .ref q4, .null, .int 0, .int 0, .null, .int 0, .null, .null, .null, .null, .int 0, .null, .null, .int 0, .null, .null, .null, .null])), (q1, .inl (cI, 200, .inl (fun _ => 0))), (q2, .inl (cI, 768, .inl (fun _ => 0))), (q3, .inl (cZ, 24, .inl (fun _ => 0))), (q4, .inl (cI, 12, .inl (fun _ => 0)))]) := hD
  refine lv_aload_n hx hb dX2_init_38 rfl (lv_at hl 0 rfl) ?_
  refine lv_sipush (v := nI 384) hx hb dX2_init_39 (by decide) ?_
  refine z_newa (atype := .int) (cA := cI) (N' := 384) (a0 := (384, .inl (fun _ => 0))) hx hb (hW _ tw_41) (hK.2 0 _ rfl).2 hP hD hS hA rfl (by decide) (by decide) (by decide) (Nat.le_of_ble_eq_true rfl) (Nat.le_of_ble_eq_true rfl) dX2_init_42 (fun q5 H hP hD hS => ?_)
  have hP : va_P D vwCl ([(a, .inr (2, [.int 0, .int 0, .ref q1, .int 0, .ref q2, .ref q3, .int 0, .ref q4, .null, .int 0, .int 0, .null, .int 0, .null, .null, .null, .null, .int 0, .null, .null, .int 0, .null, .null, .null, .null])), (q1, .inl (cI, 200, .inl (fun _ => 0))), (q2, .inl (cI, 768, .inl (fun _ => 0))), (q3, .inl (cZ, 24, .inl (fun _ => 0))), (q4, .inl (cI, 12, .inl (fun _ => 0))), (q5, .inl (cI, 384, .inl (fun _ => 0)))]) H := hP
  have hD : va_D A ([(a, .inr (2, [.int 0, .int 0, .ref q1, .int 0, .ref q2, .ref q3, .int 0, .ref q4, .null, .int 0, .int 0, .null, .int 0, .null, .null, .null, .null, .int 0, .null, .null, .int 0, .null, .null, .null, .null])), (q1, .inl (cI, 200, .inl (fun _ => 0))), (q2, .inl (cI, 768, .inl (fun _ => 0))), (q3, .inl (cZ, 24, .inl (fun _ => 0))), (q4, .inl (cI, 12, .inl (fun _ => 0))), (q5, .inl (cI, 384, .inl (fun _ => 0)))]) := hD
  refine va_putF (D := D) (ci := 2) (v := .ref q5) (ty := .array .int) (C := RX2) (T := TX2) (N := 25) hx hb hW iMD tyX2 tyX2_ok nmX2 hown hK hP hD hS 0 rfl rfl 8 (by decide) (hW _ tw_522) (fun _ h9 => h9) rfl hin rfl (by decide +kernel) rfl rfl (Nat.le_of_ble_eq_true rfl) dX2_init_44 (fun H locs hP hD hS => ?_)
  have hP : va_P D vwCl ([(a, .inr (2, [.int 0, .int 0, .ref q1, .int 0, .ref q2, .ref q3, .int 0, .ref q4, .ref q5, .int 0, .int 0, .null, .int 0, .null, .null, .null, .null, .int 0, .null, .null, .int 0, .null, .null, .null, .null])), (q1, .inl (cI, 200, .inl (fun _ => 0))), (q2, .inl (cI, 768, .inl (fun _ => 0))), (q3, .inl (cZ, 24, .inl (fun _ => 0))), (q4, .inl (cI, 12, .inl (fun _ => 0))), (q5, .inl (cI, 384, .inl (fun _ => 0)))]) H := hP
  have hD : va_D A ([(a, .inr (2, [.int 0, .int 0, .ref q1, .int 0, .ref q2, .ref q3, .int 0, .ref q4, .ref q5, .int 0, .int 0, .null, .int 0, .null, .null, .null, .null, .int 0, .null, .null, .int 0, .null, .null, .null, .null])), (q1, .inl (cI, 200, .inl (fun _ => 0))), (q2, .inl (cI, 768, .inl (fun _ => 0))), (q3, .inl (cZ, 24, .inl (fun _ => 0))), (q4, .inl (cI, 12, .inl (fun _ => 0))), (q5, .inl (cI, 384, .inl (fun _ => 0)))]) := hD
  refine lv_aload_n hx hb dX2_init_47 rfl (lv_at hl 0 rfl) ?_
  refine lv_sipush (v := nI 320) hx hb dX2_init_48 (by decide) ?_
  refine z_newa (atype := .int) (cA := cI) (N' := 320) (a0 := (320, .inl (fun _ => 0))) hx hb (hW _ tw_41) (hK.2 0 _ rfl).2 hP hD hS hA rfl (by decide) (by decide) (by decide) (Nat.le_of_ble_eq_true rfl) (Nat.le_of_ble_eq_true rfl) dX2_init_51 (fun q6 H hP hD hS => ?_)
  have hP : va_P D vwCl ([(a, .inr (2, [.int 0, .int 0, .ref q1, .int 0, .ref q2, .ref q3, .int 0, .ref q4, .ref q5, .int 0, .int 0, .null, .int 0, .null, .null, .null, .null, .int 0, .null, .null, .int 0, .null, .null, .null, .null])), (q1, .inl (cI, 200, .inl (fun _ => 0))), (q2, .inl (cI, 768, .inl (fun _ => 0))), (q3, .inl (cZ, 24, .inl (fun _ => 0))), (q4, .inl (cI, 12, .inl (fun _ => 0))), (q5, .inl (cI, 384, .inl (fun _ => 0))), (q6, .inl (cI, 320, .inl (fun _ => 0)))]) H := hP
  have hD : va_D A ([(a, .inr (2, [.int 0, .int 0, .ref q1, .int 0, .ref q2, .ref q3, .int 0, .ref q4, .ref q5, .int 0, .int 0, .null, .int 0, .null, .null, .null, .null, .int 0, .null, .null, .int 0, .null, .null, .null, .null])), (q1, .inl (cI, 200, .inl (fun _ => 0))), (q2, .inl (cI, 768, .inl (fun _ => 0))), (q3, .inl (cZ, 24, .inl (fun _ => 0))), (q4, .inl (cI, 12, .inl (fun _ => 0))), (q5, .inl (cI, 384, .inl (fun _ => 0))), (q6, .inl (cI, 320, .inl (fun _ => 0)))]) := hD
  refine va_putF (D := D) (ci := 2) (v := .ref q6) (ty := .array .int) (C := RX2) (T := TX2) (N := 25) hx hb hW iMD tyX2 tyX2_ok nmX2 hown hK hP hD hS 0 rfl rfl 11 (by decide) (hW _ tw_525) (fun _ h9 => h9) rfl hin rfl (by decide +kernel) rfl rfl (Nat.le_of_ble_eq_true rfl) dX2_init_53 (fun H locs hP hD hS => ?_)
  have hP : va_P D vwCl ([(a, .inr (2, [.int 0, .int 0, .ref q1, .int 0, .ref q2, .ref q3, .int 0, .ref q4, .ref q5, .int 0, .int 0, .ref q6, .int 0, .null, .null, .null, .null, .int 0, .null, .null, .int 0, .null, .null, .null, .null])), (q1, .inl (cI, 200, .inl (fun _ => 0))), (q2, .inl (cI, 768, .inl (fun _ => 0))), (q3, .inl (cZ, 24, .inl (fun _ => 0))), (q4, .inl (cI, 12, .inl (fun _ => 0))), (q5, .inl (cI, 384, .inl (fun _ => 0))), (q6, .inl (cI, 320, .inl (fun _ => 0)))]) H := hP
  have hD : va_D A ([(a, .inr (2, [.int 0, .int 0, .ref q1, .int 0, .ref q2, .ref q3, .int 0, .ref q4, .ref q5, .int 0, .int 0, .ref q6, .int 0, .null, .null, .null, .null, .int 0, .null, .null, .int 0, .null, .null, .null, .null])), (q1, .inl (cI, 200, .inl (fun _ => 0))), (q2, .inl (cI, 768, .inl (fun _ => 0))), (q3, .inl (cZ, 24, .inl (fun _ => 0))), (q4, .inl (cI, 12, .inl (fun _ => 0))), (q5, .inl (cI, 384, .inl (fun _ => 0))), (q6, .inl (cI, 320, .inl (fun _ => 0)))]) := hD
  refine lv_aload_n hx hb dX2_init_56 rfl (lv_at hl 0 rfl) ?_
  refine lv_sipush (v := nI 256) hx hb dX2_init_57 (by decide) ?_
  refine z_newa (atype := .int) (cA := cI) (N' := 256) (a0 := (256, .inl (fun _ => 0))) hx hb (hW _ tw_41) (hK.2 0 _ rfl).2 hP hD hS hA rfl (by decide) (by decide) (by decide) (Nat.le_of_ble_eq_true rfl) (Nat.le_of_ble_eq_true rfl) dX2_init_60 (fun q7 H hP hD hS => ?_)
  have hP : va_P D vwCl ([(a, .inr (2, [.int 0, .int 0, .ref q1, .int 0, .ref q2, .ref q3, .int 0, .ref q4, .ref q5, .int 0, .int 0, .ref q6, .int 0, .null, .null, .null, .null, .int 0, .null, .null, .int 0, .null, .null, .null, .null])), (q1, .inl (cI, 200, .inl (fun _ => 0))), (q2, .inl (cI, 768, .inl (fun _ => 0))), (q3, .inl (cZ, 24, .inl (fun _ => 0))), (q4, .inl (cI, 12, .inl (fun _ => 0))), (q5, .inl (cI, 384, .inl (fun _ => 0))), (q6, .inl (cI, 320, .inl (fun _ => 0))), (q7, .inl (cI, 256, .inl (fun _ => 0)))]) H := hP
  have hD : va_D A ([(a, .inr (2, [.int 0, .int 0, .ref q1, .int 0, .ref q2, .ref q3, .int 0, .ref q4, .ref q5, .int 0, .int 0, .ref q6, .int 0, .null, .null, .null, .null, .int 0, .null, .null, .int 0, .null, .null, .null, .null])), (q1, .inl (cI, 200, .inl (fun _ => 0))), (q2, .inl (cI, 768, .inl (fun _ => 0))), (q3, .inl (cZ, 24, .inl (fun _ => 0))), (q4, .inl (cI, 12, .inl (fun _ => 0))), (q5, .inl (cI, 384, .inl (fun _ => 0))), (q6, .inl (cI, 320, .inl (fun _ => 0))), (q7, .inl (cI, 256, .inl (fun _ => 0)))]) := hD
  refine va_putF (D := D) (ci := 2) (v := .ref q7) (ty := .array .int) (C := RX2) (T := TX2) (N := 25) hx hb hW iMD tyX2 tyX2_ok nmX2 hown hK hP hD hS 0 rfl rfl 13 (by decide) (hW _ tw_527) (fun _ h9 => h9) rfl hin rfl (by decide +kernel) rfl rfl (Nat.le_of_ble_eq_true rfl) dX2_init_62 (fun H locs hP hD hS => ?_)
  have hP : va_P D vwCl ([(a, .inr (2, [.int 0, .int 0, .ref q1, .int 0, .ref q2, .ref q3, .int 0, .ref q4, .ref q5, .int 0, .int 0, .ref q6, .int 0, .ref q7, .null, .null, .null, .int 0, .null, .null, .int 0, .null, .null, .null, .null])), (q1, .inl (cI, 200, .inl (fun _ => 0))), (q2, .inl (cI, 768, .inl (fun _ => 0))), (q3, .inl (cZ, 24, .inl (fun _ => 0))), (q4, .inl (cI, 12, .inl (fun _ => 0))), (q5, .inl (cI, 384, .inl (fun _ => 0))), (q6, .inl (cI, 320, .inl (fun _ => 0))), (q7, .inl (cI, 256, .inl (fun _ => 0)))]) H := hP
  have hD : va_D A ([(a, .inr (2, [.int 0, .int 0, .ref q1, .int 0, .ref q2, .ref q3, .int 0, .ref q4, .ref q5, .int 0, .int 0, .ref q6, .int 0, .ref q7, .null, .null, .null, .int 0, .null, .null, .int 0, .null, .null, .null, .null])), (q1, .inl (cI, 200, .inl (fun _ => 0))), (q2, .inl (cI, 768, .inl (fun _ => 0))), (q3, .inl (cZ, 24, .inl (fun _ => 0))), (q4, .inl (cI, 12, .inl (fun _ => 0))), (q5, .inl (cI, 384, .inl (fun _ => 0))), (q6, .inl (cI, 320, .inl (fun _ => 0))), (q7, .inl (cI, 256, .inl (fun _ => 0)))]) := hD
  refine lv_aload_n hx hb dX2_init_65 rfl (lv_at hl 0 rfl) ?_
  refine lv_bipush (v := nI 32) hx hb dX2_init_66 (by decide) ?_
  refine z_newa (atype := .int) (cA := cI) (N' := 32) (a0 := (32, .inl (fun _ => 0))) hx hb (hW _ tw_41) (hK.2 0 _ rfl).2 hP hD hS hA rfl (by decide) (by decide) (by decide) (Nat.le_of_ble_eq_true rfl) (Nat.le_of_ble_eq_true rfl) dX2_init_68 (fun q8 H hP hD hS => ?_)
  have hP : va_P D vwCl ([(a, .inr (2, [.int 0, .int 0, .ref q1, .int 0, .ref q2, .ref q3, .int 0, .ref q4, .ref q5, .int 0, .int 0, .ref q6, .int 0, .ref q7, .null, .null, .null, .int 0, .null, .null, .int 0, .null, .null, .null, .null])), (q1, .inl (cI, 200, .inl (fun _ => 0))), (q2, .inl (cI, 768, .inl (fun _ => 0))), (q3, .inl (cZ, 24, .inl (fun _ => 0))), (q4, .inl (cI, 12, .inl (fun _ => 0))), (q5, .inl (cI, 384, .inl (fun _ => 0))), (q6, .inl (cI, 320, .inl (fun _ => 0))), (q7, .inl (cI, 256, .inl (fun _ => 0))), (q8, .inl (cI, 32, .inl (fun _ => 0)))]) H := hP
  have hD : va_D A ([(a, .inr (2, [.int 0, .int 0, .ref q1, .int 0, .ref q2, .ref q3, .int 0, .ref q4, .ref q5, .int 0, .int 0, .ref q6, .int 0, .ref q7, .null, .null, .null, .int 0, .null, .null, .int 0, .null, .null, .null, .null])), (q1, .inl (cI, 200, .inl (fun _ => 0))), (q2, .inl (cI, 768, .inl (fun _ => 0))), (q3, .inl (cZ, 24, .inl (fun _ => 0))), (q4, .inl (cI, 12, .inl (fun _ => 0))), (q5, .inl (cI, 384, .inl (fun _ => 0))), (q6, .inl (cI, 320, .inl (fun _ => 0))), (q7, .inl (cI, 256, .inl (fun _ => 0))), (q8, .inl (cI, 32, .inl (fun _ => 0)))]) := hD
  refine va_putF (D := D) (ci := 2) (v := .ref q8) (ty := .array .int) (C := RX2) (T := TX2) (N := 25) hx hb hW iMD tyX2 tyX2_ok nmX2 hown hK hP hD hS 0 rfl rfl 14 (by decide) (hW _ tw_528) (fun _ h9 => h9) rfl hin rfl (by decide +kernel) rfl rfl (Nat.le_of_ble_eq_true rfl) dX2_init_70 (fun H locs hP hD hS => ?_)
  have hP : va_P D vwCl ([(a, .inr (2, [.int 0, .int 0, .ref q1, .int 0, .ref q2, .ref q3, .int 0, .ref q4, .ref q5, .int 0, .int 0, .ref q6, .int 0, .ref q7, .ref q8, .null, .null, .int 0, .null, .null, .int 0, .null, .null, .null, .null])), (q1, .inl (cI, 200, .inl (fun _ => 0))), (q2, .inl (cI, 768, .inl (fun _ => 0))), (q3, .inl (cZ, 24, .inl (fun _ => 0))), (q4, .inl (cI, 12, .inl (fun _ => 0))), (q5, .inl (cI, 384, .inl (fun _ => 0))), (q6, .inl (cI, 320, .inl (fun _ => 0))), (q7, .inl (cI, 256, .inl (fun _ => 0))), (q8, .inl (cI, 32, .inl (fun _ => 0)))]) H := hP
  have hD : va_D A ([(a, .inr (2, [.int 0, .int 0, .ref q1, .int 0, .ref q2, .ref q3, .int 0, .ref q4, .ref q5, .int 0, .int 0, .ref q6, .int 0, .ref q7, .ref q8, .null, .null, .int 0, .null, .null, .int 0, .null, .null, .null, .null])), (q1, .inl (cI, 200, .inl (fun _ => 0))), (q2, .inl (cI, 768, .inl (fun _ => 0))), (q3, .inl (cZ, 24, .inl (fun _ => 0))), (q4, .inl (cI, 12, .inl (fun _ => 0))), (q5, .inl (cI, 384, .inl (fun _ => 0))), (q6, .inl (cI, 320, .inl (fun _ => 0))), (q7, .inl (cI, 256, .inl (fun _ => 0))), (q8, .inl (cI, 32, .inl (fun _ => 0)))]) := hD
  refine lv_aload_n hx hb dX2_init_73 rfl (lv_at hl 0 rfl) ?_
  refine lv_bipush (v := nI 64) hx hb dX2_init_74 (by decide) ?_
  refine z_newa (atype := .int) (cA := cI) (N' := 64) (a0 := (64, .inl (fun _ => 0))) hx hb (hW _ tw_41) (hK.2 0 _ rfl).2 hP hD hS hA rfl (by decide) (by decide) (by decide) (Nat.le_of_ble_eq_true rfl) (Nat.le_of_ble_eq_true rfl) dX2_init_76 (fun q9 H hP hD hS => ?_)
  have hP : va_P D vwCl ([(a, .inr (2, [.int 0, .int 0, .ref q1, .int 0, .ref q2, .ref q3, .int 0, .ref q4, .ref q5, .int 0, .int 0, .ref q6, .int 0, .ref q7, .ref q8, .null, .null, .int 0, .null, .null, .int 0, .null, .null, .null, .null])), (q1, .inl (cI, 200, .inl (fun _ => 0))), (q2, .inl (cI, 768, .inl (fun _ => 0))), (q3, .inl (cZ, 24, .inl (fun _ => 0))), (q4, .inl (cI, 12, .inl (fun _ => 0))), (q5, .inl (cI, 384, .inl (fun _ => 0))), (q6, .inl (cI, 320, .inl (fun _ => 0))), (q7, .inl (cI, 256, .inl (fun _ => 0))), (q8, .inl (cI, 32, .inl (fun _ => 0))), (q9, .inl (cI, 64, .inl (fun _ => 0)))]) H := hP
  have hD : va_D A ([(a, .inr (2, [.int 0, .int 0, .ref q1, .int 0, .ref q2, .ref q3, .int 0, .ref q4, .ref q5, .int 0, .int 0, .ref q6, .int 0, .ref q7, .ref q8, .null, .null, .int 0, .null, .null, .int 0, .null, .null, .null, .null])), (q1, .inl (cI, 200, .inl (fun _ => 0))), (q2, .inl (cI, 768, .inl (fun _ => 0))), (q3, .inl (cZ, 24, .inl (fun _ => 0))), (q4, .inl (cI, 12, .inl (fun _ => 0))), (q5, .inl (cI, 384, .inl (fun _ => 0))), (q6, .inl (cI, 320, .inl (fun _ => 0))), (q7, .inl (cI, 256, .inl (fun _ => 0))), (q8, .inl (cI, 32, .inl (fun _ => 0))), (q9, .inl (cI, 64, .inl (fun _ => 0)))]) := hD
  refine va_putF (D := D) (ci := 2) (v := .ref q9) (ty := .array .int) (C := RX2) (T := TX2) (N := 25) hx hb hW iMD tyX2 tyX2_ok nmX2 hown hK hP hD hS 0 rfl rfl 15 (by decide) (hW _ tw_529) (fun _ h9 => h9) rfl hin rfl (by decide +kernel) rfl rfl (Nat.le_of_ble_eq_true rfl) dX2_init_78 (fun H locs hP hD hS => ?_)
  have hP : va_P D vwCl ([(a, .inr (2, [.int 0, .int 0, .ref q1, .int 0, .ref q2, .ref q3, .int 0, .ref q4, .ref q5, .int 0, .int 0, .ref q6, .int 0, .ref q7, .ref q8, .ref q9, .null, .int 0, .null, .null, .int 0, .null, .null, .null, .null])), (q1, .inl (cI, 200, .inl (fun _ => 0))), (q2, .inl (cI, 768, .inl (fun _ => 0))), (q3, .inl (cZ, 24, .inl (fun _ => 0))), (q4, .inl (cI, 12, .inl (fun _ => 0))), (q5, .inl (cI, 384, .inl (fun _ => 0))), (q6, .inl (cI, 320, .inl (fun _ => 0))), (q7, .inl (cI, 256, .inl (fun _ => 0))), (q8, .inl (cI, 32, .inl (fun _ => 0))), (q9, .inl (cI, 64, .inl (fun _ => 0)))]) H := hP
  have hD : va_D A ([(a, .inr (2, [.int 0, .int 0, .ref q1, .int 0, .ref q2, .ref q3, .int 0, .ref q4, .ref q5, .int 0, .int 0, .ref q6, .int 0, .ref q7, .ref q8, .ref q9, .null, .int 0, .null, .null, .int 0, .null, .null, .null, .null])), (q1, .inl (cI, 200, .inl (fun _ => 0))), (q2, .inl (cI, 768, .inl (fun _ => 0))), (q3, .inl (cZ, 24, .inl (fun _ => 0))), (q4, .inl (cI, 12, .inl (fun _ => 0))), (q5, .inl (cI, 384, .inl (fun _ => 0))), (q6, .inl (cI, 320, .inl (fun _ => 0))), (q7, .inl (cI, 256, .inl (fun _ => 0))), (q8, .inl (cI, 32, .inl (fun _ => 0))), (q9, .inl (cI, 64, .inl (fun _ => 0)))]) := hD
  refine lv_aload_n hx hb dX2_init_81 rfl (lv_at hl 0 rfl) ?_
  refine lv_bipush (v := nI 8) hx hb dX2_init_82 (by decide) ?_
  refine z_newa (atype := .int) (cA := cI) (N' := 8) (a0 := (8, .inl (fun _ => 0))) hx hb (hW _ tw_41) (hK.2 0 _ rfl).2 hP hD hS hA rfl (by decide) (by decide) (by decide) (Nat.le_of_ble_eq_true rfl) (Nat.le_of_ble_eq_true rfl) dX2_init_84 (fun q10 H hP hD hS => ?_)
  have hP : va_P D vwCl ([(a, .inr (2, [.int 0, .int 0, .ref q1, .int 0, .ref q2, .ref q3, .int 0, .ref q4, .ref q5, .int 0, .int 0, .ref q6, .int 0, .ref q7, .ref q8, .ref q9, .null, .int 0, .null, .null, .int 0, .null, .null, .null, .null])), (q1, .inl (cI, 200, .inl (fun _ => 0))), (q2, .inl (cI, 768, .inl (fun _ => 0))), (q3, .inl (cZ, 24, .inl (fun _ => 0))), (q4, .inl (cI, 12, .inl (fun _ => 0))), (q5, .inl (cI, 384, .inl (fun _ => 0))), (q6, .inl (cI, 320, .inl (fun _ => 0))), (q7, .inl (cI, 256, .inl (fun _ => 0))), (q8, .inl (cI, 32, .inl (fun _ => 0))), (q9, .inl (cI, 64, .inl (fun _ => 0))), (q10, .inl (cI, 8, .inl (fun _ => 0)))]) H := hP
  have hD : va_D A ([(a, .inr (2, [.int 0, .int 0, .ref q1, .int 0, .ref q2, .ref q3, .int 0, .ref q4, .ref q5, .int 0, .int 0, .ref q6, .int 0, .ref q7, .ref q8, .ref q9, .null, .int 0, .null, .null, .int 0, .null, .null, .null, .null])), (q1, .inl (cI, 200, .inl (fun _ => 0))), (q2, .inl (cI, 768, .inl (fun _ => 0))), (q3, .inl (cZ, 24, .inl (fun _ => 0))), (q4, .inl (cI, 12, .inl (fun _ => 0))), (q5, .inl (cI, 384, .inl (fun _ => 0))), (q6, .inl (cI, 320, .inl (fun _ => 0))), (q7, .inl (cI, 256, .inl (fun _ => 0))), (q8, .inl (cI, 32, .inl (fun _ => 0))), (q9, .inl (cI, 64, .inl (fun _ => 0))), (q10, .inl (cI, 8, .inl (fun _ => 0)))]) := hD
  refine va_putF (D := D) (ci := 2) (v := .ref q10) (ty := .array .int) (C := RX2) (T := TX2) (N := 25) hx hb hW iMD tyX2 tyX2_ok nmX2 hown hK hP hD hS 0 rfl rfl 16 (by decide) (hW _ tw_530) (fun _ h9 => h9) rfl hin rfl (by decide +kernel) rfl rfl (Nat.le_of_ble_eq_true rfl) dX2_init_86 (fun H locs hP hD hS => ?_)
  have hP : va_P D vwCl ([(a, .inr (2, [.int 0, .int 0, .ref q1, .int 0, .ref q2, .ref q3, .int 0, .ref q4, .ref q5, .int 0, .int 0, .ref q6, .int 0, .ref q7, .ref q8, .ref q9, .ref q10, .int 0, .null, .null, .int 0, .null, .null, .null, .null])), (q1, .inl (cI, 200, .inl (fun _ => 0))), (q2, .inl (cI, 768, .inl (fun _ => 0))), (q3, .inl (cZ, 24, .inl (fun _ => 0))), (q4, .inl (cI, 12, .inl (fun _ => 0))), (q5, .inl (cI, 384, .inl (fun _ => 0))), (q6, .inl (cI, 320, .inl (fun _ => 0))), (q7, .inl (cI, 256, .inl (fun _ => 0))), (q8, .inl (cI, 32, .inl (fun _ => 0))), (q9, .inl (cI, 64, .inl (fun _ => 0))), (q10, .inl (cI, 8, .inl (fun _ => 0)))]) H := hP
  have hD : va_D A ([(a, .inr (2, [.int 0, .int 0, .ref q1, .int 0, .ref q2, .ref q3, .int 0, .ref q4, .ref q5, .int 0, .int 0, .ref q6, .int 0, .ref q7, .ref q8, .ref q9, .ref q10, .int 0, .null, .null, .int 0, .null, .null, .null, .null])), (q1, .inl (cI, 200, .inl (fun _ => 0))), (q2, .inl (cI, 768, .inl (fun _ => 0))), (q3, .inl (cZ, 24, .inl (fun _ => 0))), (q4, .inl (cI, 12, .inl (fun _ => 0))), (q5, .inl (cI, 384, .inl (fun _ => 0))), (q6, .inl (cI, 320, .inl (fun _ => 0))), (q7, .inl (cI, 256, .inl (fun _ => 0))), (q8, .inl (cI, 32, .inl (fun _ => 0))), (q9, .inl (cI, 64, .inl (fun _ => 0))), (q10, .inl (cI, 8, .inl (fun _ => 0)))]) := hD
  refine lv_aload_n hx hb dX2_init_89 rfl (lv_at hl 0 rfl) ?_
  refine lv_sipush (v := nI 256) hx hb dX2_init_90 (by decide) ?_
  refine z_newa (atype := .int) (cA := cI) (N' := 256) (a0 := (256, .inl (fun _ => 0))) hx hb (hW _ tw_41) (hK.2 0 _ rfl).2 hP hD hS hA rfl (by decide) (by decide) (by decide) (Nat.le_of_ble_eq_true rfl) (Nat.le_of_ble_eq_true rfl) dX2_init_93 (fun q11 H hP hD hS => ?_)
  have hP : va_P D vwCl ([(a, .inr (2, [.int 0, .int 0, .ref q1, .int 0, .ref q2, .ref q3, .int 0, .ref q4, .ref q5, .int 0, .int 0, .ref q6, .int 0, .ref q7, .ref q8, .ref q9, .ref q10, .int 0, .null, .null, .int 0, .null, .null, .null, .null])), (q1, .inl (cI, 200, .inl (fun _ => 0))), (q2, .inl (cI, 768, .inl (fun _ => 0))), (q3, .inl (cZ, 24, .inl (fun _ => 0))), (q4, .inl (cI, 12, .inl (fun _ => 0))), (q5, .inl (cI, 384, .inl (fun _ => 0))), (q6, .inl (cI, 320, .inl (fun _ => 0))), (q7, .inl (cI, 256, .inl (fun _ => 0))), (q8, .inl (cI, 32, .inl (fun _ => 0))), (q9, .inl (cI, 64, .inl (fun _ => 0))), (q10, .inl (cI, 8, .inl (fun _ => 0))), (q11, .inl (cI, 256, .inl (fun _ => 0)))]) H := hP
  have hD : va_D A ([(a, .inr (2, [.int 0, .int 0, .ref q1, .int 0, .ref q2, .ref q3, .int 0, .ref q4, .ref q5, .int 0, .int 0, .ref q6, .int 0, .ref q7, .ref q8, .ref q9, .ref q10, .int 0, .null, .null, .int 0, .null, .null, .null, .null])), (q1, .inl (cI, 200, .inl (fun _ => 0))), (q2, .inl (cI, 768, .inl (fun _ => 0))), (q3, .inl (cZ, 24, .inl (fun _ => 0))), (q4, .inl (cI, 12, .inl (fun _ => 0))), (q5, .inl (cI, 384, .inl (fun _ => 0))), (q6, .inl (cI, 320, .inl (fun _ => 0))), (q7, .inl (cI, 256, .inl (fun _ => 0))), (q8, .inl (cI, 32, .inl (fun _ => 0))), (q9, .inl (cI, 64, .inl (fun _ => 0))), (q10, .inl (cI, 8, .inl (fun _ => 0))), (q11, .inl (cI, 256, .inl (fun _ => 0)))]) := hD
  refine va_putF (D := D) (ci := 2) (v := .ref q11) (ty := .array .int) (C := RX2) (T := TX2) (N := 25) hx hb hW iMD tyX2 tyX2_ok nmX2 hown hK hP hD hS 0 rfl rfl 18 (by decide) (hW _ tw_532) (fun _ h9 => h9) rfl hin rfl (by decide +kernel) rfl rfl (Nat.le_of_ble_eq_true rfl) dX2_init_95 (fun H locs hP hD hS => ?_)
  have hP : va_P D vwCl ([(a, .inr (2, [.int 0, .int 0, .ref q1, .int 0, .ref q2, .ref q3, .int 0, .ref q4, .ref q5, .int 0, .int 0, .ref q6, .int 0, .ref q7, .ref q8, .ref q9, .ref q10, .int 0, .ref q11, .null, .int 0, .null, .null, .null, .null])), (q1, .inl (cI, 200, .inl (fun _ => 0))), (q2, .inl (cI, 768, .inl (fun _ => 0))), (q3, .inl (cZ, 24, .inl (fun _ => 0))), (q4, .inl (cI, 12, .inl (fun _ => 0))), (q5, .inl (cI, 384, .inl (fun _ => 0))), (q6, .inl (cI, 320, .inl (fun _ => 0))), (q7, .inl (cI, 256, .inl (fun _ => 0))), (q8, .inl (cI, 32, .inl (fun _ => 0))), (q9, .inl (cI, 64, .inl (fun _ => 0))), (q10, .inl (cI, 8, .inl (fun _ => 0))), (q11, .inl (cI, 256, .inl (fun _ => 0)))]) H := hP
  have hD : va_D A ([(a, .inr (2, [.int 0, .int 0, .ref q1, .int 0, .ref q2, .ref q3, .int 0, .ref q4, .ref q5, .int 0, .int 0, .ref q6, .int 0, .ref q7, .ref q8, .ref q9, .ref q10, .int 0, .ref q11, .null, .int 0, .null, .null, .null, .null])), (q1, .inl (cI, 200, .inl (fun _ => 0))), (q2, .inl (cI, 768, .inl (fun _ => 0))), (q3, .inl (cZ, 24, .inl (fun _ => 0))), (q4, .inl (cI, 12, .inl (fun _ => 0))), (q5, .inl (cI, 384, .inl (fun _ => 0))), (q6, .inl (cI, 320, .inl (fun _ => 0))), (q7, .inl (cI, 256, .inl (fun _ => 0))), (q8, .inl (cI, 32, .inl (fun _ => 0))), (q9, .inl (cI, 64, .inl (fun _ => 0))), (q10, .inl (cI, 8, .inl (fun _ => 0))), (q11, .inl (cI, 256, .inl (fun _ => 0)))]) := hD
  refine lv_aload_n hx hb dX2_init_98 rfl (lv_at hl 0 rfl) ?_
  refine lv_bipush (v := nI 8) hx hb dX2_init_99 (by decide) ?_
  refine z_newa (atype := .int) (cA := cI) (N' := 8) (a0 := (8, .inl (fun _ => 0))) hx hb (hW _ tw_41) (hK.2 0 _ rfl).2 hP hD hS hA rfl (by decide) (by decide) (by decide) (Nat.le_of_ble_eq_true rfl) (Nat.le_of_ble_eq_true rfl) dX2_init_101 (fun q12 H hP hD hS => ?_)
  have hP : va_P D vwCl ([(a, .inr (2, [.int 0, .int 0, .ref q1, .int 0, .ref q2, .ref q3, .int 0, .ref q4, .ref q5, .int 0, .int 0, .ref q6, .int 0, .ref q7, .ref q8, .ref q9, .ref q10, .int 0, .ref q11, .null, .int 0, .null, .null, .null, .null])), (q1, .inl (cI, 200, .inl (fun _ => 0))), (q2, .inl (cI, 768, .inl (fun _ => 0))), (q3, .inl (cZ, 24, .inl (fun _ => 0))), (q4, .inl (cI, 12, .inl (fun _ => 0))), (q5, .inl (cI, 384, .inl (fun _ => 0))), (q6, .inl (cI, 320, .inl (fun _ => 0))), (q7, .inl (cI, 256, .inl (fun _ => 0))), (q8, .inl (cI, 32, .inl (fun _ => 0))), (q9, .inl (cI, 64, .inl (fun _ => 0))), (q10, .inl (cI, 8, .inl (fun _ => 0))), (q11, .inl (cI, 256, .inl (fun _ => 0))), (q12, .inl (cI, 8, .inl (fun _ => 0)))]) H := hP
  have hD : va_D A ([(a, .inr (2, [.int 0, .int 0, .ref q1, .int 0, .ref q2, .ref q3, .int 0, .ref q4, .ref q5, .int 0, .int 0, .ref q6, .int 0, .ref q7, .ref q8, .ref q9, .ref q10, .int 0, .ref q11, .null, .int 0, .null, .null, .null, .null])), (q1, .inl (cI, 200, .inl (fun _ => 0))), (q2, .inl (cI, 768, .inl (fun _ => 0))), (q3, .inl (cZ, 24, .inl (fun _ => 0))), (q4, .inl (cI, 12, .inl (fun _ => 0))), (q5, .inl (cI, 384, .inl (fun _ => 0))), (q6, .inl (cI, 320, .inl (fun _ => 0))), (q7, .inl (cI, 256, .inl (fun _ => 0))), (q8, .inl (cI, 32, .inl (fun _ => 0))), (q9, .inl (cI, 64, .inl (fun _ => 0))), (q10, .inl (cI, 8, .inl (fun _ => 0))), (q11, .inl (cI, 256, .inl (fun _ => 0))), (q12, .inl (cI, 8, .inl (fun _ => 0)))]) := hD
  refine va_putF (D := D) (ci := 2) (v := .ref q12) (ty := .array .int) (C := RX2) (T := TX2) (N := 25) hx hb hW iMD tyX2 tyX2_ok nmX2 hown hK hP hD hS 0 rfl rfl 19 (by decide) (hW _ tw_533) (fun _ h9 => h9) rfl hin rfl (by decide +kernel) rfl rfl (Nat.le_of_ble_eq_true rfl) dX2_init_103 (fun H locs hP hD hS => ?_)
  have hP : va_P D vwCl ([(a, .inr (2, [.int 0, .int 0, .ref q1, .int 0, .ref q2, .ref q3, .int 0, .ref q4, .ref q5, .int 0, .int 0, .ref q6, .int 0, .ref q7, .ref q8, .ref q9, .ref q10, .int 0, .ref q11, .ref q12, .int 0, .null, .null, .null, .null])), (q1, .inl (cI, 200, .inl (fun _ => 0))), (q2, .inl (cI, 768, .inl (fun _ => 0))), (q3, .inl (cZ, 24, .inl (fun _ => 0))), (q4, .inl (cI, 12, .inl (fun _ => 0))), (q5, .inl (cI, 384, .inl (fun _ => 0))), (q6, .inl (cI, 320, .inl (fun _ => 0))), (q7, .inl (cI, 256, .inl (fun _ => 0))), (q8, .inl (cI, 32, .inl (fun _ => 0))), (q9, .inl (cI, 64, .inl (fun _ => 0))), (q10, .inl (cI, 8, .inl (fun _ => 0))), (q11, .inl (cI, 256, .inl (fun _ => 0))), (q12, .inl (cI, 8, .inl (fun _ => 0)))]) H := hP
  have hD : va_D A ([(a, .inr (2, [.int 0, .int 0, .ref q1, .int 0, .ref q2, .ref q3, .int 0, .ref q4, .ref q5, .int 0, .int 0, .ref q6, .int 0, .ref q7, .ref q8, .ref q9, .ref q10, .int 0, .ref q11, .ref q12, .int 0, .null, .null, .null, .null])), (q1, .inl (cI, 200, .inl (fun _ => 0))), (q2, .inl (cI, 768, .inl (fun _ => 0))), (q3, .inl (cZ, 24, .inl (fun _ => 0))), (q4, .inl (cI, 12, .inl (fun _ => 0))), (q5, .inl (cI, 384, .inl (fun _ => 0))), (q6, .inl (cI, 320, .inl (fun _ => 0))), (q7, .inl (cI, 256, .inl (fun _ => 0))), (q8, .inl (cI, 32, .inl (fun _ => 0))), (q9, .inl (cI, 64, .inl (fun _ => 0))), (q10, .inl (cI, 8, .inl (fun _ => 0))), (q11, .inl (cI, 256, .inl (fun _ => 0))), (q12, .inl (cI, 8, .inl (fun _ => 0)))]) := hD
  refine lv_aload_n hx hb dX2_init_106 rfl (lv_at hl 0 rfl) ?_
  refine lv_bipush (v := nI 8) hx hb dX2_init_107 (by decide) ?_
  refine z_newa (atype := .int) (cA := cI) (N' := 8) (a0 := (8, .inl (fun _ => 0))) hx hb (hW _ tw_41) (hK.2 0 _ rfl).2 hP hD hS hA rfl (by decide) (by decide) (by decide) (Nat.le_of_ble_eq_true rfl) (Nat.le_of_ble_eq_true rfl) dX2_init_109 (fun q13 H hP hD hS => ?_)
  have hP : va_P D vwCl ([(a, .inr (2, [.int 0, .int 0, .ref q1, .int 0, .ref q2, .ref q3, .int 0, .ref q4, .ref q5, .int 0, .int 0, .ref q6, .int 0, .ref q7, .ref q8, .ref q9, .ref q10, .int 0, .ref q11, .ref q12, .int 0, .null, .null, .null, .null])), (q1, .inl (cI, 200, .inl (fun _ => 0))), (q2, .inl (cI, 768, .inl (fun _ => 0))), (q3, .inl (cZ, 24, .inl (fun _ => 0))), (q4, .inl (cI, 12, .inl (fun _ => 0))), (q5, .inl (cI, 384, .inl (fun _ => 0))), (q6, .inl (cI, 320, .inl (fun _ => 0))), (q7, .inl (cI, 256, .inl (fun _ => 0))), (q8, .inl (cI, 32, .inl (fun _ => 0))), (q9, .inl (cI, 64, .inl (fun _ => 0))), (q10, .inl (cI, 8, .inl (fun _ => 0))), (q11, .inl (cI, 256, .inl (fun _ => 0))), (q12, .inl (cI, 8, .inl (fun _ => 0))), (q13, .inl (cI, 8, .inl (fun _ => 0)))]) H := hP
  have hD : va_D A ([(a, .inr (2, [.int 0, .int 0, .ref q1, .int 0, .ref q2, .ref q3, .int 0, .ref q4, .ref q5, .int 0, .int 0, .ref q6, .int 0, .ref q7, .ref q8, .ref q9, .ref q10, .int 0, .ref q11, .ref q12, .int 0, .null, .null, .null, .null])), (q1, .inl (cI, 200, .inl (fun _ => 0))), (q2, .inl (cI, 768, .inl (fun _ => 0))), (q3, .inl (cZ, 24, .inl (fun _ => 0))), (q4, .inl (cI, 12, .inl (fun _ => 0))), (q5, .inl (cI, 384, .inl (fun _ => 0))), (q6, .inl (cI, 320, .inl (fun _ => 0))), (q7, .inl (cI, 256, .inl (fun _ => 0))), (q8, .inl (cI, 32, .inl (fun _ => 0))), (q9, .inl (cI, 64, .inl (fun _ => 0))), (q10, .inl (cI, 8, .inl (fun _ => 0))), (q11, .inl (cI, 256, .inl (fun _ => 0))), (q12, .inl (cI, 8, .inl (fun _ => 0))), (q13, .inl (cI, 8, .inl (fun _ => 0)))]) := hD
  refine va_putF (D := D) (ci := 2) (v := .ref q13) (ty := .array .int) (C := RX2) (T := TX2) (N := 25) hx hb hW iMD tyX2 tyX2_ok nmX2 hown hK hP hD hS 0 rfl rfl 21 (by decide) (hW _ tw_535) (fun _ h9 => h9) rfl hin rfl (by decide +kernel) rfl rfl (Nat.le_of_ble_eq_true rfl) dX2_init_111 (fun H locs hP hD hS => ?_)
  have hP : va_P D vwCl ([(a, .inr (2, [.int 0, .int 0, .ref q1, .int 0, .ref q2, .ref q3, .int 0, .ref q4, .ref q5, .int 0, .int 0, .ref q6, .int 0, .ref q7, .ref q8, .ref q9, .ref q10, .int 0, .ref q11, .ref q12, .int 0, .ref q13, .null, .null, .null])), (q1, .inl (cI, 200, .inl (fun _ => 0))), (q2, .inl (cI, 768, .inl (fun _ => 0))), (q3, .inl (cZ, 24, .inl (fun _ => 0))), (q4, .inl (cI, 12, .inl (fun _ => 0))), (q5, .inl (cI, 384, .inl (fun _ => 0))), (q6, .inl (cI, 320, .inl (fun _ => 0))), (q7, .inl (cI, 256, .inl (fun _ => 0))), (q8, .inl (cI, 32, .inl (fun _ => 0))), (q9, .inl (cI, 64, .inl (fun _ => 0))), (q10, .inl (cI, 8, .inl (fun _ => 0))), (q11, .inl (cI, 256, .inl (fun _ => 0))), (q12, .inl (cI, 8, .inl (fun _ => 0))), (q13, .inl (cI, 8, .inl (fun _ => 0)))]) H := hP
  have hD : va_D A ([(a, .inr (2, [.int 0, .int 0, .ref q1, .int 0, .ref q2, .ref q3, .int 0, .ref q4, .ref q5, .int 0, .int 0, .ref q6, .int 0, .ref q7, .ref q8, .ref q9, .ref q10, .int 0, .ref q11, .ref q12, .int 0, .ref q13, .null, .null, .null])), (q1, .inl (cI, 200, .inl (fun _ => 0))), (q2, .inl (cI, 768, .inl (fun _ => 0))), (q3, .inl (cZ, 24, .inl (fun _ => 0))), (q4, .inl (cI, 12, .inl (fun _ => 0))), (q5, .inl (cI, 384, .inl (fun _ => 0))), (q6, .inl (cI, 320, .inl (fun _ => 0))), (q7, .inl (cI, 256, .inl (fun _ => 0))), (q8, .inl (cI, 32, .inl (fun _ => 0))), (q9, .inl (cI, 64, .inl (fun _ => 0))), (q10, .inl (cI, 8, .inl (fun _ => 0))), (q11, .inl (cI, 256, .inl (fun _ => 0))), (q12, .inl (cI, 8, .inl (fun _ => 0))), (q13, .inl (cI, 8, .inl (fun _ => 0)))]) := hD
  refine lv_aload_n hx hb dX2_init_114 rfl (lv_at hl 0 rfl) ?_
  refine lv_bipush (v := nI 8) hx hb dX2_init_115 (by decide) ?_
  refine z_newa (atype := .int) (cA := cI) (N' := 8) (a0 := (8, .inl (fun _ => 0))) hx hb (hW _ tw_41) (hK.2 0 _ rfl).2 hP hD hS hA rfl (by decide) (by decide) (by decide) (Nat.le_of_ble_eq_true rfl) (Nat.le_of_ble_eq_true rfl) dX2_init_117 (fun q14 H hP hD hS => ?_)
  have hP : va_P D vwCl ([(a, .inr (2, [.int 0, .int 0, .ref q1, .int 0, .ref q2, .ref q3, .int 0, .ref q4, .ref q5, .int 0, .int 0, .ref q6, .int 0, .ref q7, .ref q8, .ref q9, .ref q10, .int 0, .ref q11, .ref q12, .int 0, .ref q13, .null, .null, .null])), (q1, .inl (cI, 200, .inl (fun _ => 0))), (q2, .inl (cI, 768, .inl (fun _ => 0))), (q3, .inl (cZ, 24, .inl (fun _ => 0))), (q4, .inl (cI, 12, .inl (fun _ => 0))), (q5, .inl (cI, 384, .inl (fun _ => 0))), (q6, .inl (cI, 320, .inl (fun _ => 0))), (q7, .inl (cI, 256, .inl (fun _ => 0))), (q8, .inl (cI, 32, .inl (fun _ => 0))), (q9, .inl (cI, 64, .inl (fun _ => 0))), (q10, .inl (cI, 8, .inl (fun _ => 0))), (q11, .inl (cI, 256, .inl (fun _ => 0))), (q12, .inl (cI, 8, .inl (fun _ => 0))), (q13, .inl (cI, 8, .inl (fun _ => 0))), (q14, .inl (cI, 8, .inl (fun _ => 0)))]) H := hP
  have hD : va_D A ([(a, .inr (2, [.int 0, .int 0, .ref q1, .int 0, .ref q2, .ref q3, .int 0, .ref q4, .ref q5, .int 0, .int 0, .ref q6, .int 0, .ref q7, .ref q8, .ref q9, .ref q10, .int 0, .ref q11, .ref q12, .int 0, .ref q13, .null, .null, .null])), (q1, .inl (cI, 200, .inl (fun _ => 0))), (q2, .inl (cI, 768, .inl (fun _ => 0))), (q3, .inl (cZ, 24, .inl (fun _ => 0))), (q4, .inl (cI, 12, .inl (fun _ => 0))), (q5, .inl (cI, 384, .inl (fun _ => 0))), (q6, .inl (cI, 320, .inl (fun _ => 0))), (q7, .inl (cI, 256, .inl (fun _ => 0))), (q8, .inl (cI, 32, .inl (fun _ => 0))), (q9, .inl (cI, 64, .inl (fun _ => 0))), (q10, .inl (cI, 8, .inl (fun _ => 0))), (q11, .inl (cI, 256, .inl (fun _ => 0))), (q12, .inl (cI, 8, .inl (fun _ => 0))), (q13, .inl (cI, 8, .inl (fun _ => 0))), (q14, .inl (cI, 8, .inl (fun _ => 0)))]) := hD
  refine va_putF (D := D) (ci := 2) (v := .ref q14) (ty := .array .int) (C := RX2) (T := TX2) (N := 25) hx hb hW iMD tyX2 tyX2_ok nmX2 hown hK hP hD hS 0 rfl rfl 22 (by decide) (hW _ tw_536) (fun _ h9 => h9) rfl hin rfl (by decide +kernel) rfl rfl (Nat.le_of_ble_eq_true rfl) dX2_init_119 (fun H locs hP hD hS => ?_)
  have hP : va_P D vwCl ([(a, .inr (2, [.int 0, .int 0, .ref q1, .int 0, .ref q2, .ref q3, .int 0, .ref q4, .ref q5, .int 0, .int 0, .ref q6, .int 0, .ref q7, .ref q8, .ref q9, .ref q10, .int 0, .ref q11, .ref q12, .int 0, .ref q13, .ref q14, .null, .null])), (q1, .inl (cI, 200, .inl (fun _ => 0))), (q2, .inl (cI, 768, .inl (fun _ => 0))), (q3, .inl (cZ, 24, .inl (fun _ => 0))), (q4, .inl (cI, 12, .inl (fun _ => 0))), (q5, .inl (cI, 384, .inl (fun _ => 0))), (q6, .inl (cI, 320, .inl (fun _ => 0))), (q7, .inl (cI, 256, .inl (fun _ => 0))), (q8, .inl (cI, 32, .inl (fun _ => 0))), (q9, .inl (cI, 64, .inl (fun _ => 0))), (q10, .inl (cI, 8, .inl (fun _ => 0))), (q11, .inl (cI, 256, .inl (fun _ => 0))), (q12, .inl (cI, 8, .inl (fun _ => 0))), (q13, .inl (cI, 8, .inl (fun _ => 0))), (q14, .inl (cI, 8, .inl (fun _ => 0)))]) H := hP
  have hD : va_D A ([(a, .inr (2, [.int 0, .int 0, .ref q1, .int 0, .ref q2, .ref q3, .int 0, .ref q4, .ref q5, .int 0, .int 0, .ref q6, .int 0, .ref q7, .ref q8, .ref q9, .ref q10, .int 0, .ref q11, .ref q12, .int 0, .ref q13, .ref q14, .null, .null])), (q1, .inl (cI, 200, .inl (fun _ => 0))), (q2, .inl (cI, 768, .inl (fun _ => 0))), (q3, .inl (cZ, 24, .inl (fun _ => 0))), (q4, .inl (cI, 12, .inl (fun _ => 0))), (q5, .inl (cI, 384, .inl (fun _ => 0))), (q6, .inl (cI, 320, .inl (fun _ => 0))), (q7, .inl (cI, 256, .inl (fun _ => 0))), (q8, .inl (cI, 32, .inl (fun _ => 0))), (q9, .inl (cI, 64, .inl (fun _ => 0))), (q10, .inl (cI, 8, .inl (fun _ => 0))), (q11, .inl (cI, 256, .inl (fun _ => 0))), (q12, .inl (cI, 8, .inl (fun _ => 0))), (q13, .inl (cI, 8, .inl (fun _ => 0))), (q14, .inl (cI, 8, .inl (fun _ => 0)))]) := hD
  refine lv_aload_n hx hb dX2_init_122 rfl (lv_at hl 0 rfl) ?_
  refine lv_bipush (v := nI 8) hx hb dX2_init_123 (by decide) ?_
  refine z_newa (atype := .boolean) (cA := cZ) (N' := 8) (a0 := (8, .inl (fun _ => 0))) hx hb (hW _ tw_87) (hK.2 1 _ rfl).2 hP hD hS hA rfl (by decide) (by decide) (by decide) (Nat.le_of_ble_eq_true rfl) (Nat.le_of_ble_eq_true rfl) dX2_init_125 (fun q15 H hP hD hS => ?_)
  have hP : va_P D vwCl ([(a, .inr (2, [.int 0, .int 0, .ref q1, .int 0, .ref q2, .ref q3, .int 0, .ref q4, .ref q5, .int 0, .int 0, .ref q6, .int 0, .ref q7, .ref q8, .ref q9, .ref q10, .int 0, .ref q11, .ref q12, .int 0, .ref q13, .ref q14, .null, .null])), (q1, .inl (cI, 200, .inl (fun _ => 0))), (q2, .inl (cI, 768, .inl (fun _ => 0))), (q3, .inl (cZ, 24, .inl (fun _ => 0))), (q4, .inl (cI, 12, .inl (fun _ => 0))), (q5, .inl (cI, 384, .inl (fun _ => 0))), (q6, .inl (cI, 320, .inl (fun _ => 0))), (q7, .inl (cI, 256, .inl (fun _ => 0))), (q8, .inl (cI, 32, .inl (fun _ => 0))), (q9, .inl (cI, 64, .inl (fun _ => 0))), (q10, .inl (cI, 8, .inl (fun _ => 0))), (q11, .inl (cI, 256, .inl (fun _ => 0))), (q12, .inl (cI, 8, .inl (fun _ => 0))), (q13, .inl (cI, 8, .inl (fun _ => 0))), (q14, .inl (cI, 8, .inl (fun _ => 0))), (q15, .inl (cZ, 8, .inl (fun _ => 0)))]) H := hP
  have hD : va_D A ([(a, .inr (2, [.int 0, .int 0, .ref q1, .int 0, .ref q2, .ref q3, .int 0, .ref q4, .ref q5, .int 0, .int 0, .ref q6, .int 0, .ref q7, .ref q8, .ref q9, .ref q10, .int 0, .ref q11, .ref q12, .int 0, .ref q13, .ref q14, .null, .null])), (q1, .inl (cI, 200, .inl (fun _ => 0))), (q2, .inl (cI, 768, .inl (fun _ => 0))), (q3, .inl (cZ, 24, .inl (fun _ => 0))), (q4, .inl (cI, 12, .inl (fun _ => 0))), (q5, .inl (cI, 384, .inl (fun _ => 0))), (q6, .inl (cI, 320, .inl (fun _ => 0))), (q7, .inl (cI, 256, .inl (fun _ => 0))), (q8, .inl (cI, 32, .inl (fun _ => 0))), (q9, .inl (cI, 64, .inl (fun _ => 0))), (q10, .inl (cI, 8, .inl (fun _ => 0))), (q11, .inl (cI, 256, .inl (fun _ => 0))), (q12, .inl (cI, 8, .inl (fun _ => 0))), (q13, .inl (cI, 8, .inl (fun _ => 0))), (q14, .inl (cI, 8, .inl (fun _ => 0))), (q15, .inl (cZ, 8, .inl (fun _ => 0)))]) := hD
  refine va_putF (D := D) (ci := 2) (v := .ref q15) (ty := .array .boolean) (C := RX2) (T := TX2) (N := 25) hx hb hW iMD tyX2 tyX2_ok nmX2 hown hK hP hD hS 0 rfl rfl 23 (by decide) (hW _ tw_537) (fun _ h9 => h9) rfl hin rfl (by decide +kernel) rfl rfl (Nat.le_of_ble_eq_true rfl) dX2_init_127 (fun H locs hP hD hS => ?_)
  have hP : va_P D vwCl ([(a, .inr (2, [.int 0, .int 0, .ref q1, .int 0, .ref q2, .ref q3, .int 0, .ref q4, .ref q5, .int 0, .int 0, .ref q6, .int 0, .ref q7, .ref q8, .ref q9, .ref q10, .int 0, .ref q11, .ref q12, .int 0, .ref q13, .ref q14, .ref q15, .null])), (q1, .inl (cI, 200, .inl (fun _ => 0))), (q2, .inl (cI, 768, .inl (fun _ => 0))), (q3, .inl (cZ, 24, .inl (fun _ => 0))), (q4, .inl (cI, 12, .inl (fun _ => 0))), (q5, .inl (cI, 384, .inl (fun _ => 0))), (q6, .inl (cI, 320, .inl (fun _ => 0))), (q7, .inl (cI, 256, .inl (fun _ => 0))), (q8, .inl (cI, 32, .inl (fun _ => 0))), (q9, .inl (cI, 64, .inl (fun _ => 0))), (q10, .inl (cI, 8, .inl (fun _ => 0))), (q11, .inl (cI, 256, .inl (fun _ => 0))), (q12, .inl (cI, 8, .inl (fun _ => 0))), (q13, .inl (cI, 8, .inl (fun _ => 0))), (q14, .inl (cI, 8, .inl (fun _ => 0))), (q15, .inl (cZ, 8, .inl (fun _ => 0)))]) H := hP
  have hD : va_D A ([(a, .inr (2, [.int 0, .int 0, .ref q1, .int 0, .ref q2, .ref q3, .int 0, .ref q4, .ref q5, .int 0, .int 0, .ref q6, .int 0, .ref q7, .ref q8, .ref q9, .ref q10, .int 0, .ref q11, .ref q12, .int 0, .ref q13, .ref q14, .ref q15, .null])), (q1, .inl (cI, 200, .inl (fun _ => 0))), (q2, .inl (cI, 768, .inl (fun _ => 0))), (q3, .inl (cZ, 24, .inl (fun _ => 0))), (q4, .inl (cI, 12, .inl (fun _ => 0))), (q5, .inl (cI, 384, .inl (fun _ => 0))), (q6, .inl (cI, 320, .inl (fun _ => 0))), (q7, .inl (cI, 256, .inl (fun _ => 0))), (q8, .inl (cI, 32, .inl (fun _ => 0))), (q9, .inl (cI, 64, .inl (fun _ => 0))), (q10, .inl (cI, 8, .inl (fun _ => 0))), (q11, .inl (cI, 256, .inl (fun _ => 0))), (q12, .inl (cI, 8, .inl (fun _ => 0))), (q13, .inl (cI, 8, .inl (fun _ => 0))), (q14, .inl (cI, 8, .inl (fun _ => 0))), (q15, .inl (cZ, 8, .inl (fun _ => 0)))]) := hD
  refine lv_aload_n hx hb dX2_init_130 rfl (lv_at hl 0 rfl) ?_
  refine lv_bipush (v := nI 64) hx hb dX2_init_131 (by decide) ?_
  refine z_newa (atype := .int) (cA := cI) (N' := 64) (a0 := (64, .inl (fun _ => 0))) hx hb (hW _ tw_41) (hK.2 0 _ rfl).2 hP hD hS hA rfl (by decide) (by decide) (by decide) (Nat.le_of_ble_eq_true rfl) (Nat.le_of_ble_eq_true rfl) dX2_init_133 (fun q16 H hP hD hS => ?_)
  have hP : va_P D vwCl ([(a, .inr (2, [.int 0, .int 0, .ref q1, .int 0, .ref q2, .ref q3, .int 0, .ref q4, .ref q5, .int 0, .int 0, .ref q6, .int 0, .ref q7, .ref q8, .ref q9, .ref q10, .int 0, .ref q11, .ref q12, .int 0, .ref q13, .ref q14, .ref q15, .null])), (q1, .inl (cI, 200, .inl (fun _ => 0))), (q2, .inl (cI, 768, .inl (fun _ => 0))), (q3, .inl (cZ, 24, .inl (fun _ => 0))), (q4, .inl (cI, 12, .inl (fun _ => 0))), (q5, .inl (cI, 384, .inl (fun _ => 0))), (q6, .inl (cI, 320, .inl (fun _ => 0))), (q7, .inl (cI, 256, .inl (fun _ => 0))), (q8, .inl (cI, 32, .inl (fun _ => 0))), (q9, .inl (cI, 64, .inl (fun _ => 0))), (q10, .inl (cI, 8, .inl (fun _ => 0))), (q11, .inl (cI, 256, .inl (fun _ => 0))), (q12, .inl (cI, 8, .inl (fun _ => 0))), (q13, .inl (cI, 8, .inl (fun _ => 0))), (q14, .inl (cI, 8, .inl (fun _ => 0))), (q15, .inl (cZ, 8, .inl (fun _ => 0))), (q16, .inl (cI, 64, .inl (fun _ => 0)))]) H := hP
  have hD : va_D A ([(a, .inr (2, [.int 0, .int 0, .ref q1, .int 0, .ref q2, .ref q3, .int 0, .ref q4, .ref q5, .int 0, .int 0, .ref q6, .int 0, .ref q7, .ref q8, .ref q9, .ref q10, .int 0, .ref q11, .ref q12, .int 0, .ref q13, .ref q14, .ref q15, .null])), (q1, .inl (cI, 200, .inl (fun _ => 0))), (q2, .inl (cI, 768, .inl (fun _ => 0))), (q3, .inl (cZ, 24, .inl (fun _ => 0))), (q4, .inl (cI, 12, .inl (fun _ => 0))), (q5, .inl (cI, 384, .inl (fun _ => 0))), (q6, .inl (cI, 320, .inl (fun _ => 0))), (q7, .inl (cI, 256, .inl (fun _ => 0))), (q8, .inl (cI, 32, .inl (fun _ => 0))), (q9, .inl (cI, 64, .inl (fun _ => 0))), (q10, .inl (cI, 8, .inl (fun _ => 0))), (q11, .inl (cI, 256, .inl (fun _ => 0))), (q12, .inl (cI, 8, .inl (fun _ => 0))), (q13, .inl (cI, 8, .inl (fun _ => 0))), (q14, .inl (cI, 8, .inl (fun _ => 0))), (q15, .inl (cZ, 8, .inl (fun _ => 0))), (q16, .inl (cI, 64, .inl (fun _ => 0)))]) := hD
  have hP : va_P D vwCl ([(a, .inr (2, [.int 0, .int 0, .ref q1, .int 0, .ref q2, .ref q3, .int 0, .ref q4, .ref q5, .int 0, .int 0, .ref q6, .int 0, .ref q7, .ref q8, .ref q9, .ref q10, .int 0, .ref q11, .ref q12, .int 0, .ref q13, .ref q14, .ref q15, .null])), (q1, .inl (cI, 200, .inl (fun _ => 0))), (q2, .inl (cI, 768, .inl (fun _ => 0))), (q3, .inl (cZ, 24, .inl (fun _ => 0))), (q4, .inl (cI, 12, .inl (fun _ => 0))), (q5, .inl (cI, 384, .inl (fun _ => 0))), (q6, .inl (cI, 320, .inl (fun _ => 0))), (q7, .inl (cI, 256, .inl (fun _ => 0))), (q8, .inl (cI, 32, .inl (fun _ => 0))), (q9, .inl (cI, 64, .inl (fun _ => 0))), (q10, .inl (cI, 8, .inl (fun _ => 0))), (q11, .inl (cI, 256, .inl (fun _ => 0))), (q12, .inl (cI, 8, .inl (fun _ => 0))), (q13, .inl (cI, 8, .inl (fun _ => 0))), (q14, .inl (cI, 8, .inl (fun _ => 0))), (q15, .inl (cZ, 8, .inl (fun _ => 0)))] ++ [(q16, .inl (cI, 64, .inl (kup 0)))]) H := by rw [kup_0]; exact hP
  have hD : va_D A ([(a, .inr (2, [.int 0, .int 0, .ref q1, .int 0, .ref q2, .ref q3, .int 0, .ref q4, .ref q5, .int 0, .int 0, .ref q6, .int 0, .ref q7, .ref q8, .ref q9, .ref q10, .int 0, .ref q11, .ref q12, .int 0, .ref q13, .ref q14, .ref q15, .null])), (q1, .inl (cI, 200, .inl (fun _ => 0))), (q2, .inl (cI, 768, .inl (fun _ => 0))), (q3, .inl (cZ, 24, .inl (fun _ => 0))), (q4, .inl (cI, 12, .inl (fun _ => 0))), (q5, .inl (cI, 384, .inl (fun _ => 0))), (q6, .inl (cI, 320, .inl (fun _ => 0))), (q7, .inl (cI, 256, .inl (fun _ => 0))), (q8, .inl (cI, 32, .inl (fun _ => 0))), (q9, .inl (cI, 64, .inl (fun _ => 0))), (q10, .inl (cI, 8, .inl (fun _ => 0))), (q11, .inl (cI, 256, .inl (fun _ => 0))), (q12, .inl (cI, 8, .inl (fun _ => 0))), (q13, .inl (cI, 8, .inl (fun _ => 0))), (q14, .inl (cI, 8, .inl (fun _ => 0))), (q15, .inl (cZ, 8, .inl (fun _ => 0)))] ++ [(q16, .inl (cI, 64, .inl (kup 0)))]) := by rw [kup_0]; exact hD
  refine md_fill hx hb hown hW hK hP hD hS (fun H locs hP hD hS => ?_)
  have hP : va_P D vwCl ([(a, .inr (2, [.int 0, .int 0, .ref q1, .int 0, .ref q2, .ref q3, .int 0, .ref q4, .ref q5, .int 0, .int 0, .ref q6, .int 0, .ref q7, .ref q8, .ref q9, .ref q10, .int 0, .ref q11, .ref q12, .int 0, .ref q13, .ref q14, .ref q15, .null])), (q1, .inl (cI, 200, .inl (fun _ => 0))), (q2, .inl (cI, 768, .inl (fun _ => 0))), (q3, .inl (cZ, 24, .inl (fun _ => 0))), (q4, .inl (cI, 12, .inl (fun _ => 0))), (q5, .inl (cI, 384, .inl (fun _ => 0))), (q6, .inl (cI, 320, .inl (fun _ => 0))), (q7, .inl (cI, 256, .inl (fun _ => 0))), (q8, .inl (cI, 32, .inl (fun _ => 0))), (q9, .inl (cI, 64, .inl (fun _ => 0))), (q10, .inl (cI, 8, .inl (fun _ => 0))), (q11, .inl (cI, 256, .inl (fun _ => 0))), (q12, .inl (cI, 8, .inl (fun _ => 0))), (q13, .inl (cI, 8, .inl (fun _ => 0))), (q14, .inl (cI, 8, .inl (fun _ => 0))), (q15, .inl (cZ, 8, .inl (fun _ => 0))), (q16, .inl (cI, 64, .inl (kup 64)))]) H := hP
  have hD : va_D A ([(a, .inr (2, [.int 0, .int 0, .ref q1, .int 0, .ref q2, .ref q3, .int 0, .ref q4, .ref q5, .int 0, .int 0, .ref q6, .int 0, .ref q7, .ref q8, .ref q9, .ref q10, .int 0, .ref q11, .ref q12, .int 0, .ref q13, .ref q14, .ref q15, .null])), (q1, .inl (cI, 200, .inl (fun _ => 0))), (q2, .inl (cI, 768, .inl (fun _ => 0))), (q3, .inl (cZ, 24, .inl (fun _ => 0))), (q4, .inl (cI, 12, .inl (fun _ => 0))), (q5, .inl (cI, 384, .inl (fun _ => 0))), (q6, .inl (cI, 320, .inl (fun _ => 0))), (q7, .inl (cI, 256, .inl (fun _ => 0))), (q8, .inl (cI, 32, .inl (fun _ => 0))), (q9, .inl (cI, 64, .inl (fun _ => 0))), (q10, .inl (cI, 8, .inl (fun _ => 0))), (q11, .inl (cI, 256, .inl (fun _ => 0))), (q12, .inl (cI, 8, .inl (fun _ => 0))), (q13, .inl (cI, 8, .inl (fun _ => 0))), (q14, .inl (cI, 8, .inl (fun _ => 0))), (q15, .inl (cZ, 8, .inl (fun _ => 0))), (q16, .inl (cI, 64, .inl (kup 64)))]) := hD
  refine va_putF (D := D) (ci := 2) (v := .ref q16) (ty := .array .int) (C := RX2) (T := TX2) (N := 25) hx hb hW iMD tyX2 tyX2_ok nmX2 hown hK hP hD hS 0 rfl rfl 24 (by decide) (hW _ tw_538) (fun _ h9 => h9) rfl hin rfl (by decide +kernel) rfl rfl (Nat.le_of_ble_eq_true rfl) dX2_init_513 (fun H locs hP hD hS => ?_)
  have hP : va_P D vwCl ([(a, .inr (2, [.int 0, .int 0, .ref q1, .int 0, .ref q2, .ref q3, .int 0, .ref q4, .ref q5, .int 0, .int 0, .ref q6, .int 0, .ref q7, .ref q8, .ref q9, .ref q10, .int 0, .ref q11, .ref q12, .int 0, .ref q13, .ref q14, .ref q15, .ref q16])), (q1, .inl (cI, 200, .inl (fun _ => 0))), (q2, .inl (cI, 768, .inl (fun _ => 0))), (q3, .inl (cZ, 24, .inl (fun _ => 0))), (q4, .inl (cI, 12, .inl (fun _ => 0))), (q5, .inl (cI, 384, .inl (fun _ => 0))), (q6, .inl (cI, 320, .inl (fun _ => 0))), (q7, .inl (cI, 256, .inl (fun _ => 0))), (q8, .inl (cI, 32, .inl (fun _ => 0))), (q9, .inl (cI, 64, .inl (fun _ => 0))), (q10, .inl (cI, 8, .inl (fun _ => 0))), (q11, .inl (cI, 256, .inl (fun _ => 0))), (q12, .inl (cI, 8, .inl (fun _ => 0))), (q13, .inl (cI, 8, .inl (fun _ => 0))), (q14, .inl (cI, 8, .inl (fun _ => 0))), (q15, .inl (cZ, 8, .inl (fun _ => 0))), (q16, .inl (cI, 64, .inl (kup 64)))]) H := hP
  have hD : va_D A ([(a, .inr (2, [.int 0, .int 0, .ref q1, .int 0, .ref q2, .ref q3, .int 0, .ref q4, .ref q5, .int 0, .int 0, .ref q6, .int 0, .ref q7, .ref q8, .ref q9, .ref q10, .int 0, .ref q11, .ref q12, .int 0, .ref q13, .ref q14, .ref q15, .ref q16])), (q1, .inl (cI, 200, .inl (fun _ => 0))), (q2, .inl (cI, 768, .inl (fun _ => 0))), (q3, .inl (cZ, 24, .inl (fun _ => 0))), (q4, .inl (cI, 12, .inl (fun _ => 0))), (q5, .inl (cI, 384, .inl (fun _ => 0))), (q6, .inl (cI, 320, .inl (fun _ => 0))), (q7, .inl (cI, 256, .inl (fun _ => 0))), (q8, .inl (cI, 32, .inl (fun _ => 0))), (q9, .inl (cI, 64, .inl (fun _ => 0))), (q10, .inl (cI, 8, .inl (fun _ => 0))), (q11, .inl (cI, 256, .inl (fun _ => 0))), (q12, .inl (cI, 8, .inl (fun _ => 0))), (q13, .inl (cI, 8, .inl (fun _ => 0))), (q14, .inl (cI, 8, .inl (fun _ => 0))), (q15, .inl (cZ, 8, .inl (fun _ => 0))), (q16, .inl (cI, 64, .inl (kup 64)))]) := hD
  have hg := gMD_ok a q1 q2 q3 q4 q5 q6 q7 q8 q9 q10 q11 q12 q13 q14 q15 q16 cI cZ
  have hP := hP.bys gMD hg
  have hD := hD.bys gMD hg gMD_inj
  exact mk_ret (w1 := fun u : (Nat → Nat) × (Nat → Nat) => wM u.1 u.2 cI cZ (nI 0) (nI 0) (nI 0) (nI 0) (nI 0) (nI 0) (nI 0) (nI 0) (nI 0) (fun _ => 0) (fun _ => 0) mZ) (oMD a q3 q15, aMD q1 q4 q8 q7 q9 q10 q2 q5 q6 q11 q12 q13 q14 q16) rfl hx hb hr hlk hS hP hD dX2_init_516
