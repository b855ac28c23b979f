theorem xt_nca {a b : String} {args : Array Value} {s : State} (h : (Cond.not (.castable a b)).before #[] s = true) : (Cond.not (.castable a b)).before args s = true := by
  simp only [Cond.before, Cond.holds, Cond.value] at h ⊢
  exact h
def lN01 (v : Int32) : Int64 := if v = 0 then lN 0 else lN 1
theorem lN01_0 {v : Int32} (h : v = 0) : lN01 v = lN 0 := if_pos h
theorem lN01_1 {v : Int32} (h : ¬ v = 0) : lN01 v = lN 1 := if_neg h
theorem ex1 {L : List ExceptionTableEntry} {a : Nat × Nat × Nat × Nat} (h : L.map exRow = [a]) : ∃ z0, L = [z0] ∧ exRow z0 = a := by
  match L, h with
  | [z0], h => exact ⟨z0, rfl, by simpa using h⟩
theorem ex2 {L : List ExceptionTableEntry} {a b : Nat × Nat × Nat × Nat} (h : L.map exRow = [a, b]) : ∃ z0 z1, L = [z0, z1] ∧ exRow z0 = a ∧ exRow z1 = b := by
  match L, h with
  | [z0, z1], h => exact ⟨z0, z1, rfl, by simpa using h⟩
theorem ex3 {L : List ExceptionTableEntry} {a b c : Nat × Nat × Nat × Nat} (h : L.map exRow = [a, b, c]) : ∃ z0 z1 z2, L = [z0, z1, z2] ∧ exRow z0 = a ∧ exRow z1 = b ∧ exRow z2 = c := by
  match L, h with
  | [z0, z1, z2], h => exact ⟨z0, z1, z2, rfl, by simpa using h⟩
theorem ex_c {z : ExceptionTableEntry} {a b c d : Nat} (h : exRow z = (a, b, c, d)) : z.catchType = d := congrArg (fun q => q.2.2.2) h
theorem ex_h {z : ExceptionTableEntry} {a b c d : Nat} (h : exRow z = (a, b, c, d)) : z.handlerPc = c := congrArg (fun q => q.2.2.1) h
theorem ex_ct {z : ExceptionTableEntry} {a b c d : Nat} (h : exRow z = (a, b, c, d)) (hd : d ≠ 0) : z.catchType ≠ 0 := by rw [ex_c h]; exact hd
theorem ex_cov {z : ExceptionTableEntry} {a b c d pc : Nat} (h : exRow z = (a, b, c, d)) (h1 : a ≤ pc) (h2 : pc < b) : covers z pc = true := by
  have e1 : z.startPc = a := congrArg (fun q => q.1) h
  have e2 : z.endPc = b := congrArg (fun q => q.2.1) h
  simp [covers, e1, e2, h1, h2]
set_option maxHeartbeats 4000000 in
set_option maxRecDepth 100000 in
theorem w_feed_ok {l : Launch} {D : va_G} {o ad : Nat → Nat} {cI cZ cG cJ : ClassId} {lc wc dc pn : Int32} {isw : Nat → Int32} (hl0 : l.stackTraces = false) (oa : Nat) (f : Nat → Int64) (t : Nat) (ht : t ≤ 200) (v sl : Int32) (b : Int64) (mem : Nat → Nat → Int32) (hX : x_feed (nI t) v = none) : MTi l lE yL_feed (.codeWith yL_feed cL_feed 6 (some .int) [(0, 11, 14, 13), (0, 11, 18, 15)] :: tW) ({ frames := 8, cells := 3, slots := 18, locals := 300 }) D vwCl (tL cI cZ cG cJ) [.ref (o 0), .long b, .int v, .ref oa] ((wC o ad cI cZ cG (nI t) lc wc dc pn sl isw mem) ++ wO oa cJ f) ((wC o ad cI cZ cG (nI t + v) lc wc dc pn sl isw (p_feed b t (tn v) (tn v) mem)) ++ wO oa cJ (vp_updL f 0 ((nI t + v).toInt64))) (nI 0) none 3 18 := by
  refine MTi.ofWW (by decide +kernel) rfl (Nat.le_of_ble_eq_true rfl) ?_
  intro p e s m below meth c A ls hx hb hr hts hown hlk hml hA hP hK hD hT hl htab
  have hS : va_S A s.heap s.heap [] := va_S.rf
  have hown : s.vm.findClass RL = some m.cls := hown
  have hW : ∀ w ∈ tW, w.before _ s = true := fun w h => hts w (List.mem_cons_of_mem _ h)
  have hl : lv_has ls 6 [(0, .ref (o 0)), (1, .long b), (3, .int v), (4, .ref oa)] := hl
  refine lv_aload hx hb dL_feed_0 (lv_at hl 3 rfl) ?_
  refine lv_iconst (v := nI 0) hx hb dL_feed_2 (by decide) ?_
  refine lv_aload_n hx hb dL_feed_3 rfl (lv_at hl 0 rfl) ?_
  refine lv_lload_n hx hb dL_feed_4 rfl (lv_at hl 1 rfl) ?_
  refine lv_iload_n hx hb dL_feed_5 rfl (lv_at hl 2 rfl) ?_
  refine ti_frV (C := RX1) (As := [.long b, .int v]) (rest := [.int (nI 0), .ref oa]) (wr := wO oa cJ f) ⟨hx, hb, hml, hown, hW⟩ (c_feed (tl := nI 0) hl0 t ht v sl b mem) hX gE_ok (cwV 2 hW (gV tw_93 tw_94 tw_95 tw_1 tw_96) rfl rfl rfl (by decide +kernel) ⟨Nat.le_of_ble_eq_true rfl, Nat.le_of_ble_eq_true rfl⟩) (va_recv hK hP (ci := 0) (q0 := 0) rfl rfl) hP hD (va_K.sub hK [0, 1, 2] rfl) hS hA hT.1 rfl hl.1 rfl (Nat.le_of_ble_eq_true rfl) dL_feed_6 ⟨Nat.le_of_ble_eq_true rfl, Nat.le_of_ble_eq_true rfl⟩ (fun H locs hP hD hS => ?_)
  refine lv_i2l (v := (nI t + v).toInt64) hx hb dL_feed_9 rfl ?_
  have hP := va_P_sw hP
  have hD := va_D_sw hD
  refine va_last hx hb hK hP hD hS 0 3 rfl rfl (vp_in_nI (show 0 < 1 by decide) (by decide)) dL_feed_10 (fun H locs hP hD hS => ?_)
  have hP : va_P D vwCl (wO oa cJ (vp_updL f 0 ((nI t + v).toInt64)) ++ (wC o ad cI cZ cG (nI t + v) lc wc dc pn sl isw (p_feed b t (tn v) (tn v) mem))) H := hP
  have hD : va_D A (wO oa cJ (vp_updL f 0 ((nI t + v).toInt64)) ++ (wC o ad cI cZ cG (nI t + v) lc wc dc pn sl isw (p_feed b t (tn v) (tn v) mem))) := hD
  have hP := va_P_sw hP
  have hD := va_D_sw hD
  refine lv_goto (tgt := 22) hx hb dL_feed_11 (by decide) ?_
  refine lv_iconst (v := nI 0) hx hb dL_feed_22 (by decide) ?_
  have hP : va_P D vwCl ((wC o ad cI cZ cG (nI t + v) lc wc dc pn sl isw (p_feed b t (tn v) (tn v) mem)) ++ wO oa cJ (vp_updL f 0 ((nI t + v).toInt64))) H := hP
  have hD : va_D A ((wC o ad cI cZ cG (nI t + v) lc wc dc pn sl isw (p_feed b t (tn v) (tn v) mem)) ++ wO oa cJ (vp_updL f 0 ((nI t + v).toInt64))) := hD
  exact ti_ret hx hb hr rfl hlk rfl hS hP hD rfl dL_feed_23 (Nat.le_of_ble_eq_true rfl) (Nat.le_of_ble_eq_true rfl)
set_option maxHeartbeats 4000000 in
set_option maxRecDepth 100000 in
theorem w_feed_1 {l : Launch} {D : va_G} {o ad : Nat → Nat} {cI cZ cG cJ : ClassId} {lc wc dc pn : Int32} {isw : Nat → Int32} (hl0 : l.stackTraces = false) (oa : Nat) (f : Nat → Int64) (t : Nat) (ht : t ≤ 200) (v sl : Int32) (b : Int64) (mem : Nat → Nat → Int32) (hX : x_feed (nI t) v = some nIAE) : MTi l lE yL_feed (.codeWith yL_feed cL_feed 6 (some .int) [(0, 11, 14, 13), (0, 11, 18, 15)] :: tW) ({ frames := 8, cells := 3, slots := 18, locals := 300 }) D vwCl (tL cI cZ cG cJ) [.ref (o 0), .long b, .int v, .ref oa] ((wC o ad cI cZ cG (nI t) lc wc dc pn sl isw mem) ++ wO oa cJ f) ((wC o ad cI cZ cG (nI t) lc wc dc pn sl isw mem) ++ wO oa cJ f) (nI 1) none 3 18 := by
  refine MTi.ofWW (by decide +kernel) rfl (Nat.le_of_ble_eq_true rfl) ?_
  intro p e s m below meth c A ls hx hb hr hts hown hlk hml hA hP hK hD hT hl htab
  have hS : va_S A s.heap s.heap [] := va_S.rf
  have hown : s.vm.findClass RL = some m.cls := hown
  have hW : ∀ w ∈ tW, w.before _ s = true := fun w h => hts w (List.mem_cons_of_mem _ h)
  have hl : lv_has ls 6 [(0, .ref (o 0)), (1, .long b), (3, .int v), (4, .ref oa)] := hl
  refine lv_aload hx hb dL_feed_0 (lv_at hl 3 rfl) ?_
  refine lv_iconst (v := nI 0) hx hb dL_feed_2 (by decide) ?_
  refine lv_aload_n hx hb dL_feed_3 rfl (lv_at hl 0 rfl) ?_
  refine lv_lload_n hx hb dL_feed_4 rfl (lv_at hl 1 rfl) ?_
  refine lv_iload_n hx hb dL_feed_5 rfl (lv_at hl 2 rfl) ?_
  refine ti_frN (C := RX1) (As := [.long b, .int v]) (rest := [.int (nI 0), .ref oa]) (wr := wO oa cJ f) ⟨hx, hb, hml, hown, hW⟩ (c_feed (tl := nI 0) hl0 t ht v sl b mem) hX gE_ok (cwV 2 hW (gV tw_93 tw_94 tw_95 tw_1 tw_96) rfl rfl rfl (by decide +kernel) ⟨Nat.le_of_ble_eq_true rfl, Nat.le_of_ble_eq_true rfl⟩) (va_recv hK hP (ci := 0) (q0 := 0) rfl rfl) hP hD (va_K.sub hK [0, 1, 2] rfl) hS hA hT.1 rfl hl.1 rfl (Nat.le_of_ble_eq_true rfl) dL_feed_6 ⟨Nat.le_of_ble_eq_true rfl, Nat.le_of_ble_eq_true rfl⟩ (fun xa H locs hOb hP hS => ?_)
  obtain ⟨z0, z1, hex, hz0, hz1⟩ := ex2 htab
  refine xt_catchT (name := "java/lang/IllegalArgumentException") (pc' := 14) hown hOb [] [z1] z0 hex ?_ (ex_cov hz0 (by decide) (by decide)) (ex_ct hz0 (by decide)) (by rw [ex_c hz0]; exact hW _ tw_91) (va_any rfl (hT.1.2.2.2 (.castable "java/lang/IllegalArgumentException" "java/lang/IllegalArgumentException") (by decide +kernel))) (ex_h hz0) ?_
  · exact fun y hy => absurd hy List.not_mem_nil
  refine lv_astore (lv' := [(5, .ref xa), (0, .ref (o 0)), (1, .long b), (3, .int v), (4, .ref oa)]) hx hb dL_feed_14 hl (by decide) rfl (fun ls hl => ?_)
  refine lv_iconst (v := nI 1) hx hb dL_feed_16 (by decide) ?_
  have hP : va_P D vwCl ((wC o ad cI cZ cG (nI t) lc wc dc pn sl isw mem) ++ wO oa cJ f) H := hP
  have hD : va_D A ((wC o ad cI cZ cG (nI t) lc wc dc pn sl isw mem) ++ wO oa cJ f) := hD
  exact ti_ret hx hb hr rfl hlk rfl hS hP hD rfl dL_feed_17 (Nat.le_of_ble_eq_true rfl) (Nat.le_of_ble_eq_true rfl)
set_option maxHeartbeats 4000000 in
set_option maxRecDepth 100000 in
theorem w_feed_2 {l : Launch} {D : va_G} {o ad : Nat → Nat} {cI cZ cG cJ : ClassId} {lc wc dc pn : Int32} {isw : Nat → Int32} (hl0 : l.stackTraces = false) (oa : Nat) (f : Nat → Int64) (t : Nat) (ht : t ≤ 200) (v sl : Int32) (b : Int64) (mem : Nat → Nat → Int32) (hX : x_feed (nI t) v = some nUOE) : MTi l lE yL_feed (.codeWith yL_feed cL_feed 6 (some .int) [(0, 11, 14, 13), (0, 11, 18, 15)] :: tW) ({ frames := 8, cells := 3, slots := 18, locals := 300 }) D vwCl (tL cI cZ cG cJ) [.ref (o 0), .long b, .int v, .ref oa] ((wC o ad cI cZ cG (nI t) lc wc dc pn sl isw mem) ++ wO oa cJ f) ((wC o ad cI cZ cG (nI t) lc wc dc pn sl isw mem) ++ wO oa cJ f) (nI 2) none 3 18 := by
  refine MTi.ofWW (by decide +kernel) rfl (Nat.le_of_ble_eq_true rfl) ?_
  intro p e s m below meth c A ls hx hb hr hts hown hlk hml hA hP hK hD hT hl htab
  have hS : va_S A s.heap s.heap [] := va_S.rf
  have hown : s.vm.findClass RL = some m.cls := hown
  have hW : ∀ w ∈ tW, w.before _ s = true := fun w h => hts w (List.mem_cons_of_mem _ h)
  have hl : lv_has ls 6 [(0, .ref (o 0)), (1, .long b), (3, .int v), (4, .ref oa)] := hl
  refine lv_aload hx hb dL_feed_0 (lv_at hl 3 rfl) ?_
  refine lv_iconst (v := nI 0) hx hb dL_feed_2 (by decide) ?_
  refine lv_aload_n hx hb dL_feed_3 rfl (lv_at hl 0 rfl) ?_
  refine lv_lload_n hx hb dL_feed_4 rfl (lv_at hl 1 rfl) ?_
  refine lv_iload_n hx hb dL_feed_5 rfl (lv_at hl 2 rfl) ?_
  refine ti_frN (C := RX1) (As := [.long b, .int v]) (rest := [.int (nI 0), .ref oa]) (wr := wO oa cJ f) ⟨hx, hb, hml, hown, hW⟩ (c_feed (tl := nI 0) hl0 t ht v sl b mem) hX gE_ok (cwV 2 hW (gV tw_93 tw_94 tw_95 tw_1 tw_96) rfl rfl rfl (by decide +kernel) ⟨Nat.le_of_ble_eq_true rfl, Nat.le_of_ble_eq_true rfl⟩) (va_recv hK hP (ci := 0) (q0 := 0) rfl rfl) hP hD (va_K.sub hK [0, 1, 2] rfl) hS hA hT.1 rfl hl.1 rfl (Nat.le_of_ble_eq_true rfl) dL_feed_6 ⟨Nat.le_of_ble_eq_true rfl, Nat.le_of_ble_eq_true rfl⟩ (fun xa H locs hOb hP hS => ?_)
  obtain ⟨z0, z1, hex, hz0, hz1⟩ := ex2 htab
  refine xt_catchT (name := "java/lang/UnsupportedOperationException") (pc' := 18) hown hOb [z0] [] z1 hex ?_ (ex_cov hz1 (by decide) (by decide)) (ex_ct hz1 (by decide)) (by rw [ex_c hz1]; exact hW _ tw_92) (va_any rfl (hT.1.2.2.2 (.castable "java/lang/UnsupportedOperationException" "java/lang/UnsupportedOperationException") (by decide +kernel))) (ex_h hz1) ?_
  · exact fun y hy => by
      simp only [List.mem_cons, List.not_mem_nil, or_false] at hy
      rcases hy with rfl
      exact ⟨ex_ct hz0 (by decide), "java/lang/IllegalArgumentException", by rw [ex_c hz0]; exact hW _ tw_91, xt_nca (hT.2 (.not (.castable "java/lang/UnsupportedOperationException" "java/lang/IllegalArgumentException")) (by decide +kernel))⟩
  refine lv_astore (lv' := [(5, .ref xa), (0, .ref (o 0)), (1, .long b), (3, .int v), (4, .ref oa)]) hx hb dL_feed_18 hl (by decide) rfl (fun ls hl => ?_)
  refine lv_iconst (v := nI 2) hx hb dL_feed_20 (by decide) ?_
  have hP : va_P D vwCl ((wC o ad cI cZ cG (nI t) lc wc dc pn sl isw mem) ++ wO oa cJ f) H := hP
  have hD : va_D A ((wC o ad cI cZ cG (nI t) lc wc dc pn sl isw mem) ++ wO oa cJ f) := hD
  exact ti_ret hx hb hr rfl hlk rfl hS hP hD rfl dL_feed_21 (Nat.le_of_ble_eq_true rfl) (Nat.le_of_ble_eq_true rfl)
set_option maxHeartbeats 4000000 in
set_option maxRecDepth 100000 in
theorem w_leaf_ok {l : Launch} {D : va_G} {o ad : Nat → Nat} {cI cZ cG cJ : ClassId} {wc dc pn : Int32} {isw : Nat → Int32} (hl0 : l.stackTraces = false) (oa : Nat) (f : Nat → Int64) (q t n : Nat) (hq : q ≤ 24) (ht : t ≤ 200) (mem : Nat → Nat → Int32) (hX : x_if (¬ nI q < nI 24) nUOE = none) : MTi l lE yL_leaf (.codeWith yL_leaf cL_leaf 3 (some .int) [(0, 8, 11, 15)] :: tW) ({ frames := 8, cells := 3, slots := 18, locals := 300 }) D vwCl (tL cI cZ cG cJ) [.ref (o 0), .ref oa] ((wC o ad cI cZ cG (nI t) (nI q) wc dc pn (nI n) isw mem) ++ wO oa cJ f) ((wC o ad cI cZ cG (nI 0) (nI (q + 1)) wc dc pn (nI (p_leaf q t (n, mem)).1) isw (p_leaf q t (n, mem)).2) ++ wO oa cJ (vp_updL f 0 ((nI q).toInt64))) (nI 0) none 3 18 := by
  refine MTi.ofWW (by decide +kernel) rfl (Nat.le_of_ble_eq_true rfl) ?_
  intro p e s m below meth c A ls hx hb hr hts hown hlk hml hA hP hK hD hT hl htab
  have hS : va_S A s.heap s.heap [] := va_S.rf
  have hown : s.vm.findClass RL = some m.cls := hown
  have hW : ∀ w ∈ tW, w.before _ s = true := fun w h => hts w (List.mem_cons_of_mem _ h)
  have hl : lv_has ls 3 [(0, .ref (o 0)), (1, .ref oa)] := hl
  refine lv_aload_n hx hb dL_leaf_0 rfl (lv_at hl 1 rfl) ?_
  refine lv_iconst (v := nI 0) hx hb dL_leaf_1 (by decide) ?_
  refine lv_aload_n hx hb dL_leaf_2 rfl (lv_at hl 0 rfl) ?_
  refine ti_frV (C := RX1) (As := []) (rest := [.int (nI 0), .ref oa]) (wr := wO oa cJ f) ⟨hx, hb, hml, hown, hW⟩ (c_leaf (tl := nI 0) (lc := nI 0) hl0 q t n hq ht mem) hX gE_ok (cwV 0 hW (gV tw_185 tw_186 tw_187 tw_1 tw_188) rfl rfl rfl (by decide +kernel) ⟨Nat.le_of_ble_eq_true rfl, Nat.le_of_ble_eq_true rfl⟩) (va_recv hK hP (ci := 0) (q0 := 0) rfl rfl) hP hD (va_K.sub hK [0, 1, 2] rfl) hS hA hT.1 rfl hl.1 rfl (Nat.le_of_ble_eq_true rfl) dL_leaf_3 ⟨Nat.le_of_ble_eq_true rfl, Nat.le_of_ble_eq_true rfl⟩ (fun H locs hP hD hS => ?_)
  refine lv_i2l (v := (nI q).toInt64) hx hb dL_leaf_6 rfl ?_
  have hP := va_P_sw hP
  have hD := va_D_sw hD
  refine va_last hx hb hK hP hD hS 0 3 rfl rfl (vp_in_nI (show 0 < 1 by decide) (by decide)) dL_leaf_7 (fun H locs hP hD hS => ?_)
  have hP : va_P D vwCl (wO oa cJ (vp_updL f 0 ((nI q).toInt64)) ++ (wC o ad cI cZ cG (nI 0) (nI (q + 1)) wc dc pn (nI (p_leaf q t (n, mem)).1) isw (p_leaf q t (n, mem)).2)) H := hP
  have hD : va_D A (wO oa cJ (vp_updL f 0 ((nI q).toInt64)) ++ (wC o ad cI cZ cG (nI 0) (nI (q + 1)) wc dc pn (nI (p_leaf q t (n, mem)).1) isw (p_leaf q t (n, mem)).2)) := hD
  have hP := va_P_sw hP
  have hD := va_D_sw hD
  refine lv_goto (tgt := 14) hx hb dL_leaf_8 (by decide) ?_
  refine lv_iconst (v := nI 0) hx hb dL_leaf_14 (by decide) ?_
  have hP : va_P D vwCl ((wC o ad cI cZ cG (nI 0) (nI (q + 1)) wc dc pn (nI (p_leaf q t (n, mem)).1) isw (p_leaf q t (n, mem)).2) ++ wO oa cJ (vp_updL f 0 ((nI q).toInt64))) H := hP
  have hD : va_D A ((wC o ad cI cZ cG (nI 0) (nI (q + 1)) wc dc pn (nI (p_leaf q t (n, mem)).1) isw (p_leaf q t (n, mem)).2) ++ wO oa cJ (vp_updL f 0 ((nI q).toInt64))) := hD
  exact ti_ret hx hb hr rfl hlk rfl hS hP hD rfl dL_leaf_15 (Nat.le_of_ble_eq_true rfl) (Nat.le_of_ble_eq_true rfl)
set_option maxHeartbeats 4000000 in
set_option maxRecDepth 100000 in
theorem w_leaf_1 {l : Launch} {D : va_G} {o ad : Nat → Nat} {cI cZ cG cJ : ClassId} {wc dc pn : Int32} {isw : Nat → Int32} (hl0 : l.stackTraces = false) (oa : Nat) (f : Nat → Int64) (q t n : Nat) (hq : q ≤ 24) (ht : t ≤ 200) (mem : Nat → Nat → Int32) (hX : x_if (¬ nI q < nI 24) nUOE = some nUOE) : MTi l lE yL_leaf (.codeWith yL_leaf cL_leaf 3 (some .int) [(0, 8, 11, 15)] :: tW) ({ frames := 8, cells := 3, slots := 18, locals := 300 }) D vwCl (tL cI cZ cG cJ) [.ref (o 0), .ref oa] ((wC o ad cI cZ cG (nI t) (nI q) wc dc pn (nI n) isw mem) ++ wO oa cJ f) ((wC o ad cI cZ cG (nI t) (nI q) wc dc pn (nI n) isw mem) ++ wO oa cJ f) (nI 1) none 3 18 := by
  refine MTi.ofWW (by decide +kernel) rfl (Nat.le_of_ble_eq_true rfl) ?_
  intro p e s m below meth c A ls hx hb hr hts hown hlk hml hA hP hK hD hT hl htab
  have hS : va_S A s.heap s.heap [] := va_S.rf
  have hown : s.vm.findClass RL = some m.cls := hown
  have hW : ∀ w ∈ tW, w.before _ s = true := fun w h => hts w (List.mem_cons_of_mem _ h)
  have hl : lv_has ls 3 [(0, .ref (o 0)), (1, .ref oa)] := hl
  refine lv_aload_n hx hb dL_leaf_0 rfl (lv_at hl 1 rfl) ?_
  refine lv_iconst (v := nI 0) hx hb dL_leaf_1 (by decide) ?_
  refine lv_aload_n hx hb dL_leaf_2 rfl (lv_at hl 0 rfl) ?_
  refine ti_frN (C := RX1) (As := []) (rest := [.int (nI 0), .ref oa]) (wr := wO oa cJ f) ⟨hx, hb, hml, hown, hW⟩ (c_leaf (tl := nI 0) (lc := nI 0) hl0 q t n hq ht mem) hX gE_ok (cwV 0 hW (gV tw_185 tw_186 tw_187 tw_1 tw_188) rfl rfl rfl (by decide +kernel) ⟨Nat.le_of_ble_eq_true rfl, Nat.le_of_ble_eq_true rfl⟩) (va_recv hK hP (ci := 0) (q0 := 0) rfl rfl) hP hD (va_K.sub hK [0, 1, 2] rfl) hS hA hT.1 rfl hl.1 rfl (Nat.le_of_ble_eq_true rfl) dL_leaf_3 ⟨Nat.le_of_ble_eq_true rfl, Nat.le_of_ble_eq_true rfl⟩ (fun xa H locs hOb hP hS => ?_)
  obtain ⟨z0, hex, hz0⟩ := ex1 htab
  refine xt_catchT (name := "java/lang/UnsupportedOperationException") (pc' := 11) hown hOb [] [] z0 hex ?_ (ex_cov hz0 (by decide) (by decide)) (ex_ct hz0 (by decide)) (by rw [ex_c hz0]; exact hW _ tw_92) (va_any rfl (hT.1.2.2.2 (.castable "java/lang/UnsupportedOperationException" "java/lang/UnsupportedOperationException") (by decide +kernel))) (ex_h hz0) ?_
  · exact fun y hy => absurd hy List.not_mem_nil
  refine lv_astore_n (lv' := [(2, .ref xa), (0, .ref (o 0)), (1, .ref oa)]) hx hb dL_leaf_11 rfl hl (by decide) rfl (fun ls hl => ?_)
  refine lv_iconst (v := nI 1) hx hb dL_leaf_12 (by decide) ?_
  have hP : va_P D vwCl ((wC o ad cI cZ cG (nI t) (nI q) wc dc pn (nI n) isw mem) ++ wO oa cJ f) H := hP
  have hD : va_D A ((wC o ad cI cZ cG (nI t) (nI q) wc dc pn (nI n) isw mem) ++ wO oa cJ f) := hD
  exact ti_ret hx hb hr rfl hlk rfl hS hP hD rfl dL_leaf_13 (Nat.le_of_ble_eq_true rfl) (Nat.le_of_ble_eq_true rfl)
set_option maxHeartbeats 4000000 in
set_option maxRecDepth 100000 in
theorem w_close_ok {l : Launch} {D : va_G} {o ad : Nat → Nat} {cI cZ cG cJ : ClassId} {tl wc pn : Int32} {isw : Nat → Int32} (hl0 : l.stackTraces = false) (oa : Nat) (f : Nat → Int64) (q y n : Nat) (hq : q ≤ 24) (hy : y ≤ 12) (mem : Nat → Nat → Int32) (hX : x_if (¬ nI y < nI 12) nUOE = none) : MTi l lE yL_close (.codeWith yL_close cL_close 3 (some .int) [(0, 8, 11, 15)] :: tW) ({ frames := 8, cells := 3, slots := 18, locals := 300 }) D vwCl (tL cI cZ cG cJ) [.ref (o 0), .ref oa] ((wC o ad cI cZ cG tl (nI q) wc (nI y) pn (nI n) isw mem) ++ wO oa cJ f) ((wC o ad cI cZ cG tl (nI q) wc (nI (y + 1)) pn (nI (p_close q y (n, mem)).1) isw (p_close q y (n, mem)).2) ++ wO oa cJ (vp_updL f 0 ((nI y).toInt64))) (nI 0) none 3 18 := by
  refine MTi.ofWW (by decide +kernel) rfl (Nat.le_of_ble_eq_true rfl) ?_
  intro p e s m below meth c A ls hx hb hr hts hown hlk hml hA hP hK hD hT hl htab
  have hS : va_S A s.heap s.heap [] := va_S.rf
  have hown : s.vm.findClass RL = some m.cls := hown
  have hW : ∀ w ∈ tW, w.before _ s = true := fun w h => hts w (List.mem_cons_of_mem _ h)
  have hl : lv_has ls 3 [(0, .ref (o 0)), (1, .ref oa)] := hl
  refine lv_aload_n hx hb dL_close_0 rfl (lv_at hl 1 rfl) ?_
  refine lv_iconst (v := nI 0) hx hb dL_close_1 (by decide) ?_
  refine lv_aload_n hx hb dL_close_2 rfl (lv_at hl 0 rfl) ?_
  refine ti_frV (C := RX1) (As := []) (rest := [.int (nI 0), .ref oa]) (wr := wO oa cJ f) ⟨hx, hb, hml, hown, hW⟩ (c_close (lc := nI 0) (dc := nI 0) hl0 q y n hq hy mem) hX gE_ok (cwV 0 hW (gV tw_236 tw_237 tw_238 tw_1 tw_239) rfl rfl rfl (by decide +kernel) ⟨Nat.le_of_ble_eq_true rfl, Nat.le_of_ble_eq_true rfl⟩) (va_recv hK hP (ci := 0) (q0 := 0) rfl rfl) hP hD (va_K.sub hK [0, 1, 2] rfl) hS hA hT.1 rfl hl.1 rfl (Nat.le_of_ble_eq_true rfl) dL_close_3 ⟨Nat.le_of_ble_eq_true rfl, Nat.le_of_ble_eq_true rfl⟩ (fun H locs hP hD hS => ?_)
  refine lv_i2l (v := (nI y).toInt64) hx hb dL_close_6 rfl ?_
  have hP := va_P_sw hP
  have hD := va_D_sw hD
  refine va_last hx hb hK hP hD hS 0 3 rfl rfl (vp_in_nI (show 0 < 1 by decide) (by decide)) dL_close_7 (fun H locs hP hD hS => ?_)
  have hP : va_P D vwCl (wO oa cJ (vp_updL f 0 ((nI y).toInt64)) ++ (wC o ad cI cZ cG tl (nI q) wc (nI (y + 1)) pn (nI (p_close q y (n, mem)).1) isw (p_close q y (n, mem)).2)) H := hP
  have hD : va_D A (wO oa cJ (vp_updL f 0 ((nI y).toInt64)) ++ (wC o ad cI cZ cG tl (nI q) wc (nI (y + 1)) pn (nI (p_close q y (n, mem)).1) isw (p_close q y (n, mem)).2)) := hD
  have hP := va_P_sw hP
  have hD := va_D_sw hD
  refine lv_goto (tgt := 14) hx hb dL_close_8 (by decide) ?_
  refine lv_iconst (v := nI 0) hx hb dL_close_14 (by decide) ?_
  have hP : va_P D vwCl ((wC o ad cI cZ cG tl (nI q) wc (nI (y + 1)) pn (nI (p_close q y (n, mem)).1) isw (p_close q y (n, mem)).2) ++ wO oa cJ (vp_updL f 0 ((nI y).toInt64))) H := hP
  have hD : va_D A ((wC o ad cI cZ cG tl (nI q) wc (nI (y + 1)) pn (nI (p_close q y (n, mem)).1) isw (p_close q y (n, mem)).2) ++ wO oa cJ (vp_updL f 0 ((nI y).toInt64))) := hD
  exact ti_ret hx hb hr rfl hlk rfl hS hP hD rfl dL_close_15 (Nat.le_of_ble_eq_true rfl) (Nat.le_of_ble_eq_true rfl)
set_option maxHeartbeats 4000000 in
set_option maxRecDepth 100000 in
theorem w_close_1 {l : Launch} {D : va_G} {o ad : Nat → Nat} {cI cZ cG cJ : ClassId} {tl wc pn : Int32} {isw : Nat → Int32} (hl0 : l.stackTraces = false) (oa : Nat) (f : Nat → Int64) (q y n : Nat) (hq : q ≤ 24) (hy : y ≤ 12) (mem : Nat → Nat → Int32) (hX : x_if (¬ nI y < nI 12) nUOE = some nUOE) : MTi l lE yL_close (.codeWith yL_close cL_close 3 (some .int) [(0, 8, 11, 15)] :: tW) ({ frames := 8, cells := 3, slots := 18, locals := 300 }) D vwCl (tL cI cZ cG cJ) [.ref (o 0), .ref oa] ((wC o ad cI cZ cG tl (nI q) wc (nI y) pn (nI n) isw mem) ++ wO oa cJ f) ((wC o ad cI cZ cG tl (nI q) wc (nI y) pn (nI n) isw mem) ++ wO oa cJ f) (nI 1) none 3 18 := by
  refine MTi.ofWW (by decide +kernel) rfl (Nat.le_of_ble_eq_true rfl) ?_
  intro p e s m below meth c A ls hx hb hr hts hown hlk hml hA hP hK hD hT hl htab
  have hS : va_S A s.heap s.heap [] := va_S.rf
  have hown : s.vm.findClass RL = some m.cls := hown
  have hW : ∀ w ∈ tW, w.before _ s = true := fun w h => hts w (List.mem_cons_of_mem _ h)
  have hl : lv_has ls 3 [(0, .ref (o 0)), (1, .ref oa)] := hl
  refine lv_aload_n hx hb dL_close_0 rfl (lv_at hl 1 rfl) ?_
  refine lv_iconst (v := nI 0) hx hb dL_close_1 (by decide) ?_
  refine lv_aload_n hx hb dL_close_2 rfl (lv_at hl 0 rfl) ?_
  refine ti_frN (C := RX1) (As := []) (rest := [.int (nI 0), .ref oa]) (wr := wO oa cJ f) ⟨hx, hb, hml, hown, hW⟩ (c_close (lc := nI 0) (dc := nI 0) hl0 q y n hq hy mem) hX gE_ok (cwV 0 hW (gV tw_236 tw_237 tw_238 tw_1 tw_239) rfl rfl rfl (by decide +kernel) ⟨Nat.le_of_ble_eq_true rfl, Nat.le_of_ble_eq_true rfl⟩) (va_recv hK hP (ci := 0) (q0 := 0) rfl rfl) hP hD (va_K.sub hK [0, 1, 2] rfl) hS hA hT.1 rfl hl.1 rfl (Nat.le_of_ble_eq_true rfl) dL_close_3 ⟨Nat.le_of_ble_eq_true rfl, Nat.le_of_ble_eq_true rfl⟩ (fun xa H locs hOb hP hS => ?_)
  obtain ⟨z0, hex, hz0⟩ := ex1 htab
  refine xt_catchT (name := "java/lang/UnsupportedOperationException") (pc' := 11) hown hOb [] [] z0 hex ?_ (ex_cov hz0 (by decide) (by decide)) (ex_ct hz0 (by decide)) (by rw [ex_c hz0]; exact hW _ tw_92) (va_any rfl (hT.1.2.2.2 (.castable "java/lang/UnsupportedOperationException" "java/lang/UnsupportedOperationException") (by decide +kernel))) (ex_h hz0) ?_
  · exact fun y hy => absurd hy List.not_mem_nil
  refine lv_astore_n (lv' := [(2, .ref xa), (0, .ref (o 0)), (1, .ref oa)]) hx hb dL_close_11 rfl hl (by decide) rfl (fun ls hl => ?_)
  refine lv_iconst (v := nI 1) hx hb dL_close_12 (by decide) ?_
  have hP : va_P D vwCl ((wC o ad cI cZ cG tl (nI q) wc (nI y) pn (nI n) isw mem) ++ wO oa cJ f) H := hP
  have hD : va_D A ((wC o ad cI cZ cG tl (nI q) wc (nI y) pn (nI n) isw mem) ++ wO oa cJ f) := hD
  exact ti_ret hx hb hr rfl hlk rfl hS hP hD rfl dL_close_13 (Nat.le_of_ble_eq_true rfl) (Nat.le_of_ble_eq_true rfl)
set_option maxHeartbeats 4000000 in
set_option maxRecDepth 100000 in
theorem w_root_ok {l : Launch} {D : va_G} {o ad : Nat → Nat} {cI cZ cG cJ : ClassId} {tl lc wc pn : Int32} {isw : Nat → Int32} (hl0 : l.stackTraces = false) (oa : Nat) (f : Nat → Int64) (y : Nat) (hy : y ≤ 12) (v u sl : Int32) (mem : Nat → Nat → Int32) (hX : (x_req v (nI y)).or (x_req u (nI 32)) = none) : MTi l lE yL_root (.codeWith yL_root cL_root 5 (some .int) [(0, 10, 13, 28)] :: tW) ({ frames := 8, cells := 3, slots := 18, locals := 300 }) D vwCl (tL cI cZ cG cJ) [.ref (o 0), .int v, .int u, .ref oa] ((wC o ad cI cZ cG tl lc wc (nI y) pn sl isw mem) ++ wO oa cJ f) ((wC o ad cI cZ cG tl lc wc (nI y) pn sl isw mem) ++ wO oa cJ (vp_updL f 0 ((mem (30 + tn v) (tn u)).toInt64))) (nI 0) none 3 18 := by
  refine MTi.ofWW (by decide +kernel) rfl (Nat.le_of_ble_eq_true rfl) ?_
  intro p e s m below meth c A ls hx hb hr hts hown hlk hml hA hP hK hD hT hl htab
  have hS : va_S A s.heap s.heap [] := va_S.rf
  have hown : s.vm.findClass RL = some m.cls := hown
  have hW : ∀ w ∈ tW, w.before _ s = true := fun w h => hts w (List.mem_cons_of_mem _ h)
  have hl : lv_has ls 5 [(0, .ref (o 0)), (1, .int v), (2, .int u), (3, .ref oa)] := hl
  refine lv_aload_n hx hb dL_root_0 rfl (lv_at hl 3 rfl) ?_
  refine lv_iconst (v := nI 0) hx hb dL_root_1 (by decide) ?_
  refine lv_aload_n hx hb dL_root_2 rfl (lv_at hl 0 rfl) ?_
  refine lv_iload_n hx hb dL_root_3 rfl (lv_at hl 1 rfl) ?_
  refine lv_iload_n hx hb dL_root_4 rfl (lv_at hl 2 rfl) ?_
  refine ti_frV (C := RX1) (As := [.int v, .int u]) (rest := [.int (nI 0), .ref oa]) (wr := wO oa cJ f) ⟨hx, hb, hml, hown, hW⟩ (c_root (dc := nI 0) hl0 y hy v u sl mem) hX gE_ok (cwV 2 hW (gV tw_265 tw_266 tw_267 tw_1 tw_268) rfl rfl rfl (by decide +kernel) ⟨Nat.le_of_ble_eq_true rfl, Nat.le_of_ble_eq_true rfl⟩) (va_recv hK hP (ci := 0) (q0 := 0) rfl rfl) hP hD (va_K.sub hK [0, 1, 2] rfl) hS hA hT.1 rfl hl.1 rfl (Nat.le_of_ble_eq_true rfl) dL_root_5 ⟨Nat.le_of_ble_eq_true rfl, Nat.le_of_ble_eq_true rfl⟩ (fun H locs hP hD hS => ?_)
  refine lv_i2l (v := (mem (30 + tn v) (tn u)).toInt64) hx hb dL_root_8 rfl ?_
  have hP := va_P_sw hP
  have hD := va_D_sw hD
  refine va_last hx hb hK hP hD hS 0 3 rfl rfl (vp_in_nI (show 0 < 1 by decide) (by decide)) dL_root_9 (fun H locs hP hD hS => ?_)
  have hP : va_P D vwCl (wO oa cJ (vp_updL f 0 ((mem (30 + tn v) (tn u)).toInt64)) ++ (wC o ad cI cZ cG tl lc wc (nI y) pn sl isw mem)) H := hP
  have hD : va_D A (wO oa cJ (vp_updL f 0 ((mem (30 + tn v) (tn u)).toInt64)) ++ (wC o ad cI cZ cG tl lc wc (nI y) pn sl isw mem)) := hD
  have hP := va_P_sw hP
  have hD := va_D_sw hD
  refine lv_goto (tgt := 17) hx hb dL_root_10 (by decide) ?_
  refine lv_iconst (v := nI 0) hx hb dL_root_17 (by decide) ?_
  have hP : va_P D vwCl ((wC o ad cI cZ cG tl lc wc (nI y) pn sl isw mem) ++ wO oa cJ (vp_updL f 0 ((mem (30 + tn v) (tn u)).toInt64))) H := hP
  have hD : va_D A ((wC o ad cI cZ cG tl lc wc (nI y) pn sl isw mem) ++ wO oa cJ (vp_updL f 0 ((mem (30 + tn v) (tn u)).toInt64))) := hD
  exact ti_ret hx hb hr rfl hlk rfl hS hP hD rfl dL_root_18 (Nat.le_of_ble_eq_true rfl) (Nat.le_of_ble_eq_true rfl)
set_option maxHeartbeats 4000000 in
set_option maxRecDepth 100000 in
theorem w_root_1 {l : Launch} {D : va_G} {o ad : Nat → Nat} {cI cZ cG cJ : ClassId} {tl lc wc pn : Int32} {isw : Nat → Int32} (hl0 : l.stackTraces = false) (oa : Nat) (f : Nat → Int64) (y : Nat) (hy : y ≤ 12) (v u sl : Int32) (mem : Nat → Nat → Int32) (hX : (x_req v (nI y)).or (x_req u (nI 32)) = some nIOB) : MTi l lE yL_root (.codeWith yL_root cL_root 5 (some .int) [(0, 10, 13, 28)] :: tW) ({ frames := 8, cells := 3, slots := 18, locals := 300 }) D vwCl (tL cI cZ cG cJ) [.ref (o 0), .int v, .int u, .ref oa] ((wC o ad cI cZ cG tl lc wc (nI y) pn sl isw mem) ++ wO oa cJ f) ((wC o ad cI cZ cG tl lc wc (nI y) pn sl isw mem) ++ wO oa cJ f) (nI 1) none 3 18 := by
  refine MTi.ofWW (by decide +kernel) rfl (Nat.le_of_ble_eq_true rfl) ?_
  intro p e s m below meth c A ls hx hb hr hts hown hlk hml hA hP hK hD hT hl htab
  have hS : va_S A s.heap s.heap [] := va_S.rf
  have hown : s.vm.findClass RL = some m.cls := hown
  have hW : ∀ w ∈ tW, w.before _ s = true := fun w h => hts w (List.mem_cons_of_mem _ h)
  have hl : lv_has ls 5 [(0, .ref (o 0)), (1, .int v), (2, .int u), (3, .ref oa)] := hl
  refine lv_aload_n hx hb dL_root_0 rfl (lv_at hl 3 rfl) ?_
  refine lv_iconst (v := nI 0) hx hb dL_root_1 (by decide) ?_
  refine lv_aload_n hx hb dL_root_2 rfl (lv_at hl 0 rfl) ?_
  refine lv_iload_n hx hb dL_root_3 rfl (lv_at hl 1 rfl) ?_
  refine lv_iload_n hx hb dL_root_4 rfl (lv_at hl 2 rfl) ?_
  refine ti_frN (C := RX1) (As := [.int v, .int u]) (rest := [.int (nI 0), .ref oa]) (wr := wO oa cJ f) ⟨hx, hb, hml, hown, hW⟩ (c_root (dc := nI 0) hl0 y hy v u sl mem) hX gE_ok (cwV 2 hW (gV tw_265 tw_266 tw_267 tw_1 tw_268) rfl rfl rfl (by decide +kernel) ⟨Nat.le_of_ble_eq_true rfl, Nat.le_of_ble_eq_true rfl⟩) (va_recv hK hP (ci := 0) (q0 := 0) rfl rfl) hP hD (va_K.sub hK [0, 1, 2] rfl) hS hA hT.1 rfl hl.1 rfl (Nat.le_of_ble_eq_true rfl) dL_root_5 ⟨Nat.le_of_ble_eq_true rfl, Nat.le_of_ble_eq_true rfl⟩ (fun xa H locs hOb hP hS => ?_)
  obtain ⟨z0, hex, hz0⟩ := ex1 htab
  refine xt_catchT (name := "java/lang/IndexOutOfBoundsException") (pc' := 13) hown hOb [] [] z0 hex ?_ (ex_cov hz0 (by decide) (by decide)) (ex_ct hz0 (by decide)) (by rw [ex_c hz0]; exact hW _ tw_264) (va_any rfl (hT.1.2.2.2 (.castable "java/lang/IndexOutOfBoundsException" "java/lang/IndexOutOfBoundsException") (by decide +kernel))) (ex_h hz0) ?_
  · exact fun y hy => absurd hy List.not_mem_nil
  refine lv_astore (lv' := [(4, .ref xa), (0, .ref (o 0)), (1, .int v), (2, .int u), (3, .ref oa)]) hx hb dL_root_13 hl (by decide) rfl (fun ls hl => ?_)
  refine lv_iconst (v := nI 1) hx hb dL_root_15 (by decide) ?_
  have hP : va_P D vwCl ((wC o ad cI cZ cG tl lc wc (nI y) pn sl isw mem) ++ wO oa cJ f) H := hP
  have hD : va_D A ((wC o ad cI cZ cG tl lc wc (nI y) pn sl isw mem) ++ wO oa cJ f) := hD
  exact ti_ret hx hb hr rfl hlk rfl hS hP hD rfl dL_root_16 (Nat.le_of_ble_eq_true rfl) (Nat.le_of_ble_eq_true rfl)
set_option maxHeartbeats 4000000 in
set_option maxRecDepth 100000 in
theorem w_digest_ok {l : Launch} {D : va_G} {o ad : Nat → Nat} {cI cZ cG cJ : ClassId} {tl wc dc pn : Int32} {isw : Nat → Int32} (hl0 : l.stackTraces = false) (oa : Nat) (f : Nat → Int64) (q : Nat) (hq : q ≤ 24) (v u sl : Int32) (mem : Nat → Nat → Int32) (hX : (x_req v (nI q)).or (x_req u (nI 32)) = none) : MTi l lE yL_digest (.codeWith yL_digest cL_digest 5 (some .int) [(0, 10, 13, 28)] :: tW) ({ frames := 8, cells := 3, slots := 18, locals := 300 }) D vwCl (tL cI cZ cG cJ) [.ref (o 0), .int v, .int u, .ref oa] ((wC o ad cI cZ cG tl (nI q) wc dc pn sl isw mem) ++ wO oa cJ f) ((wC o ad cI cZ cG tl (nI q) wc dc pn sl isw mem) ++ wO oa cJ (vp_updL f 0 ((mem (6 + tn v) (tn u)).toInt64))) (nI 0) none 3 18 := by
  refine MTi.ofWW (by decide +kernel) rfl (Nat.le_of_ble_eq_true rfl) ?_
  intro p e s m below meth c A ls hx hb hr hts hown hlk hml hA hP hK hD hT hl htab
  have hS : va_S A s.heap s.heap [] := va_S.rf
  have hown : s.vm.findClass RL = some m.cls := hown
  have hW : ∀ w ∈ tW, w.before _ s = true := fun w h => hts w (List.mem_cons_of_mem _ h)
  have hl : lv_has ls 5 [(0, .ref (o 0)), (1, .int v), (2, .int u), (3, .ref oa)] := hl
  refine lv_aload_n hx hb dL_digest_0 rfl (lv_at hl 3 rfl) ?_
  refine lv_iconst (v := nI 0) hx hb dL_digest_1 (by decide) ?_
  refine lv_aload_n hx hb dL_digest_2 rfl (lv_at hl 0 rfl) ?_
  refine lv_iload_n hx hb dL_digest_3 rfl (lv_at hl 1 rfl) ?_
  refine lv_iload_n hx hb dL_digest_4 rfl (lv_at hl 2 rfl) ?_
  refine ti_frV (C := RX1) (As := [.int v, .int u]) (rest := [.int (nI 0), .ref oa]) (wr := wO oa cJ f) ⟨hx, hb, hml, hown, hW⟩ (c_digest (lc := nI 0) hl0 q hq v u sl mem) hX gE_ok (cwV 2 hW (gV tw_296 tw_297 tw_298 tw_1 tw_299) rfl rfl rfl (by decide +kernel) ⟨Nat.le_of_ble_eq_true rfl, Nat.le_of_ble_eq_true rfl⟩) (va_recv hK hP (ci := 0) (q0 := 0) rfl rfl) hP hD (va_K.sub hK [0, 1, 2] rfl) hS hA hT.1 rfl hl.1 rfl (Nat.le_of_ble_eq_true rfl) dL_digest_5 ⟨Nat.le_of_ble_eq_true rfl, Nat.le_of_ble_eq_true rfl⟩ (fun H locs hP hD hS => ?_)
  refine lv_i2l (v := (mem (6 + tn v) (tn u)).toInt64) hx hb dL_digest_8 rfl ?_
  have hP := va_P_sw hP
  have hD := va_D_sw hD
  refine va_last hx hb hK hP hD hS 0 3 rfl rfl (vp_in_nI (show 0 < 1 by decide) (by decide)) dL_digest_9 (fun H locs hP hD hS => ?_)
  have hP : va_P D vwCl (wO oa cJ (vp_updL f 0 ((mem (6 + tn v) (tn u)).toInt64)) ++ (wC o ad cI cZ cG tl (nI q) wc dc pn sl isw mem)) H := hP
  have hD : va_D A (wO oa cJ (vp_updL f 0 ((mem (6 + tn v) (tn u)).toInt64)) ++ (wC o ad cI cZ cG tl (nI q) wc dc pn sl isw mem)) := hD
  have hP := va_P_sw hP
  have hD := va_D_sw hD
  refine lv_goto (tgt := 17) hx hb dL_digest_10 (by decide) ?_
  refine lv_iconst (v := nI 0) hx hb dL_digest_17 (by decide) ?_
  have hP : va_P D vwCl ((wC o ad cI cZ cG tl (nI q) wc dc pn sl isw mem) ++ wO oa cJ (vp_updL f 0 ((mem (6 + tn v) (tn u)).toInt64))) H := hP
  have hD : va_D A ((wC o ad cI cZ cG tl (nI q) wc dc pn sl isw mem) ++ wO oa cJ (vp_updL f 0 ((mem (6 + tn v) (tn u)).toInt64))) := hD
  exact ti_ret hx hb hr rfl hlk rfl hS hP hD rfl dL_digest_18 (Nat.le_of_ble_eq_true rfl) (Nat.le_of_ble_eq_true rfl)
set_option maxHeartbeats 4000000 in
set_option maxRecDepth 100000 in
theorem w_digest_1 {l : Launch} {D : va_G} {o ad : Nat → Nat} {cI cZ cG cJ : ClassId} {tl wc dc pn : Int32} {isw : Nat → Int32} (hl0 : l.stackTraces = false) (oa : Nat) (f : Nat → Int64) (q : Nat) (hq : q ≤ 24) (v u sl : Int32) (mem : Nat → Nat → Int32) (hX : (x_req v (nI q)).or (x_req u (nI 32)) = some nIOB) : MTi l lE yL_digest (.codeWith yL_digest cL_digest 5 (some .int) [(0, 10, 13, 28)] :: tW) ({ frames := 8, cells := 3, slots := 18, locals := 300 }) D vwCl (tL cI cZ cG cJ) [.ref (o 0), .int v, .int u, .ref oa] ((wC o ad cI cZ cG tl (nI q) wc dc pn sl isw mem) ++ wO oa cJ f) ((wC o ad cI cZ cG tl (nI q) wc dc pn sl isw mem) ++ wO oa cJ f) (nI 1) none 3 18 := by
  refine MTi.ofWW (by decide +kernel) rfl (Nat.le_of_ble_eq_true rfl) ?_
  intro p e s m below meth c A ls hx hb hr hts hown hlk hml hA hP hK hD hT hl htab
  have hS : va_S A s.heap s.heap [] := va_S.rf
  have hown : s.vm.findClass RL = some m.cls := hown
  have hW : ∀ w ∈ tW, w.before _ s = true := fun w h => hts w (List.mem_cons_of_mem _ h)
  have hl : lv_has ls 5 [(0, .ref (o 0)), (1, .int v), (2, .int u), (3, .ref oa)] := hl
  refine lv_aload_n hx hb dL_digest_0 rfl (lv_at hl 3 rfl) ?_
  refine lv_iconst (v := nI 0) hx hb dL_digest_1 (by decide) ?_
  refine lv_aload_n hx hb dL_digest_2 rfl (lv_at hl 0 rfl) ?_
  refine lv_iload_n hx hb dL_digest_3 rfl (lv_at hl 1 rfl) ?_
  refine lv_iload_n hx hb dL_digest_4 rfl (lv_at hl 2 rfl) ?_
  refine ti_frN (C := RX1) (As := [.int v, .int u]) (rest := [.int (nI 0), .ref oa]) (wr := wO oa cJ f) ⟨hx, hb, hml, hown, hW⟩ (c_digest (lc := nI 0) hl0 q hq v u sl mem) hX gE_ok (cwV 2 hW (gV tw_296 tw_297 tw_298 tw_1 tw_299) rfl rfl rfl (by decide +kernel) ⟨Nat.le_of_ble_eq_true rfl, Nat.le_of_ble_eq_true rfl⟩) (va_recv hK hP (ci := 0) (q0 := 0) rfl rfl) hP hD (va_K.sub hK [0, 1, 2] rfl) hS hA hT.1 rfl hl.1 rfl (Nat.le_of_ble_eq_true rfl) dL_digest_5 ⟨Nat.le_of_ble_eq_true rfl, Nat.le_of_ble_eq_true rfl⟩ (fun xa H locs hOb hP hS => ?_)
  obtain ⟨z0, hex, hz0⟩ := ex1 htab
  refine xt_catchT (name := "java/lang/IndexOutOfBoundsException") (pc' := 13) hown hOb [] [] z0 hex ?_ (ex_cov hz0 (by decide) (by decide)) (ex_ct hz0 (by decide)) (by rw [ex_c hz0]; exact hW _ tw_264) (va_any rfl (hT.1.2.2.2 (.castable "java/lang/IndexOutOfBoundsException" "java/lang/IndexOutOfBoundsException") (by decide +kernel))) (ex_h hz0) ?_
  · exact fun y hy => absurd hy List.not_mem_nil
  refine lv_astore (lv' := [(4, .ref xa), (0, .ref (o 0)), (1, .int v), (2, .int u), (3, .ref oa)]) hx hb dL_digest_13 hl (by decide) rfl (fun ls hl => ?_)
  refine lv_iconst (v := nI 1) hx hb dL_digest_15 (by decide) ?_
  have hP : va_P D vwCl ((wC o ad cI cZ cG tl (nI q) wc dc pn sl isw mem) ++ wO oa cJ f) H := hP
  have hD : va_D A ((wC o ad cI cZ cG tl (nI q) wc dc pn sl isw mem) ++ wO oa cJ f) := hD
  exact ti_ret hx hb hr rfl hlk rfl hS hP hD rfl dL_digest_16 (Nat.le_of_ble_eq_true rfl) (Nat.le_of_ble_eq_true rfl)
set_option maxHeartbeats 4000000 in
set_option maxRecDepth 100000 in
theorem w_count_ok {l : Launch} {D : va_G} {o ad : Nat → Nat} {cI cZ cG cJ : ClassId} {tl lc wc pn : Int32} {isw : Nat → Int32} (hl0 : l.stackTraces = false) (oa : Nat) (f : Nat → Int64) (y : Nat) (hy : y ≤ 12) (v sl : Int32) (mem : Nat → Nat → Int32) (hX : x_req v (nI y) = none) : MTi l lE yL_count (.codeWith yL_count cL_count 4 (some .int) [(0, 9, 12, 28)] :: tW) ({ frames := 8, cells := 3, slots := 18, locals := 300 }) D vwCl (tL cI cZ cG cJ) [.ref (o 0), .int v, .ref oa] ((wC o ad cI cZ cG tl lc wc (nI y) pn sl isw mem) ++ wO oa cJ f) ((wC o ad cI cZ cG tl lc wc (nI y) pn sl isw mem) ++ wO oa cJ (vp_updL f 0 ((mem 1 (tn v)).toInt64))) (nI 0) none 3 18 := by
  refine MTi.ofWW (by decide +kernel) rfl (Nat.le_of_ble_eq_true rfl) ?_
  intro p e s m below meth c A ls hx hb hr hts hown hlk hml hA hP hK hD hT hl htab
  have hS : va_S A s.heap s.heap [] := va_S.rf
  have hown : s.vm.findClass RL = some m.cls := hown
  have hW : ∀ w ∈ tW, w.before _ s = true := fun w h => hts w (List.mem_cons_of_mem _ h)
  have hl : lv_has ls 4 [(0, .ref (o 0)), (1, .int v), (2, .ref oa)] := hl
  refine lv_aload_n hx hb dL_count_0 rfl (lv_at hl 2 rfl) ?_
  refine lv_iconst (v := nI 0) hx hb dL_count_1 (by decide) ?_
  refine lv_aload_n hx hb dL_count_2 rfl (lv_at hl 0 rfl) ?_
  refine lv_iload_n hx hb dL_count_3 rfl (lv_at hl 1 rfl) ?_
  refine ti_frV (C := RX1) (As := [.int v]) (rest := [.int (nI 0), .ref oa]) (wr := wO oa cJ f) ⟨hx, hb, hml, hown, hW⟩ (c_count (dc := nI 0) hl0 y hy v sl mem) hX gE_ok (cwV 1 hW (gV tw_308 tw_309 tw_310 tw_1 tw_311) rfl rfl rfl (by decide +kernel) ⟨Nat.le_of_ble_eq_true rfl, Nat.le_of_ble_eq_true rfl⟩) (va_recv hK hP (ci := 0) (q0 := 0) rfl rfl) hP hD (va_K.sub hK [0, 1, 2] rfl) hS hA hT.1 rfl hl.1 rfl (Nat.le_of_ble_eq_true rfl) dL_count_4 ⟨Nat.le_of_ble_eq_true rfl, Nat.le_of_ble_eq_true rfl⟩ (fun H locs hP hD hS => ?_)
  refine lv_i2l (v := (mem 1 (tn v)).toInt64) hx hb dL_count_7 rfl ?_
  have hP := va_P_sw hP
  have hD := va_D_sw hD
  refine va_last hx hb hK hP hD hS 0 3 rfl rfl (vp_in_nI (show 0 < 1 by decide) (by decide)) dL_count_8 (fun H locs hP hD hS => ?_)
  have hP : va_P D vwCl (wO oa cJ (vp_updL f 0 ((mem 1 (tn v)).toInt64)) ++ (wC o ad cI cZ cG tl lc wc (nI y) pn sl isw mem)) H := hP
  have hD : va_D A (wO oa cJ (vp_updL f 0 ((mem 1 (tn v)).toInt64)) ++ (wC o ad cI cZ cG tl lc wc (nI y) pn sl isw mem)) := hD
  have hP := va_P_sw hP
  have hD := va_D_sw hD
  refine lv_goto (tgt := 15) hx hb dL_count_9 (by decide) ?_
  refine lv_iconst (v := nI 0) hx hb dL_count_15 (by decide) ?_
  have hP : va_P D vwCl ((wC o ad cI cZ cG tl lc wc (nI y) pn sl isw mem) ++ wO oa cJ (vp_updL f 0 ((mem 1 (tn v)).toInt64))) H := hP
  have hD : va_D A ((wC o ad cI cZ cG tl lc wc (nI y) pn sl isw mem) ++ wO oa cJ (vp_updL f 0 ((mem 1 (tn v)).toInt64))) := hD
  exact ti_ret hx hb hr rfl hlk rfl hS hP hD rfl dL_count_16 (Nat.le_of_ble_eq_true rfl) (Nat.le_of_ble_eq_true rfl)
set_option maxHeartbeats 4000000 in
set_option maxRecDepth 100000 in
theorem w_count_1 {l : Launch} {D : va_G} {o ad : Nat → Nat} {cI cZ cG cJ : ClassId} {tl lc wc pn : Int32} {isw : Nat → Int32} (hl0 : l.stackTraces = false) (oa : Nat) (f : Nat → Int64) (y : Nat) (hy : y ≤ 12) (v sl : Int32) (mem : Nat → Nat → Int32) (hX : x_req v (nI y) = some nIOB) : MTi l lE yL_count (.codeWith yL_count cL_count 4 (some .int) [(0, 9, 12, 28)] :: tW) ({ frames := 8, cells := 3, slots := 18, locals := 300 }) D vwCl (tL cI cZ cG cJ) [.ref (o 0), .int v, .ref oa] ((wC o ad cI cZ cG tl lc wc (nI y) pn sl isw mem) ++ wO oa cJ f) ((wC o ad cI cZ cG tl lc wc (nI y) pn sl isw mem) ++ wO oa cJ f) (nI 1) none 3 18 := by
  refine MTi.ofWW (by decide +kernel) rfl (Nat.le_of_ble_eq_true rfl) ?_
  intro p e s m below meth c A ls hx hb hr hts hown hlk hml hA hP hK hD hT hl htab
  have hS : va_S A s.heap s.heap [] := va_S.rf
  have hown : s.vm.findClass RL = some m.cls := hown
  have hW : ∀ w ∈ tW, w.before _ s = true := fun w h => hts w (List.mem_cons_of_mem _ h)
  have hl : lv_has ls 4 [(0, .ref (o 0)), (1, .int v), (2, .ref oa)] := hl
  refine lv_aload_n hx hb dL_count_0 rfl (lv_at hl 2 rfl) ?_
  refine lv_iconst (v := nI 0) hx hb dL_count_1 (by decide) ?_
  refine lv_aload_n hx hb dL_count_2 rfl (lv_at hl 0 rfl) ?_
  refine lv_iload_n hx hb dL_count_3 rfl (lv_at hl 1 rfl) ?_
  refine ti_frN (C := RX1) (As := [.int v]) (rest := [.int (nI 0), .ref oa]) (wr := wO oa cJ f) ⟨hx, hb, hml, hown, hW⟩ (c_count (dc := nI 0) hl0 y hy v sl mem) hX gE_ok (cwV 1 hW (gV tw_308 tw_309 tw_310 tw_1 tw_311) rfl rfl rfl (by decide +kernel) ⟨Nat.le_of_ble_eq_true rfl, Nat.le_of_ble_eq_true rfl⟩) (va_recv hK hP (ci := 0) (q0 := 0) rfl rfl) hP hD (va_K.sub hK [0, 1, 2] rfl) hS hA hT.1 rfl hl.1 rfl (Nat.le_of_ble_eq_true rfl) dL_count_4 ⟨Nat.le_of_ble_eq_true rfl, Nat.le_of_ble_eq_true rfl⟩ (fun xa H locs hOb hP hS => ?_)
  obtain ⟨z0, hex, hz0⟩ := ex1 htab
  refine xt_catchT (name := "java/lang/IndexOutOfBoundsException") (pc' := 12) hown hOb [] [] z0 hex ?_ (ex_cov hz0 (by decide) (by decide)) (ex_ct hz0 (by decide)) (by rw [ex_c hz0]; exact hW _ tw_264) (va_any rfl (hT.1.2.2.2 (.castable "java/lang/IndexOutOfBoundsException" "java/lang/IndexOutOfBoundsException") (by decide +kernel))) (ex_h hz0) ?_
  · exact fun y hy => absurd hy List.not_mem_nil
  refine lv_astore_n (lv' := [(3, .ref xa), (0, .ref (o 0)), (1, .int v), (2, .ref oa)]) hx hb dL_count_12 rfl hl (by decide) rfl (fun ls hl => ?_)
  refine lv_iconst (v := nI 1) hx hb dL_count_13 (by decide) ?_
  have hP : va_P D vwCl ((wC o ad cI cZ cG tl lc wc (nI y) pn sl isw mem) ++ wO oa cJ f) H := hP
  have hD : va_D A ((wC o ad cI cZ cG tl lc wc (nI y) pn sl isw mem) ++ wO oa cJ f) := hD
  exact ti_ret hx hb hr rfl hlk rfl hS hP hD rfl dL_count_14 (Nat.le_of_ble_eq_true rfl) (Nat.le_of_ble_eq_true rfl)
set_option maxHeartbeats 4000000 in
set_option maxRecDepth 100000 in
theorem w_proof_ok {l : Launch} {D : va_G} {o ad : Nat → Nat} {cI cZ cG cJ : ClassId} {tl lc wc dc pn : Int32} {isw : Nat → Int32} (hl0 : l.stackTraces = false) (oa : Nat) (f : Nat → Int64) (hpn : pn ≤ nI 5) (v u sl : Int32) (mem : Nat → Nat → Int32) (hX : (x_req v pn).or (x_req u (nI 32)) = none) : MTi l lE yL_proof (.codeWith yL_proof cL_proof 5 (some .int) [(0, 10, 13, 28)] :: tW) ({ frames := 8, cells := 3, slots := 18, locals := 300 }) D vwCl (tL cI cZ cG cJ) [.ref (o 0), .int v, .int u, .ref oa] ((wC o ad cI cZ cG tl lc wc dc pn sl isw mem) ++ wO oa cJ f) ((wC o ad cI cZ cG tl lc wc dc pn sl isw mem) ++ wO oa cJ (vp_updL f 0 ((mem (42 + tn v) (tn u)).toInt64))) (nI 0) none 3 18 := by
  refine MTi.ofWW (by decide +kernel) rfl (Nat.le_of_ble_eq_true rfl) ?_
  intro p e s m below meth c A ls hx hb hr hts hown hlk hml hA hP hK hD hT hl htab
  have hS : va_S A s.heap s.heap [] := va_S.rf
  have hown : s.vm.findClass RL = some m.cls := hown
  have hW : ∀ w ∈ tW, w.before _ s = true := fun w h => hts w (List.mem_cons_of_mem _ h)
  have hl : lv_has ls 5 [(0, .ref (o 0)), (1, .int v), (2, .int u), (3, .ref oa)] := hl
  refine lv_aload_n hx hb dL_proof_0 rfl (lv_at hl 3 rfl) ?_
  refine lv_iconst (v := nI 0) hx hb dL_proof_1 (by decide) ?_
  refine lv_aload_n hx hb dL_proof_2 rfl (lv_at hl 0 rfl) ?_
  refine lv_iload_n hx hb dL_proof_3 rfl (lv_at hl 1 rfl) ?_
  refine lv_iload_n hx hb dL_proof_4 rfl (lv_at hl 2 rfl) ?_
  refine ti_frV (C := RX1) (As := [.int v, .int u]) (rest := [.int (nI 0), .ref oa]) (wr := wO oa cJ f) ⟨hx, hb, hml, hown, hW⟩ (c_proof hl0 hpn v u sl mem) hX gE_ok (cwV 2 hW (gV tw_349 tw_350 tw_351 tw_1 tw_352) rfl rfl rfl (by decide +kernel) ⟨Nat.le_of_ble_eq_true rfl, Nat.le_of_ble_eq_true rfl⟩) (va_recv hK hP (ci := 0) (q0 := 0) rfl rfl) hP hD (va_K.sub hK [0, 1, 2] rfl) hS hA hT.1 rfl hl.1 rfl (Nat.le_of_ble_eq_true rfl) dL_proof_5 ⟨Nat.le_of_ble_eq_true rfl, Nat.le_of_ble_eq_true rfl⟩ (fun H locs hP hD hS => ?_)
  refine lv_i2l (v := (mem (42 + tn v) (tn u)).toInt64) hx hb dL_proof_8 rfl ?_
  have hP := va_P_sw hP
  have hD := va_D_sw hD
  refine va_last hx hb hK hP hD hS 0 3 rfl rfl (vp_in_nI (show 0 < 1 by decide) (by decide)) dL_proof_9 (fun H locs hP hD hS => ?_)
  have hP : va_P D vwCl (wO oa cJ (vp_updL f 0 ((mem (42 + tn v) (tn u)).toInt64)) ++ (wC o ad cI cZ cG tl lc wc dc pn sl isw mem)) H := hP
  have hD : va_D A (wO oa cJ (vp_updL f 0 ((mem (42 + tn v) (tn u)).toInt64)) ++ (wC o ad cI cZ cG tl lc wc dc pn sl isw mem)) := hD
  have hP := va_P_sw hP
  have hD := va_D_sw hD
  refine lv_goto (tgt := 17) hx hb dL_proof_10 (by decide) ?_
  refine lv_iconst (v := nI 0) hx hb dL_proof_17 (by decide) ?_
  have hP : va_P D vwCl ((wC o ad cI cZ cG tl lc wc dc pn sl isw mem) ++ wO oa cJ (vp_updL f 0 ((mem (42 + tn v) (tn u)).toInt64))) H := hP
  have hD : va_D A ((wC o ad cI cZ cG tl lc wc dc pn sl isw mem) ++ wO oa cJ (vp_updL f 0 ((mem (42 + tn v) (tn u)).toInt64))) := hD
  exact ti_ret hx hb hr rfl hlk rfl hS hP hD rfl dL_proof_18 (Nat.le_of_ble_eq_true rfl) (Nat.le_of_ble_eq_true rfl)
set_option maxHeartbeats 4000000 in
set_option maxRecDepth 100000 in
theorem w_proof_1 {l : Launch} {D : va_G} {o ad : Nat → Nat} {cI cZ cG cJ : ClassId} {tl lc wc dc pn : Int32} {isw : Nat → Int32} (hl0 : l.stackTraces = false) (oa : Nat) (f : Nat → Int64) (hpn : pn ≤ nI 5) (v u sl : Int32) (mem : Nat → Nat → Int32) (hX : (x_req v pn).or (x_req u (nI 32)) = some nIOB) : MTi l lE yL_proof (.codeWith yL_proof cL_proof 5 (some .int) [(0, 10, 13, 28)] :: tW) ({ frames := 8, cells := 3, slots := 18, locals := 300 }) D vwCl (tL cI cZ cG cJ) [.ref (o 0), .int v, .int u, .ref oa] ((wC o ad cI cZ cG tl lc wc dc pn sl isw mem) ++ wO oa cJ f) ((wC o ad cI cZ cG tl lc wc dc pn sl isw mem) ++ wO oa cJ f) (nI 1) none 3 18 := by
  refine MTi.ofWW (by decide +kernel) rfl (Nat.le_of_ble_eq_true rfl) ?_
  intro p e s m below meth c A ls hx hb hr hts hown hlk hml hA hP hK hD hT hl htab
  have hS : va_S A s.heap s.heap [] := va_S.rf
  have hown : s.vm.findClass RL = some m.cls := hown
  have hW : ∀ w ∈ tW, w.before _ s = true := fun w h => hts w (List.mem_cons_of_mem _ h)
  have hl : lv_has ls 5 [(0, .ref (o 0)), (1, .int v), (2, .int u), (3, .ref oa)] := hl
  refine lv_aload_n hx hb dL_proof_0 rfl (lv_at hl 3 rfl) ?_
  refine lv_iconst (v := nI 0) hx hb dL_proof_1 (by decide) ?_
  refine lv_aload_n hx hb dL_proof_2 rfl (lv_at hl 0 rfl) ?_
  refine lv_iload_n hx hb dL_proof_3 rfl (lv_at hl 1 rfl) ?_
  refine lv_iload_n hx hb dL_proof_4 rfl (lv_at hl 2 rfl) ?_
  refine ti_frN (C := RX1) (As := [.int v, .int u]) (rest := [.int (nI 0), .ref oa]) (wr := wO oa cJ f) ⟨hx, hb, hml, hown, hW⟩ (c_proof hl0 hpn v u sl mem) hX gE_ok (cwV 2 hW (gV tw_349 tw_350 tw_351 tw_1 tw_352) rfl rfl rfl (by decide +kernel) ⟨Nat.le_of_ble_eq_true rfl, Nat.le_of_ble_eq_true rfl⟩) (va_recv hK hP (ci := 0) (q0 := 0) rfl rfl) hP hD (va_K.sub hK [0, 1, 2] rfl) hS hA hT.1 rfl hl.1 rfl (Nat.le_of_ble_eq_true rfl) dL_proof_5 ⟨Nat.le_of_ble_eq_true rfl, Nat.le_of_ble_eq_true rfl⟩ (fun xa H locs hOb hP hS => ?_)
  obtain ⟨z0, hex, hz0⟩ := ex1 htab
  refine xt_catchT (name := "java/lang/IndexOutOfBoundsException") (pc' := 13) hown hOb [] [] z0 hex ?_ (ex_cov hz0 (by decide) (by decide)) (ex_ct hz0 (by decide)) (by rw [ex_c hz0]; exact hW _ tw_264) (va_any rfl (hT.1.2.2.2 (.castable "java/lang/IndexOutOfBoundsException" "java/lang/IndexOutOfBoundsException") (by decide +kernel))) (ex_h hz0) ?_
  · exact fun y hy => absurd hy List.not_mem_nil
  refine lv_astore (lv' := [(4, .ref xa), (0, .ref (o 0)), (1, .int v), (2, .int u), (3, .ref oa)]) hx hb dL_proof_13 hl (by decide) rfl (fun ls hl => ?_)
  refine lv_iconst (v := nI 1) hx hb dL_proof_15 (by decide) ?_
  have hP : va_P D vwCl ((wC o ad cI cZ cG tl lc wc dc pn sl isw mem) ++ wO oa cJ f) H := hP
  have hD : va_D A ((wC o ad cI cZ cG tl lc wc dc pn sl isw mem) ++ wO oa cJ f) := hD
  exact ti_ret hx hb hr rfl hlk rfl hS hP hD rfl dL_proof_16 (Nat.le_of_ble_eq_true rfl) (Nat.le_of_ble_eq_true rfl)
set_option maxHeartbeats 4000000 in
set_option maxRecDepth 100000 in
theorem w_mark_ok {l : Launch} {D : va_G} {o ad : Nat → Nat} {cI cZ cG cJ : ClassId} {tl wc dc pn : Int32} {isw : Nat → Int32} (hl0 : l.stackTraces = false) (oa : Nat) (f : Nat → Int64) (q n : Nat) (hq : q ≤ 24) (v u : Int32) (k1 k2 : Int64) (mem : Nat → Nat → Int32) (hX : (x_req v (nI q)).or (x_req u (nI 32)) = none) : MTi l lE yL_mark (.codeWith yL_mark cL_mark 9 (some .int) [(0, 15, 18, 28)] :: tW) ({ frames := 8, cells := 3, slots := 18, locals := 300 }) D vwCl (tL cI cZ cG cJ) [.ref (o 0), .int v, .long k1, .long k2, .int u, .ref oa] ((wC o ad cI cZ cG tl (nI q) wc dc pn (nI n) isw mem) ++ wO oa cJ f) ((wC o ad cI cZ cG tl (nI q) wc dc pn (nI (p_mark (tn v) k1 k2 mem).1) isw (p_mark (tn v) k1 k2 mem).2) ++ wO oa cJ (vp_updL f 0 (((p_mark (tn v) k1 k2 mem).2 2 (tn u)).toInt64))) (nI 0) none 3 18 := by
  refine MTi.ofWW (by decide +kernel) rfl (Nat.le_of_ble_eq_true rfl) ?_
  intro p e s m below meth c A ls hx hb hr hts hown hlk hml hA hP hK hD hT hl htab
  have hS : va_S A s.heap s.heap [] := va_S.rf
  have hown : s.vm.findClass RL = some m.cls := hown
  have hW : ∀ w ∈ tW, w.before _ s = true := fun w h => hts w (List.mem_cons_of_mem _ h)
  have hl : lv_has ls 9 [(0, .ref (o 0)), (1, .int v), (2, .long k1), (4, .long k2), (6, .int u), (7, .ref oa)] := hl
  refine lv_aload hx hb dL_mark_0 (lv_at hl 5 rfl) ?_
  refine lv_iconst (v := nI 0) hx hb dL_mark_2 (by decide) ?_
  refine lv_aload_n hx hb dL_mark_3 rfl (lv_at hl 0 rfl) ?_
  refine lv_iload_n hx hb dL_mark_4 rfl (lv_at hl 1 rfl) ?_
  refine lv_lload_n hx hb dL_mark_5 rfl (lv_at hl 2 rfl) ?_
  refine lv_lload hx hb dL_mark_6 (lv_at hl 3 rfl) ?_
  refine lv_iload hx hb dL_mark_8 (lv_at hl 4 rfl) ?_
  refine ti_frV (C := RX1) (As := [.int v, .long k1, .long k2, .int u]) (rest := [.int (nI 0), .ref oa]) (wr := wO oa cJ f) ⟨hx, hb, hml, hown, hW⟩ (c_mark (lc := nI 0) hl0 q n hq v u k1 k2 mem) hX gE_ok (cwV 4 hW (gV tw_428 tw_429 tw_430 tw_1 tw_431) rfl rfl rfl (by decide +kernel) ⟨Nat.le_of_ble_eq_true rfl, Nat.le_of_ble_eq_true rfl⟩) (va_recv hK hP (ci := 0) (q0 := 0) rfl rfl) hP hD (va_K.sub hK [0, 1, 2] rfl) hS hA hT.1 rfl hl.1 rfl (Nat.le_of_ble_eq_true rfl) dL_mark_10 ⟨Nat.le_of_ble_eq_true rfl, Nat.le_of_ble_eq_true rfl⟩ (fun H locs hP hD hS => ?_)
  refine lv_i2l (v := ((p_mark (tn v) k1 k2 mem).2 2 (tn u)).toInt64) hx hb dL_mark_13 rfl ?_
  have hP := va_P_sw hP
  have hD := va_D_sw hD
  refine va_last hx hb hK hP hD hS 0 3 rfl rfl (vp_in_nI (show 0 < 1 by decide) (by decide)) dL_mark_14 (fun H locs hP hD hS => ?_)
  have hP : va_P D vwCl (wO oa cJ (vp_updL f 0 (((p_mark (tn v) k1 k2 mem).2 2 (tn u)).toInt64)) ++ (wC o ad cI cZ cG tl (nI q) wc dc pn (nI (p_mark (tn v) k1 k2 mem).1) isw (p_mark (tn v) k1 k2 mem).2)) H := hP
  have hD : va_D A (wO oa cJ (vp_updL f 0 (((p_mark (tn v) k1 k2 mem).2 2 (tn u)).toInt64)) ++ (wC o ad cI cZ cG tl (nI q) wc dc pn (nI (p_mark (tn v) k1 k2 mem).1) isw (p_mark (tn v) k1 k2 mem).2)) := hD
  have hP := va_P_sw hP
  have hD := va_D_sw hD
  refine lv_goto (tgt := 22) hx hb dL_mark_15 (by decide) ?_
  refine lv_iconst (v := nI 0) hx hb dL_mark_22 (by decide) ?_
  have hP : va_P D vwCl ((wC o ad cI cZ cG tl (nI q) wc dc pn (nI (p_mark (tn v) k1 k2 mem).1) isw (p_mark (tn v) k1 k2 mem).2) ++ wO oa cJ (vp_updL f 0 (((p_mark (tn v) k1 k2 mem).2 2 (tn u)).toInt64))) H := hP
  have hD : va_D A ((wC o ad cI cZ cG tl (nI q) wc dc pn (nI (p_mark (tn v) k1 k2 mem).1) isw (p_mark (tn v) k1 k2 mem).2) ++ wO oa cJ (vp_updL f 0 (((p_mark (tn v) k1 k2 mem).2 2 (tn u)).toInt64))) := hD
  exact ti_ret hx hb hr rfl hlk rfl hS hP hD rfl dL_mark_23 (Nat.le_of_ble_eq_true rfl) (Nat.le_of_ble_eq_true rfl)
set_option maxHeartbeats 4000000 in
set_option maxRecDepth 100000 in
theorem w_mark_1 {l : Launch} {D : va_G} {o ad : Nat → Nat} {cI cZ cG cJ : ClassId} {tl wc dc pn : Int32} {isw : Nat → Int32} (hl0 : l.stackTraces = false) (oa : Nat) (f : Nat → Int64) (q n : Nat) (hq : q ≤ 24) (v u : Int32) (k1 k2 : Int64) (mem : Nat → Nat → Int32) (hX : (x_req v (nI q)).or (x_req u (nI 32)) = some nIOB) : MTi l lE yL_mark (.codeWith yL_mark cL_mark 9 (some .int) [(0, 15, 18, 28)] :: tW) ({ frames := 8, cells := 3, slots := 18, locals := 300 }) D vwCl (tL cI cZ cG cJ) [.ref (o 0), .int v, .long k1, .long k2, .int u, .ref oa] ((wC o ad cI cZ cG tl (nI q) wc dc pn (nI n) isw mem) ++ wO oa cJ f) ((wC o ad cI cZ cG tl (nI q) wc dc pn (nI n) isw mem) ++ wO oa cJ f) (nI 1) none 3 18 := by
  refine MTi.ofWW (by decide +kernel) rfl (Nat.le_of_ble_eq_true rfl) ?_
  intro p e s m below meth c A ls hx hb hr hts hown hlk hml hA hP hK hD hT hl htab
  have hS : va_S A s.heap s.heap [] := va_S.rf
  have hown : s.vm.findClass RL = some m.cls := hown
  have hW : ∀ w ∈ tW, w.before _ s = true := fun w h => hts w (List.mem_cons_of_mem _ h)
  have hl : lv_has ls 9 [(0, .ref (o 0)), (1, .int v), (2, .long k1), (4, .long k2), (6, .int u), (7, .ref oa)] := hl
  refine lv_aload hx hb dL_mark_0 (lv_at hl 5 rfl) ?_
  refine lv_iconst (v := nI 0) hx hb dL_mark_2 (by decide) ?_
  refine lv_aload_n hx hb dL_mark_3 rfl (lv_at hl 0 rfl) ?_
  refine lv_iload_n hx hb dL_mark_4 rfl (lv_at hl 1 rfl) ?_
  refine lv_lload_n hx hb dL_mark_5 rfl (lv_at hl 2 rfl) ?_
  refine lv_lload hx hb dL_mark_6 (lv_at hl 3 rfl) ?_
  refine lv_iload hx hb dL_mark_8 (lv_at hl 4 rfl) ?_
  refine ti_frN (C := RX1) (As := [.int v, .long k1, .long k2, .int u]) (rest := [.int (nI 0), .ref oa]) (wr := wO oa cJ f) ⟨hx, hb, hml, hown, hW⟩ (c_mark (lc := nI 0) hl0 q n hq v u k1 k2 mem) hX gE_ok (cwV 4 hW (gV tw_428 tw_429 tw_430 tw_1 tw_431) rfl rfl rfl (by decide +kernel) ⟨Nat.le_of_ble_eq_true rfl, Nat.le_of_ble_eq_true rfl⟩) (va_recv hK hP (ci := 0) (q0 := 0) rfl rfl) hP hD (va_K.sub hK [0, 1, 2] rfl) hS hA hT.1 rfl hl.1 rfl (Nat.le_of_ble_eq_true rfl) dL_mark_10 ⟨Nat.le_of_ble_eq_true rfl, Nat.le_of_ble_eq_true rfl⟩ (fun xa H locs hOb hP hS => ?_)
  obtain ⟨z0, hex, hz0⟩ := ex1 htab
  refine xt_catchT (name := "java/lang/IndexOutOfBoundsException") (pc' := 18) hown hOb [] [] z0 hex ?_ (ex_cov hz0 (by decide) (by decide)) (ex_ct hz0 (by decide)) (by rw [ex_c hz0]; exact hW _ tw_264) (va_any rfl (hT.1.2.2.2 (.castable "java/lang/IndexOutOfBoundsException" "java/lang/IndexOutOfBoundsException") (by decide +kernel))) (ex_h hz0) ?_
  · exact fun y hy => absurd hy List.not_mem_nil
  refine lv_astore (lv' := [(8, .ref xa), (0, .ref (o 0)), (1, .int v), (2, .long k1), (4, .long k2), (6, .int u), (7, .ref oa)]) hx hb dL_mark_18 hl (by decide) rfl (fun ls hl => ?_)
  refine lv_iconst (v := nI 1) hx hb dL_mark_20 (by decide) ?_
  have hP : va_P D vwCl ((wC o ad cI cZ cG tl (nI q) wc dc pn (nI n) isw mem) ++ wO oa cJ f) H := hP
  have hD : va_D A ((wC o ad cI cZ cG tl (nI q) wc dc pn (nI n) isw mem) ++ wO oa cJ f) := hD
  exact ti_ret hx hb hr rfl hlk rfl hS hP hD rfl dL_mark_21 (Nat.le_of_ble_eq_true rfl) (Nat.le_of_ble_eq_true rfl)
set_option maxHeartbeats 4000000 in
set_option maxRecDepth 100000 in
theorem w_prove_ok {l : Launch} {D : va_G} {o ad : Nat → Nat} {cI cZ cG cJ : ClassId} {tl wc pn : Int32} {isw : Nat → Int32} (hl0 : l.stackTraces = false) (oa : Nat) (f : Nat → Int64) (q y n : Nat) (hq : q ≤ 24) (hy : y ≤ 12) (v u : Int32) (mem : Nat → Nat → Int32) (hm : ∀ d, d < y → mem 1 d = nI (tn (mem 1 d)) ∧ tn (mem 1 d) ≤ 24) (hX : (x_req v (nI q)).or ((x_req u (nI y)).or (x_if (¬ v < mem 1 (tn u)) nISE)) = none) : MTi l lE yL_prove (.codeWith yL_prove cL_prove 5 (some .int) [(0, 10, 13, 28), (0, 10, 17, 40)] :: tW) ({ frames := 8, cells := 3, slots := 18, locals := 300 }) D vwCl (tL cI cZ cG cJ) [.ref (o 0), .int v, .int u, .ref oa] ((wC o ad cI cZ cG tl (nI q) wc (nI y) pn (nI n) isw mem) ++ wO oa cJ f) ((wC o ad cI cZ cG tl (nI q) wc (nI y) (nI (p_path (tn v) (tn (mem 1 (tn u))) (n, mem)).1) (nI (p_path (tn v) (tn (mem 1 (tn u))) (n, mem)).2.1) isw (p_path (tn v) (tn (mem 1 (tn u))) (n, mem)).2.2) ++ wO oa cJ (vp_updL f 0 ((nI (p_path (tn v) (tn (mem 1 (tn u))) (n, mem)).1).toInt64))) (nI 0) none 3 18 := by
  refine MTi.ofWW (by decide +kernel) rfl (Nat.le_of_ble_eq_true rfl) ?_
  intro p e s m below meth c A ls hx hb hr hts hown hlk hml hA hP hK hD hT hl htab
  have hS : va_S A s.heap s.heap [] := va_S.rf
  have hown : s.vm.findClass RL = some m.cls := hown
  have hW : ∀ w ∈ tW, w.before _ s = true := fun w h => hts w (List.mem_cons_of_mem _ h)
  have hl : lv_has ls 5 [(0, .ref (o 0)), (1, .int v), (2, .int u), (3, .ref oa)] := hl
  refine lv_aload_n hx hb dL_prove_0 rfl (lv_at hl 3 rfl) ?_
  refine lv_iconst (v := nI 0) hx hb dL_prove_1 (by decide) ?_
  refine lv_aload_n hx hb dL_prove_2 rfl (lv_at hl 0 rfl) ?_
  refine lv_iload_n hx hb dL_prove_3 rfl (lv_at hl 1 rfl) ?_
  refine lv_iload_n hx hb dL_prove_4 rfl (lv_at hl 2 rfl) ?_
  refine ti_frV (C := RX1) (As := [.int v, .int u]) (rest := [.int (nI 0), .ref oa]) (wr := wO oa cJ f) ⟨hx, hb, hml, hown, hW⟩ (c_prove (lc := nI 0) (dc := nI 0) hl0 q y n hq hy v u mem hm) hX gE_ok (cwV 2 hW (gV tw_316 tw_317 tw_318 tw_1 tw_319) rfl rfl rfl (by decide +kernel) ⟨Nat.le_of_ble_eq_true rfl, Nat.le_of_ble_eq_true rfl⟩) (va_recv hK hP (ci := 0) (q0 := 0) rfl rfl) hP hD (va_K.sub hK [0, 1, 2] rfl) hS hA hT.1 rfl hl.1 rfl (Nat.le_of_ble_eq_true rfl) dL_prove_5 ⟨Nat.le_of_ble_eq_true rfl, Nat.le_of_ble_eq_true rfl⟩ (fun H locs hP hD hS => ?_)
  refine lv_i2l (v := (nI (p_path (tn v) (tn (mem 1 (tn u))) (n, mem)).1).toInt64) hx hb dL_prove_8 rfl ?_
  have hP := va_P_sw hP
  have hD := va_D_sw hD
  refine va_last hx hb hK hP hD hS 0 3 rfl rfl (vp_in_nI (show 0 < 1 by decide) (by decide)) dL_prove_9 (fun H locs hP hD hS => ?_)
  have hP : va_P D vwCl (wO oa cJ (vp_updL f 0 ((nI (p_path (tn v) (tn (mem 1 (tn u))) (n, mem)).1).toInt64)) ++ (wC o ad cI cZ cG tl (nI q) wc (nI y) (nI (p_path (tn v) (tn (mem 1 (tn u))) (n, mem)).1) (nI (p_path (tn v) (tn (mem 1 (tn u))) (n, mem)).2.1) isw (p_path (tn v) (tn (mem 1 (tn u))) (n, mem)).2.2)) H := hP
  have hD : va_D A (wO oa cJ (vp_updL f 0 ((nI (p_path (tn v) (tn (mem 1 (tn u))) (n, mem)).1).toInt64)) ++ (wC o ad cI cZ cG tl (nI q) wc (nI y) (nI (p_path (tn v) (tn (mem 1 (tn u))) (n, mem)).1) (nI (p_path (tn v) (tn (mem 1 (tn u))) (n, mem)).2.1) isw (p_path (tn v) (tn (mem 1 (tn u))) (n, mem)).2.2)) := hD
  have hP := va_P_sw hP
  have hD := va_D_sw hD
  refine lv_goto (tgt := 21) hx hb dL_prove_10 (by decide) ?_
  refine lv_iconst (v := nI 0) hx hb dL_prove_21 (by decide) ?_
  have hP : va_P D vwCl ((wC o ad cI cZ cG tl (nI q) wc (nI y) (nI (p_path (tn v) (tn (mem 1 (tn u))) (n, mem)).1) (nI (p_path (tn v) (tn (mem 1 (tn u))) (n, mem)).2.1) isw (p_path (tn v) (tn (mem 1 (tn u))) (n, mem)).2.2) ++ wO oa cJ (vp_updL f 0 ((nI (p_path (tn v) (tn (mem 1 (tn u))) (n, mem)).1).toInt64))) H := hP
  have hD : va_D A ((wC o ad cI cZ cG tl (nI q) wc (nI y) (nI (p_path (tn v) (tn (mem 1 (tn u))) (n, mem)).1) (nI (p_path (tn v) (tn (mem 1 (tn u))) (n, mem)).2.1) isw (p_path (tn v) (tn (mem 1 (tn u))) (n, mem)).2.2) ++ wO oa cJ (vp_updL f 0 ((nI (p_path (tn v) (tn (mem 1 (tn u))) (n, mem)).1).toInt64))) := hD
  exact ti_ret hx hb hr rfl hlk rfl hS hP hD rfl dL_prove_22 (Nat.le_of_ble_eq_true rfl) (Nat.le_of_ble_eq_true rfl)
set_option maxHeartbeats 4000000 in
set_option maxRecDepth 100000 in
theorem w_prove_1 {l : Launch} {D : va_G} {o ad : Nat → Nat} {cI cZ cG cJ : ClassId} {tl wc pn : Int32} {isw : Nat → Int32} (hl0 : l.stackTraces = false) (oa : Nat) (f : Nat → Int64) (q y n : Nat) (hq : q ≤ 24) (hy : y ≤ 12) (v u : Int32) (mem : Nat → Nat → Int32) (hm : ∀ d, d < y → mem 1 d = nI (tn (mem 1 d)) ∧ tn (mem 1 d) ≤ 24) (hX : (x_req v (nI q)).or ((x_req u (nI y)).or (x_if (¬ v < mem 1 (tn u)) nISE)) = some nIOB) : MTi l lE yL_prove (.codeWith yL_prove cL_prove 5 (some .int) [(0, 10, 13, 28), (0, 10, 17, 40)] :: tW) ({ frames := 8, cells := 3, slots := 18, locals := 300 }) D vwCl (tL cI cZ cG cJ) [.ref (o 0), .int v, .int u, .ref oa] ((wC o ad cI cZ cG tl (nI q) wc (nI y) pn (nI n) isw mem) ++ wO oa cJ f) ((wC o ad cI cZ cG tl (nI q) wc (nI y) pn (nI n) isw mem) ++ wO oa cJ f) (nI 1) none 3 18 := by
  refine MTi.ofWW (by decide +kernel) rfl (Nat.le_of_ble_eq_true rfl) ?_
  intro p e s m below meth c A ls hx hb hr hts hown hlk hml hA hP hK hD hT hl htab
  have hS : va_S A s.heap s.heap [] := va_S.rf
  have hown : s.vm.findClass RL = some m.cls := hown
  have hW : ∀ w ∈ tW, w.before _ s = true := fun w h => hts w (List.mem_cons_of_mem _ h)
  have hl : lv_has ls 5 [(0, .ref (o 0)), (1, .int v), (2, .int u), (3, .ref oa)] := hl
  refine lv_aload_n hx hb dL_prove_0 rfl (lv_at hl 3 rfl) ?_
  refine lv_iconst (v := nI 0) hx hb dL_prove_1 (by decide) ?_
  refine lv_aload_n hx hb dL_prove_2 rfl (lv_at hl 0 rfl) ?_
  refine lv_iload_n hx hb dL_prove_3 rfl (lv_at hl 1 rfl) ?_
  refine lv_iload_n hx hb dL_prove_4 rfl (lv_at hl 2 rfl) ?_
  refine ti_frN (C := RX1) (As := [.int v, .int u]) (rest := [.int (nI 0), .ref oa]) (wr := wO oa cJ f) ⟨hx, hb, hml, hown, hW⟩ (c_prove (lc := nI 0) (dc := nI 0) hl0 q y n hq hy v u mem hm) hX gE_ok (cwV 2 hW (gV tw_316 tw_317 tw_318 tw_1 tw_319) rfl rfl rfl (by decide +kernel) ⟨Nat.le_of_ble_eq_true rfl, Nat.le_of_ble_eq_true rfl⟩) (va_recv hK hP (ci := 0) (q0 := 0) rfl rfl) hP hD (va_K.sub hK [0, 1, 2] rfl) hS hA hT.1 rfl hl.1 rfl (Nat.le_of_ble_eq_true rfl) dL_prove_5 ⟨Nat.le_of_ble_eq_true rfl, Nat.le_of_ble_eq_true rfl⟩ (fun xa H locs hOb hP hS => ?_)
  obtain ⟨z0, z1, hex, hz0, hz1⟩ := ex2 htab
  refine xt_catchT (name := "java/lang/IndexOutOfBoundsException") (pc' := 13) hown hOb [] [z1] z0 hex ?_ (ex_cov hz0 (by decide) (by decide)) (ex_ct hz0 (by decide)) (by rw [ex_c hz0]; exact hW _ tw_264) (va_any rfl (hT.1.2.2.2 (.castable "java/lang/IndexOutOfBoundsException" "java/lang/IndexOutOfBoundsException") (by decide +kernel))) (ex_h hz0) ?_
  · exact fun y hy => absurd hy List.not_mem_nil
  refine lv_astore (lv' := [(4, .ref xa), (0, .ref (o 0)), (1, .int v), (2, .int u), (3, .ref oa)]) hx hb dL_prove_13 hl (by decide) rfl (fun ls hl => ?_)
  refine lv_iconst (v := nI 1) hx hb dL_prove_15 (by decide) ?_
  have hP : va_P D vwCl ((wC o ad cI cZ cG tl (nI q) wc (nI y) pn (nI n) isw mem) ++ wO oa cJ f) H := hP
  have hD : va_D A ((wC o ad cI cZ cG tl (nI q) wc (nI y) pn (nI n) isw mem) ++ wO oa cJ f) := hD
  exact ti_ret hx hb hr rfl hlk rfl hS hP hD rfl dL_prove_16 (Nat.le_of_ble_eq_true rfl) (Nat.le_of_ble_eq_true rfl)
set_option maxHeartbeats 4000000 in
set_option maxRecDepth 100000 in
theorem w_prove_2 {l : Launch} {D : va_G} {o ad : Nat → Nat} {cI cZ cG cJ : ClassId} {tl wc pn : Int32} {isw : Nat → Int32} (hl0 : l.stackTraces = false) (oa : Nat) (f : Nat → Int64) (q y n : Nat) (hq : q ≤ 24) (hy : y ≤ 12) (v u : Int32) (mem : Nat → Nat → Int32) (hm : ∀ d, d < y → mem 1 d = nI (tn (mem 1 d)) ∧ tn (mem 1 d) ≤ 24) (hX : (x_req v (nI q)).or ((x_req u (nI y)).or (x_if (¬ v < mem 1 (tn u)) nISE)) = some nISE) : MTi l lE yL_prove (.codeWith yL_prove cL_prove 5 (some .int) [(0, 10, 13, 28), (0, 10, 17, 40)] :: tW) ({ frames := 8, cells := 3, slots := 18, locals := 300 }) D vwCl (tL cI cZ cG cJ) [.ref (o 0), .int v, .int u, .ref oa] ((wC o ad cI cZ cG tl (nI q) wc (nI y) pn (nI n) isw mem) ++ wO oa cJ f) ((wC o ad cI cZ cG tl (nI q) wc (nI y) pn (nI n) isw mem) ++ wO oa cJ f) (nI 2) none 3 18 := by
  refine MTi.ofWW (by decide +kernel) rfl (Nat.le_of_ble_eq_true rfl) ?_
  intro p e s m below meth c A ls hx hb hr hts hown hlk hml hA hP hK hD hT hl htab
  have hS : va_S A s.heap s.heap [] := va_S.rf
  have hown : s.vm.findClass RL = some m.cls := hown
  have hW : ∀ w ∈ tW, w.before _ s = true := fun w h => hts w (List.mem_cons_of_mem _ h)
  have hl : lv_has ls 5 [(0, .ref (o 0)), (1, .int v), (2, .int u), (3, .ref oa)] := hl
  refine lv_aload_n hx hb dL_prove_0 rfl (lv_at hl 3 rfl) ?_
  refine lv_iconst (v := nI 0) hx hb dL_prove_1 (by decide) ?_
  refine lv_aload_n hx hb dL_prove_2 rfl (lv_at hl 0 rfl) ?_
  refine lv_iload_n hx hb dL_prove_3 rfl (lv_at hl 1 rfl) ?_
  refine lv_iload_n hx hb dL_prove_4 rfl (lv_at hl 2 rfl) ?_
  refine ti_frN (C := RX1) (As := [.int v, .int u]) (rest := [.int (nI 0), .ref oa]) (wr := wO oa cJ f) ⟨hx, hb, hml, hown, hW⟩ (c_prove (lc := nI 0) (dc := nI 0) hl0 q y n hq hy v u mem hm) hX gE_ok (cwV 2 hW (gV tw_316 tw_317 tw_318 tw_1 tw_319) rfl rfl rfl (by decide +kernel) ⟨Nat.le_of_ble_eq_true rfl, Nat.le_of_ble_eq_true rfl⟩) (va_recv hK hP (ci := 0) (q0 := 0) rfl rfl) hP hD (va_K.sub hK [0, 1, 2] rfl) hS hA hT.1 rfl hl.1 rfl (Nat.le_of_ble_eq_true rfl) dL_prove_5 ⟨Nat.le_of_ble_eq_true rfl, Nat.le_of_ble_eq_true rfl⟩ (fun xa H locs hOb hP hS => ?_)
  obtain ⟨z0, z1, hex, hz0, hz1⟩ := ex2 htab
  refine xt_catchT (name := "java/lang/IllegalStateException") (pc' := 17) hown hOb [z0] [] z1 hex ?_ (ex_cov hz1 (by decide) (by decide)) (ex_ct hz1 (by decide)) (by rw [ex_c hz1]; exact hW _ tw_315) (va_any rfl (hT.1.2.2.2 (.castable "java/lang/IllegalStateException" "java/lang/IllegalStateException") (by decide +kernel))) (ex_h hz1) ?_
  · exact fun y hy => by
      simp only [List.mem_cons, List.not_mem_nil, or_false] at hy
      rcases hy with rfl
      exact ⟨ex_ct hz0 (by decide), "java/lang/IndexOutOfBoundsException", by rw [ex_c hz0]; exact hW _ tw_264, xt_nca (hT.2 (.not (.castable "java/lang/IllegalStateException" "java/lang/IndexOutOfBoundsException")) (by decide +kernel))⟩
  refine lv_astore (lv' := [(4, .ref xa), (0, .ref (o 0)), (1, .int v), (2, .int u), (3, .ref oa)]) hx hb dL_prove_17 hl (by decide) rfl (fun ls hl => ?_)
  refine lv_iconst (v := nI 2) hx hb dL_prove_19 (by decide) ?_
  have hP : va_P D vwCl ((wC o ad cI cZ cG tl (nI q) wc (nI y) pn (nI n) isw mem) ++ wO oa cJ f) H := hP
  have hD : va_D A ((wC o ad cI cZ cG tl (nI q) wc (nI y) pn (nI n) isw mem) ++ wO oa cJ f) := hD
  exact ti_ret hx hb hr rfl hlk rfl hS hP hD rfl dL_prove_20 (Nat.le_of_ble_eq_true rfl) (Nat.le_of_ble_eq_true rfl)
set_option maxHeartbeats 4000000 in
set_option maxRecDepth 100000 in
theorem w_bend_ok {l : Launch} {D : va_G} {o ad : Nat → Nat} {cI cZ cG cJ : ClassId} {tl lc wc dc pn : Int32} {isw : Nat → Int32} (hl0 : l.stackTraces = false) (hpn : pn ≤ nI 5) (v u x sl : Int32) (mem : Nat → Nat → Int32) (hX : (x_req v pn).or ((x_req u (nI 32)).or (x_mask x)) = none) : MTi l lE yL_bend (.codeWith yL_bend cL_bend 5 (some .int) [(0, 7, 10, 28), (0, 7, 14, 13)] :: tW) ({ frames := 8, cells := 3, slots := 18, locals := 300 }) D vwCl (tL cI cZ cG cJ) [.ref (o 0), .int v, .int u, .int x] (wC o ad cI cZ cG tl lc wc dc pn sl isw mem) (wC o ad cI cZ cG tl lc wc dc pn sl isw (p_bend (42 + tn v) (tn u) x mem)) (nI 0) none 3 18 := by
  refine MTi.ofWW (by decide +kernel) rfl (Nat.le_of_ble_eq_true rfl) ?_
  intro p e s m below meth c A ls hx hb hr hts hown hlk hml hA hP hK hD hT hl htab
  have hS : va_S A s.heap s.heap [] := va_S.rf
  have hown : s.vm.findClass RL = some m.cls := hown
  have hW : ∀ w ∈ tW, w.before _ s = true := fun w h => hts w (List.mem_cons_of_mem _ h)
  have hl : lv_has ls 5 [(0, .ref (o 0)), (1, .int v), (2, .int u), (3, .int x)] := hl
  refine lv_aload_n hx hb dL_bend_0 rfl (lv_at hl 0 rfl) ?_
  refine lv_iload_n hx hb dL_bend_1 rfl (lv_at hl 1 rfl) ?_
  refine lv_iload_n hx hb dL_bend_2 rfl (lv_at hl 2 rfl) ?_
  refine lv_iload_n hx hb dL_bend_3 rfl (lv_at hl 3 rfl) ?_
  have hP0 : va_P D vwCl ((wC o ad cI cZ cG tl lc wc dc pn sl isw mem) ++ []) s.heap := by rw [List.append_nil]; exact hP
  have hD0 : va_D A ((wC o ad cI cZ cG tl lc wc dc pn sl isw mem) ++ []) := by rw [List.append_nil]; exact hD
  refine tv_frV (C := RX1) (As := [.int v, .int u, .int x]) (rest := []) (wr := []) ⟨hx, hb, hml, hown, hW⟩ (c_bend hl0 hpn v u x sl mem) hX gE_ok (cwV 3 hW (gV tw_361 tw_362 tw_363 tw_1 tw_364) rfl rfl rfl (by decide +kernel) ⟨Nat.le_of_ble_eq_true rfl, Nat.le_of_ble_eq_true rfl⟩) (va_recv hK hP0 (ci := 0) (q0 := 0) rfl rfl) hP0 hD0 (va_K.sub hK [0, 1, 2] rfl) hS hA hT.1 rfl hl.1 rfl (Nat.le_of_ble_eq_true rfl) dL_bend_4 ⟨Nat.le_of_ble_eq_true rfl, Nat.le_of_ble_eq_true rfl⟩ (fun H locs hP hD hS => ?_)
  rw [List.append_nil] at hP hD
  refine lv_goto (tgt := 18) hx hb dL_bend_7 (by decide) ?_
  refine lv_iconst (v := nI 0) hx hb dL_bend_18 (by decide) ?_
  have hP : va_P D vwCl (wC o ad cI cZ cG tl lc wc dc pn sl isw (p_bend (42 + tn v) (tn u) x mem)) H := hP
  have hD : va_D A (wC o ad cI cZ cG tl lc wc dc pn sl isw (p_bend (42 + tn v) (tn u) x mem)) := hD
  exact ti_ret hx hb hr rfl hlk rfl hS hP hD rfl dL_bend_19 (Nat.le_of_ble_eq_true rfl) (Nat.le_of_ble_eq_true rfl)
set_option maxHeartbeats 4000000 in
set_option maxRecDepth 100000 in
theorem w_bend_1 {l : Launch} {D : va_G} {o ad : Nat → Nat} {cI cZ cG cJ : ClassId} {tl lc wc dc pn : Int32} {isw : Nat → Int32} (hl0 : l.stackTraces = false) (hpn : pn ≤ nI 5) (v u x sl : Int32) (mem : Nat → Nat → Int32) (hX : (x_req v pn).or ((x_req u (nI 32)).or (x_mask x)) = some nIOB) : MTi l lE yL_bend (.codeWith yL_bend cL_bend 5 (some .int) [(0, 7, 10, 28), (0, 7, 14, 13)] :: tW) ({ frames := 8, cells := 3, slots := 18, locals := 300 }) D vwCl (tL cI cZ cG cJ) [.ref (o 0), .int v, .int u, .int x] (wC o ad cI cZ cG tl lc wc dc pn sl isw mem) (wC o ad cI cZ cG tl lc wc dc pn sl isw mem) (nI 1) none 3 18 := by
  refine MTi.ofWW (by decide +kernel) rfl (Nat.le_of_ble_eq_true rfl) ?_
  intro p e s m below meth c A ls hx hb hr hts hown hlk hml hA hP hK hD hT hl htab
  have hS : va_S A s.heap s.heap [] := va_S.rf
  have hown : s.vm.findClass RL = some m.cls := hown
  have hW : ∀ w ∈ tW, w.before _ s = true := fun w h => hts w (List.mem_cons_of_mem _ h)
  have hl : lv_has ls 5 [(0, .ref (o 0)), (1, .int v), (2, .int u), (3, .int x)] := hl
  refine lv_aload_n hx hb dL_bend_0 rfl (lv_at hl 0 rfl) ?_
  refine lv_iload_n hx hb dL_bend_1 rfl (lv_at hl 1 rfl) ?_
  refine lv_iload_n hx hb dL_bend_2 rfl (lv_at hl 2 rfl) ?_
  refine lv_iload_n hx hb dL_bend_3 rfl (lv_at hl 3 rfl) ?_
  have hP0 : va_P D vwCl ((wC o ad cI cZ cG tl lc wc dc pn sl isw mem) ++ []) s.heap := by rw [List.append_nil]; exact hP
  have hD0 : va_D A ((wC o ad cI cZ cG tl lc wc dc pn sl isw mem) ++ []) := by rw [List.append_nil]; exact hD
  refine tv_frN (C := RX1) (As := [.int v, .int u, .int x]) (rest := []) (wr := []) ⟨hx, hb, hml, hown, hW⟩ (c_bend hl0 hpn v u x sl mem) hX gE_ok (cwV 3 hW (gV tw_361 tw_362 tw_363 tw_1 tw_364) rfl rfl rfl (by decide +kernel) ⟨Nat.le_of_ble_eq_true rfl, Nat.le_of_ble_eq_true rfl⟩) (va_recv hK hP0 (ci := 0) (q0 := 0) rfl rfl) hP0 hD0 (va_K.sub hK [0, 1, 2] rfl) hS hA hT.1 rfl hl.1 rfl (Nat.le_of_ble_eq_true rfl) dL_bend_4 ⟨Nat.le_of_ble_eq_true rfl, Nat.le_of_ble_eq_true rfl⟩ (fun xa H locs hOb hP hS => ?_)
  obtain ⟨z0, z1, hex, hz0, hz1⟩ := ex2 htab
  refine xt_catchT (name := "java/lang/IndexOutOfBoundsException") (pc' := 10) hown hOb [] [z1] z0 hex ?_ (ex_cov hz0 (by decide) (by decide)) (ex_ct hz0 (by decide)) (by rw [ex_c hz0]; exact hW _ tw_264) (va_any rfl (hT.1.2.2.2 (.castable "java/lang/IndexOutOfBoundsException" "java/lang/IndexOutOfBoundsException") (by decide +kernel))) (ex_h hz0) ?_
  · exact fun y hy => absurd hy List.not_mem_nil
  rw [List.append_nil] at hP
  refine lv_astore (lv' := [(4, .ref xa), (0, .ref (o 0)), (1, .int v), (2, .int u), (3, .int x)]) hx hb dL_bend_10 hl (by decide) rfl (fun ls hl => ?_)
  refine lv_iconst (v := nI 1) hx hb dL_bend_12 (by decide) ?_
  have hP : va_P D vwCl (wC o ad cI cZ cG tl lc wc dc pn sl isw mem) H := hP
  have hD : va_D A (wC o ad cI cZ cG tl lc wc dc pn sl isw mem) := hD
  exact ti_ret hx hb hr rfl hlk rfl hS hP hD rfl dL_bend_13 (Nat.le_of_ble_eq_true rfl) (Nat.le_of_ble_eq_true rfl)
set_option maxHeartbeats 4000000 in
set_option maxRecDepth 100000 in
theorem w_bend_2 {l : Launch} {D : va_G} {o ad : Nat → Nat} {cI cZ cG cJ : ClassId} {tl lc wc dc pn : Int32} {isw : Nat → Int32} (hl0 : l.stackTraces = false) (hpn : pn ≤ nI 5) (v u x sl : Int32) (mem : Nat → Nat → Int32) (hX : (x_req v pn).or ((x_req u (nI 32)).or (x_mask x)) = some nIAE) : MTi l lE yL_bend (.codeWith yL_bend cL_bend 5 (some .int) [(0, 7, 10, 28), (0, 7, 14, 13)] :: tW) ({ frames := 8, cells := 3, slots := 18, locals := 300 }) D vwCl (tL cI cZ cG cJ) [.ref (o 0), .int v, .int u, .int x] (wC o ad cI cZ cG tl lc wc dc pn sl isw mem) (wC o ad cI cZ cG tl lc wc dc pn sl isw mem) (nI 2) none 3 18 := by
  refine MTi.ofWW (by decide +kernel) rfl (Nat.le_of_ble_eq_true rfl) ?_
  intro p e s m below meth c A ls hx hb hr hts hown hlk hml hA hP hK hD hT hl htab
  have hS : va_S A s.heap s.heap [] := va_S.rf
  have hown : s.vm.findClass RL = some m.cls := hown
  have hW : ∀ w ∈ tW, w.before _ s = true := fun w h => hts w (List.mem_cons_of_mem _ h)
  have hl : lv_has ls 5 [(0, .ref (o 0)), (1, .int v), (2, .int u), (3, .int x)] := hl
  refine lv_aload_n hx hb dL_bend_0 rfl (lv_at hl 0 rfl) ?_
  refine lv_iload_n hx hb dL_bend_1 rfl (lv_at hl 1 rfl) ?_
  refine lv_iload_n hx hb dL_bend_2 rfl (lv_at hl 2 rfl) ?_
  refine lv_iload_n hx hb dL_bend_3 rfl (lv_at hl 3 rfl) ?_
  have hP0 : va_P D vwCl ((wC o ad cI cZ cG tl lc wc dc pn sl isw mem) ++ []) s.heap := by rw [List.append_nil]; exact hP
  have hD0 : va_D A ((wC o ad cI cZ cG tl lc wc dc pn sl isw mem) ++ []) := by rw [List.append_nil]; exact hD
  refine tv_frN (C := RX1) (As := [.int v, .int u, .int x]) (rest := []) (wr := []) ⟨hx, hb, hml, hown, hW⟩ (c_bend hl0 hpn v u x sl mem) hX gE_ok (cwV 3 hW (gV tw_361 tw_362 tw_363 tw_1 tw_364) rfl rfl rfl (by decide +kernel) ⟨Nat.le_of_ble_eq_true rfl, Nat.le_of_ble_eq_true rfl⟩) (va_recv hK hP0 (ci := 0) (q0 := 0) rfl rfl) hP0 hD0 (va_K.sub hK [0, 1, 2] rfl) hS hA hT.1 rfl hl.1 rfl (Nat.le_of_ble_eq_true rfl) dL_bend_4 ⟨Nat.le_of_ble_eq_true rfl, Nat.le_of_ble_eq_true rfl⟩ (fun xa H locs hOb hP hS => ?_)
  obtain ⟨z0, z1, hex, hz0, hz1⟩ := ex2 htab
  refine xt_catchT (name := "java/lang/IllegalArgumentException") (pc' := 14) hown hOb [z0] [] z1 hex ?_ (ex_cov hz1 (by decide) (by decide)) (ex_ct hz1 (by decide)) (by rw [ex_c hz1]; exact hW _ tw_91) (va_any rfl (hT.1.2.2.2 (.castable "java/lang/IllegalArgumentException" "java/lang/IllegalArgumentException") (by decide +kernel))) (ex_h hz1) ?_
  · exact fun y hy => by
      simp only [List.mem_cons, List.not_mem_nil, or_false] at hy
      rcases hy with rfl
      exact ⟨ex_ct hz0 (by decide), "java/lang/IndexOutOfBoundsException", by rw [ex_c hz0]; exact hW _ tw_264, xt_nca (hT.2 (.not (.castable "java/lang/IllegalArgumentException" "java/lang/IndexOutOfBoundsException")) (by decide +kernel))⟩
  rw [List.append_nil] at hP
  refine lv_astore (lv' := [(4, .ref xa), (0, .ref (o 0)), (1, .int v), (2, .int u), (3, .int x)]) hx hb dL_bend_14 hl (by decide) rfl (fun ls hl => ?_)
  refine lv_iconst (v := nI 2) hx hb dL_bend_16 (by decide) ?_
  have hP : va_P D vwCl (wC o ad cI cZ cG tl lc wc dc pn sl isw mem) H := hP
  have hD : va_D A (wC o ad cI cZ cG tl lc wc dc pn sl isw mem) := hD
  exact ti_ret hx hb hr rfl hlk rfl hS hP hD rfl dL_bend_17 (Nat.le_of_ble_eq_true rfl) (Nat.le_of_ble_eq_true rfl)
set_option maxHeartbeats 4000000 in
set_option maxRecDepth 100000 in
theorem w_grew_ok {l : Launch} {D : va_G} {o ad : Nat → Nat} {cI cZ cG cJ : ClassId} {tl lc wc pn : Int32} {isw : Nat → Int32} (hl0 : l.stackTraces = false) (oa : Nat) (f : Nat → Int64) (y n : Nat) (hy : y ≤ 12) (v u : Int32) (mem : Nat → Nat → Int32) (hm : ∀ d, d < y → mem 1 d = nI (tn (mem 1 d)) ∧ tn (mem 1 d) ≤ 24) (hX : (x_req v (nI y)).or ((x_req u (nI y)).or (x_if (¬ v ≤ u) nIAE)) = none) : MTi l lE yL_grew (.codeWith yL_grew cL_grew 5 (some .int) [(0, 17, 20, 28), (0, 17, 24, 13)] :: tW) ({ frames := 8, cells := 3, slots := 18, locals := 300 }) D vwCl (tL cI cZ cG cJ) [.ref (o 0), .int v, .int u, .ref oa] ((wC o ad cI cZ cG tl lc wc (nI y) pn (nI n) isw mem) ++ wO oa cJ f) ((wC o ad cI cZ cG tl lc wc (nI y) pn (nI (p_grewW (tn v) (tn u) (n, mem)).1) isw (p_grewW (tn v) (tn u) (n, mem)).2) ++ wO oa cJ (vp_updL f 0 (lN01 (p_grewR (tn v) (tn u) (n, mem))))) (nI 0) none 3 18 := by
  refine MTi.ofWW (by decide +kernel) rfl (Nat.le_of_ble_eq_true rfl) ?_
  intro p e s m below meth c A ls hx hb hr hts hown hlk hml hA hP hK hD hT hl htab
  have hS : va_S A s.heap s.heap [] := va_S.rf
  have hown : s.vm.findClass RL = some m.cls := hown
  have hW : ∀ w ∈ tW, w.before _ s = true := fun w h => hts w (List.mem_cons_of_mem _ h)
  have hl : lv_has ls 5 [(0, .ref (o 0)), (1, .int v), (2, .int u), (3, .ref oa)] := hl
  refine lv_aload_n hx hb dL_grew_0 rfl (lv_at hl 3 rfl) ?_
  refine lv_iconst (v := nI 0) hx hb dL_grew_1 (by decide) ?_
  refine lv_aload_n hx hb dL_grew_2 rfl (lv_at hl 0 rfl) ?_
  refine lv_iload_n hx hb dL_grew_3 rfl (lv_at hl 1 rfl) ?_
  refine lv_iload_n hx hb dL_grew_4 rfl (lv_at hl 2 rfl) ?_
  refine ti_frV (C := RX1) (As := [.int v, .int u]) (rest := [.int (nI 0), .ref oa]) (wr := wO oa cJ f) ⟨hx, hb, hml, hown, hW⟩ (c_grew (dc := nI 0) hl0 y n hy v u mem hm) hX gE_ok (cwV 2 hW (gV tw_391 tw_392 tw_393 tw_1 tw_394) rfl rfl rfl (by decide +kernel) ⟨Nat.le_of_ble_eq_true rfl, Nat.le_of_ble_eq_true rfl⟩) (va_recv hK hP (ci := 0) (q0 := 0) rfl rfl) hP hD (va_K.sub hK [0, 1, 2] rfl) hS hA hT.1 rfl hl.1 rfl (Nat.le_of_ble_eq_true rfl) dL_grew_5 ⟨Nat.le_of_ble_eq_true rfl, Nat.le_of_ble_eq_true rfl⟩ (fun H locs hP hD hS => ?_)
  refine lv_if_eq (tgt := 15) hx hb dL_grew_8 (by decide) (fun hz => ?_) (fun hz => ?_)
  · refine lv_lconst (v := lN 0) hx hb dL_grew_15 (by decide) ?_
    have hP := va_P_sw hP
    have hD := va_D_sw hD
    refine va_last hx hb hK hP hD hS 0 3 rfl rfl (vp_in_nI (show 0 < 1 by decide) (by decide)) dL_grew_16 (fun H locs hP hD hS => ?_)
    have hP : va_P D vwCl (wO oa cJ (vp_updL f 0 (lN01 (p_grewR (tn v) (tn u) (n, mem)))) ++ (wC o ad cI cZ cG tl lc wc (nI y) pn (nI (p_grewW (tn v) (tn u) (n, mem)).1) isw (p_grewW (tn v) (tn u) (n, mem)).2)) H := by rw [lN01_0 hz]; exact hP
    have hD : va_D A (wO oa cJ (vp_updL f 0 (lN01 (p_grewR (tn v) (tn u) (n, mem)))) ++ (wC o ad cI cZ cG tl lc wc (nI y) pn (nI (p_grewW (tn v) (tn u) (n, mem)).1) isw (p_grewW (tn v) (tn u) (n, mem)).2)) := by rw [lN01_0 hz]; exact hD
    have hP := va_P_sw hP
    have hD := va_D_sw hD
    refine lv_goto (tgt := 28) hx hb dL_grew_17 (by decide) ?_
    refine lv_iconst (v := nI 0) hx hb dL_grew_28 (by decide) ?_
    have hP : va_P D vwCl ((wC o ad cI cZ cG tl lc wc (nI y) pn (nI (p_grewW (tn v) (tn u) (n, mem)).1) isw (p_grewW (tn v) (tn u) (n, mem)).2) ++ wO oa cJ (vp_updL f 0 (lN01 (p_grewR (tn v) (tn u) (n, mem))))) H := hP
    have hD : va_D A ((wC o ad cI cZ cG tl lc wc (nI y) pn (nI (p_grewW (tn v) (tn u) (n, mem)).1) isw (p_grewW (tn v) (tn u) (n, mem)).2) ++ wO oa cJ (vp_updL f 0 (lN01 (p_grewR (tn v) (tn u) (n, mem))))) := hD
    exact ti_ret hx hb hr rfl hlk rfl hS hP hD rfl dL_grew_29 (Nat.le_of_ble_eq_true rfl) (Nat.le_of_ble_eq_true rfl)
  · refine lv_lconst (v := lN 1) hx hb dL_grew_11 (by decide) ?_
    refine lv_goto (tgt := 16) hx hb dL_grew_12 (by decide) ?_
    have hP := va_P_sw hP
    have hD := va_D_sw hD
    refine va_last hx hb hK hP hD hS 0 3 rfl rfl (vp_in_nI (show 0 < 1 by decide) (by decide)) dL_grew_16 (fun H locs hP hD hS => ?_)
    have hP : va_P D vwCl (wO oa cJ (vp_updL f 0 (lN01 (p_grewR (tn v) (tn u) (n, mem)))) ++ (wC o ad cI cZ cG tl lc wc (nI y) pn (nI (p_grewW (tn v) (tn u) (n, mem)).1) isw (p_grewW (tn v) (tn u) (n, mem)).2)) H := by rw [lN01_1 hz]; exact hP
    have hD : va_D A (wO oa cJ (vp_updL f 0 (lN01 (p_grewR (tn v) (tn u) (n, mem)))) ++ (wC o ad cI cZ cG tl lc wc (nI y) pn (nI (p_grewW (tn v) (tn u) (n, mem)).1) isw (p_grewW (tn v) (tn u) (n, mem)).2)) := by rw [lN01_1 hz]; exact hD
    have hP := va_P_sw hP
    have hD := va_D_sw hD
    refine lv_goto (tgt := 28) hx hb dL_grew_17 (by decide) ?_
    refine lv_iconst (v := nI 0) hx hb dL_grew_28 (by decide) ?_
    have hP : va_P D vwCl ((wC o ad cI cZ cG tl lc wc (nI y) pn (nI (p_grewW (tn v) (tn u) (n, mem)).1) isw (p_grewW (tn v) (tn u) (n, mem)).2) ++ wO oa cJ (vp_updL f 0 (lN01 (p_grewR (tn v) (tn u) (n, mem))))) H := hP
    have hD : va_D A ((wC o ad cI cZ cG tl lc wc (nI y) pn (nI (p_grewW (tn v) (tn u) (n, mem)).1) isw (p_grewW (tn v) (tn u) (n, mem)).2) ++ wO oa cJ (vp_updL f 0 (lN01 (p_grewR (tn v) (tn u) (n, mem))))) := hD
    exact ti_ret hx hb hr rfl hlk rfl hS hP hD rfl dL_grew_29 (Nat.le_of_ble_eq_true rfl) (Nat.le_of_ble_eq_true rfl)
set_option maxHeartbeats 4000000 in
set_option maxRecDepth 100000 in
theorem w_grew_1 {l : Launch} {D : va_G} {o ad : Nat → Nat} {cI cZ cG cJ : ClassId} {tl lc wc pn : Int32} {isw : Nat → Int32} (hl0 : l.stackTraces = false) (oa : Nat) (f : Nat → Int64) (y n : Nat) (hy : y ≤ 12) (v u : Int32) (mem : Nat → Nat → Int32) (hm : ∀ d, d < y → mem 1 d = nI (tn (mem 1 d)) ∧ tn (mem 1 d) ≤ 24) (hX : (x_req v (nI y)).or ((x_req u (nI y)).or (x_if (¬ v ≤ u) nIAE)) = some nIOB) : MTi l lE yL_grew (.codeWith yL_grew cL_grew 5 (some .int) [(0, 17, 20, 28), (0, 17, 24, 13)] :: tW) ({ frames := 8, cells := 3, slots := 18, locals := 300 }) D vwCl (tL cI cZ cG cJ) [.ref (o 0), .int v, .int u, .ref oa] ((wC o ad cI cZ cG tl lc wc (nI y) pn (nI n) isw mem) ++ wO oa cJ f) ((wC o ad cI cZ cG tl lc wc (nI y) pn (nI n) isw mem) ++ wO oa cJ f) (nI 1) none 3 18 := by
  refine MTi.ofWW (by decide +kernel) rfl (Nat.le_of_ble_eq_true rfl) ?_
  intro p e s m below meth c A ls hx hb hr hts hown hlk hml hA hP hK hD hT hl htab
  have hS : va_S A s.heap s.heap [] := va_S.rf
  have hown : s.vm.findClass RL = some m.cls := hown
  have hW : ∀ w ∈ tW, w.before _ s = true := fun w h => hts w (List.mem_cons_of_mem _ h)
  have hl : lv_has ls 5 [(0, .ref (o 0)), (1, .int v), (2, .int u), (3, .ref oa)] := hl
  refine lv_aload_n hx hb dL_grew_0 rfl (lv_at hl 3 rfl) ?_
  refine lv_iconst (v := nI 0) hx hb dL_grew_1 (by decide) ?_
  refine lv_aload_n hx hb dL_grew_2 rfl (lv_at hl 0 rfl) ?_
  refine lv_iload_n hx hb dL_grew_3 rfl (lv_at hl 1 rfl) ?_
  refine lv_iload_n hx hb dL_grew_4 rfl (lv_at hl 2 rfl) ?_
  refine ti_frN (C := RX1) (As := [.int v, .int u]) (rest := [.int (nI 0), .ref oa]) (wr := wO oa cJ f) ⟨hx, hb, hml, hown, hW⟩ (c_grew (dc := nI 0) hl0 y n hy v u mem hm) hX gE_ok (cwV 2 hW (gV tw_391 tw_392 tw_393 tw_1 tw_394) rfl rfl rfl (by decide +kernel) ⟨Nat.le_of_ble_eq_true rfl, Nat.le_of_ble_eq_true rfl⟩) (va_recv hK hP (ci := 0) (q0 := 0) rfl rfl) hP hD (va_K.sub hK [0, 1, 2] rfl) hS hA hT.1 rfl hl.1 rfl (Nat.le_of_ble_eq_true rfl) dL_grew_5 ⟨Nat.le_of_ble_eq_true rfl, Nat.le_of_ble_eq_true rfl⟩ (fun xa H locs hOb hP hS => ?_)
  obtain ⟨z0, z1, hex, hz0, hz1⟩ := ex2 htab
  refine xt_catchT (name := "java/lang/IndexOutOfBoundsException") (pc' := 20) hown hOb [] [z1] z0 hex ?_ (ex_cov hz0 (by decide) (by decide)) (ex_ct hz0 (by decide)) (by rw [ex_c hz0]; exact hW _ tw_264) (va_any rfl (hT.1.2.2.2 (.castable "java/lang/IndexOutOfBoundsException" "java/lang/IndexOutOfBoundsException") (by decide +kernel))) (ex_h hz0) ?_
  · exact fun y hy => absurd hy List.not_mem_nil
  refine lv_astore (lv' := [(4, .ref xa), (0, .ref (o 0)), (1, .int v), (2, .int u), (3, .ref oa)]) hx hb dL_grew_20 hl (by decide) rfl (fun ls hl => ?_)
  refine lv_iconst (v := nI 1) hx hb dL_grew_22 (by decide) ?_
  have hP : va_P D vwCl ((wC o ad cI cZ cG tl lc wc (nI y) pn (nI n) isw mem) ++ wO oa cJ f) H := hP
  have hD : va_D A ((wC o ad cI cZ cG tl lc wc (nI y) pn (nI n) isw mem) ++ wO oa cJ f) := hD
  exact ti_ret hx hb hr rfl hlk rfl hS hP hD rfl dL_grew_23 (Nat.le_of_ble_eq_true rfl) (Nat.le_of_ble_eq_true rfl)
set_option maxHeartbeats 4000000 in
set_option maxRecDepth 100000 in
theorem w_grew_2 {l : Launch} {D : va_G} {o ad : Nat → Nat} {cI cZ cG cJ : ClassId} {tl lc wc pn : Int32} {isw : Nat → Int32} (hl0 : l.stackTraces = false) (oa : Nat) (f : Nat → Int64) (y n : Nat) (hy : y ≤ 12) (v u : Int32) (mem : Nat → Nat → Int32) (hm : ∀ d, d < y → mem 1 d = nI (tn (mem 1 d)) ∧ tn (mem 1 d) ≤ 24) (hX : (x_req v (nI y)).or ((x_req u (nI y)).or (x_if (¬ v ≤ u) nIAE)) = some nIAE) : MTi l lE yL_grew (.codeWith yL_grew cL_grew 5 (some .int) [(0, 17, 20, 28), (0, 17, 24, 13)] :: tW) ({ frames := 8, cells := 3, slots := 18, locals := 300 }) D vwCl (tL cI cZ cG cJ) [.ref (o 0), .int v, .int u, .ref oa] ((wC o ad cI cZ cG tl lc wc (nI y) pn (nI n) isw mem) ++ wO oa cJ f) ((wC o ad cI cZ cG tl lc wc (nI y) pn (nI n) isw mem) ++ wO oa cJ f) (nI 2) none 3 18 := by
  refine MTi.ofWW (by decide +kernel) rfl (Nat.le_of_ble_eq_true rfl) ?_
  intro p e s m below meth c A ls hx hb hr hts hown hlk hml hA hP hK hD hT hl htab
  have hS : va_S A s.heap s.heap [] := va_S.rf
  have hown : s.vm.findClass RL = some m.cls := hown
  have hW : ∀ w ∈ tW, w.before _ s = true := fun w h => hts w (List.mem_cons_of_mem _ h)
  have hl : lv_has ls 5 [(0, .ref (o 0)), (1, .int v), (2, .int u), (3, .ref oa)] := hl
  refine lv_aload_n hx hb dL_grew_0 rfl (lv_at hl 3 rfl) ?_
  refine lv_iconst (v := nI 0) hx hb dL_grew_1 (by decide) ?_
  refine lv_aload_n hx hb dL_grew_2 rfl (lv_at hl 0 rfl) ?_
  refine lv_iload_n hx hb dL_grew_3 rfl (lv_at hl 1 rfl) ?_
  refine lv_iload_n hx hb dL_grew_4 rfl (lv_at hl 2 rfl) ?_
  refine ti_frN (C := RX1) (As := [.int v, .int u]) (rest := [.int (nI 0), .ref oa]) (wr := wO oa cJ f) ⟨hx, hb, hml, hown, hW⟩ (c_grew (dc := nI 0) hl0 y n hy v u mem hm) hX gE_ok (cwV 2 hW (gV tw_391 tw_392 tw_393 tw_1 tw_394) rfl rfl rfl (by decide +kernel) ⟨Nat.le_of_ble_eq_true rfl, Nat.le_of_ble_eq_true rfl⟩) (va_recv hK hP (ci := 0) (q0 := 0) rfl rfl) hP hD (va_K.sub hK [0, 1, 2] rfl) hS hA hT.1 rfl hl.1 rfl (Nat.le_of_ble_eq_true rfl) dL_grew_5 ⟨Nat.le_of_ble_eq_true rfl, Nat.le_of_ble_eq_true rfl⟩ (fun xa H locs hOb hP hS => ?_)
  obtain ⟨z0, z1, hex, hz0, hz1⟩ := ex2 htab
  refine xt_catchT (name := "java/lang/IllegalArgumentException") (pc' := 24) hown hOb [z0] [] z1 hex ?_ (ex_cov hz1 (by decide) (by decide)) (ex_ct hz1 (by decide)) (by rw [ex_c hz1]; exact hW _ tw_91) (va_any rfl (hT.1.2.2.2 (.castable "java/lang/IllegalArgumentException" "java/lang/IllegalArgumentException") (by decide +kernel))) (ex_h hz1) ?_
  · exact fun y hy => by
      simp only [List.mem_cons, List.not_mem_nil, or_false] at hy
      rcases hy with rfl
      exact ⟨ex_ct hz0 (by decide), "java/lang/IndexOutOfBoundsException", by rw [ex_c hz0]; exact hW _ tw_264, xt_nca (hT.2 (.not (.castable "java/lang/IllegalArgumentException" "java/lang/IndexOutOfBoundsException")) (by decide +kernel))⟩
  refine lv_astore (lv' := [(4, .ref xa), (0, .ref (o 0)), (1, .int v), (2, .int u), (3, .ref oa)]) hx hb dL_grew_24 hl (by decide) rfl (fun ls hl => ?_)
  refine lv_iconst (v := nI 2) hx hb dL_grew_26 (by decide) ?_
  have hP : va_P D vwCl ((wC o ad cI cZ cG tl lc wc (nI y) pn (nI n) isw mem) ++ wO oa cJ f) H := hP
  have hD : va_D A ((wC o ad cI cZ cG tl lc wc (nI y) pn (nI n) isw mem) ++ wO oa cJ f) := hD
  exact ti_ret hx hb hr rfl hlk rfl hS hP hD rfl dL_grew_27 (Nat.le_of_ble_eq_true rfl) (Nat.le_of_ble_eq_true rfl)
set_option maxHeartbeats 4000000 in
set_option maxRecDepth 100000 in
theorem w_poke_ok {l : Launch} {D : va_G} {o ad : Nat → Nat} {cI cZ cG cJ : ClassId} {tl wc dc pn : Int32} {isw : Nat → Int32} (hl0 : l.stackTraces = false) (q : Nat) (hq : q ≤ 24) (v u x sl : Int32) (mem : Nat → Nat → Int32) (hX : (x_req v (nI q)).or ((x_req u (nI 32)).or (x_mask x)) = none) : MTi l lE yL_poke (.codeWith yL_poke cL_poke 5 (some .int) [(0, 7, 10, 28), (0, 7, 14, 13)] :: tW) ({ frames := 8, cells := 3, slots := 18, locals := 300 }) D vwCl (tL cI cZ cG cJ) [.ref (o 0), .int v, .int u, .int x] (wC o ad cI cZ cG tl (nI q) wc dc pn sl isw mem) (wC o ad cI cZ cG tl (nI q) wc dc pn sl isw (p_bend (6 + tn v) (tn u) x mem)) (nI 0) none 3 18 := by
  refine MTi.ofWW (by decide +kernel) rfl (Nat.le_of_ble_eq_true rfl) ?_
  intro p e s m below meth c A ls hx hb hr hts hown hlk hml hA hP hK hD hT hl htab
  have hS : va_S A s.heap s.heap [] := va_S.rf
  have hown : s.vm.findClass RL = some m.cls := hown
  have hW : ∀ w ∈ tW, w.before _ s = true := fun w h => hts w (List.mem_cons_of_mem _ h)
  have hl : lv_has ls 5 [(0, .ref (o 0)), (1, .int v), (2, .int u), (3, .int x)] := hl
  refine lv_aload_n hx hb dL_poke_0 rfl (lv_at hl 0 rfl) ?_
  refine lv_iload_n hx hb dL_poke_1 rfl (lv_at hl 1 rfl) ?_
  refine lv_iload_n hx hb dL_poke_2 rfl (lv_at hl 2 rfl) ?_
  refine lv_iload_n hx hb dL_poke_3 rfl (lv_at hl 3 rfl) ?_
  have hP0 : va_P D vwCl ((wC o ad cI cZ cG tl (nI q) wc dc pn sl isw mem) ++ []) s.heap := by rw [List.append_nil]; exact hP
  have hD0 : va_D A ((wC o ad cI cZ cG tl (nI q) wc dc pn sl isw mem) ++ []) := by rw [List.append_nil]; exact hD
  refine tv_frV (C := RX1) (As := [.int v, .int u, .int x]) (rest := []) (wr := []) ⟨hx, hb, hml, hown, hW⟩ (c_poke (lc := nI 0) hl0 q hq v u x sl mem) hX gE_ok (cwV 3 hW (gV tw_440 tw_441 tw_442 tw_1 tw_443) rfl rfl rfl (by decide +kernel) ⟨Nat.le_of_ble_eq_true rfl, Nat.le_of_ble_eq_true rfl⟩) (va_recv hK hP0 (ci := 0) (q0 := 0) rfl rfl) hP0 hD0 (va_K.sub hK [0, 1, 2] rfl) hS hA hT.1 rfl hl.1 rfl (Nat.le_of_ble_eq_true rfl) dL_poke_4 ⟨Nat.le_of_ble_eq_true rfl, Nat.le_of_ble_eq_true rfl⟩ (fun H locs hP hD hS => ?_)
  rw [List.append_nil] at hP hD
  refine lv_goto (tgt := 18) hx hb dL_poke_7 (by decide) ?_
  refine lv_iconst (v := nI 0) hx hb dL_poke_18 (by decide) ?_
  have hP : va_P D vwCl (wC o ad cI cZ cG tl (nI q) wc dc pn sl isw (p_bend (6 + tn v) (tn u) x mem)) H := hP
  have hD : va_D A (wC o ad cI cZ cG tl (nI q) wc dc pn sl isw (p_bend (6 + tn v) (tn u) x mem)) := hD
  exact ti_ret hx hb hr rfl hlk rfl hS hP hD rfl dL_poke_19 (Nat.le_of_ble_eq_true rfl) (Nat.le_of_ble_eq_true rfl)
set_option maxHeartbeats 4000000 in
set_option maxRecDepth 100000 in
theorem w_poke_1 {l : Launch} {D : va_G} {o ad : Nat → Nat} {cI cZ cG cJ : ClassId} {tl wc dc pn : Int32} {isw : Nat → Int32} (hl0 : l.stackTraces = false) (q : Nat) (hq : q ≤ 24) (v u x sl : Int32) (mem : Nat → Nat → Int32) (hX : (x_req v (nI q)).or ((x_req u (nI 32)).or (x_mask x)) = some nIOB) : MTi l lE yL_poke (.codeWith yL_poke cL_poke 5 (some .int) [(0, 7, 10, 28), (0, 7, 14, 13)] :: tW) ({ frames := 8, cells := 3, slots := 18, locals := 300 }) D vwCl (tL cI cZ cG cJ) [.ref (o 0), .int v, .int u, .int x] (wC o ad cI cZ cG tl (nI q) wc dc pn sl isw mem) (wC o ad cI cZ cG tl (nI q) wc dc pn sl isw mem) (nI 1) none 3 18 := by
  refine MTi.ofWW (by decide +kernel) rfl (Nat.le_of_ble_eq_true rfl) ?_
  intro p e s m below meth c A ls hx hb hr hts hown hlk hml hA hP hK hD hT hl htab
  have hS : va_S A s.heap s.heap [] := va_S.rf
  have hown : s.vm.findClass RL = some m.cls := hown
  have hW : ∀ w ∈ tW, w.before _ s = true := fun w h => hts w (List.mem_cons_of_mem _ h)
  have hl : lv_has ls 5 [(0, .ref (o 0)), (1, .int v), (2, .int u), (3, .int x)] := hl
  refine lv_aload_n hx hb dL_poke_0 rfl (lv_at hl 0 rfl) ?_
  refine lv_iload_n hx hb dL_poke_1 rfl (lv_at hl 1 rfl) ?_
  refine lv_iload_n hx hb dL_poke_2 rfl (lv_at hl 2 rfl) ?_
  refine lv_iload_n hx hb dL_poke_3 rfl (lv_at hl 3 rfl) ?_
  have hP0 : va_P D vwCl ((wC o ad cI cZ cG tl (nI q) wc dc pn sl isw mem) ++ []) s.heap := by rw [List.append_nil]; exact hP
  have hD0 : va_D A ((wC o ad cI cZ cG tl (nI q) wc dc pn sl isw mem) ++ []) := by rw [List.append_nil]; exact hD
  refine tv_frN (C := RX1) (As := [.int v, .int u, .int x]) (rest := []) (wr := []) ⟨hx, hb, hml, hown, hW⟩ (c_poke (lc := nI 0) hl0 q hq v u x sl mem) hX gE_ok (cwV 3 hW (gV tw_440 tw_441 tw_442 tw_1 tw_443) rfl rfl rfl (by decide +kernel) ⟨Nat.le_of_ble_eq_true rfl, Nat.le_of_ble_eq_true rfl⟩) (va_recv hK hP0 (ci := 0) (q0 := 0) rfl rfl) hP0 hD0 (va_K.sub hK [0, 1, 2] rfl) hS hA hT.1 rfl hl.1 rfl (Nat.le_of_ble_eq_true rfl) dL_poke_4 ⟨Nat.le_of_ble_eq_true rfl, Nat.le_of_ble_eq_true rfl⟩ (fun xa H locs hOb hP hS => ?_)
  obtain ⟨z0, z1, hex, hz0, hz1⟩ := ex2 htab
  refine xt_catchT (name := "java/lang/IndexOutOfBoundsException") (pc' := 10) hown hOb [] [z1] z0 hex ?_ (ex_cov hz0 (by decide) (by decide)) (ex_ct hz0 (by decide)) (by rw [ex_c hz0]; exact hW _ tw_264) (va_any rfl (hT.1.2.2.2 (.castable "java/lang/IndexOutOfBoundsException" "java/lang/IndexOutOfBoundsException") (by decide +kernel))) (ex_h hz0) ?_
  · exact fun y hy => absurd hy List.not_mem_nil
  rw [List.append_nil] at hP
  refine lv_astore (lv' := [(4, .ref xa), (0, .ref (o 0)), (1, .int v), (2, .int u), (3, .int x)]) hx hb dL_poke_10 hl (by decide) rfl (fun ls hl => ?_)
  refine lv_iconst (v := nI 1) hx hb dL_poke_12 (by decide) ?_
  have hP : va_P D vwCl (wC o ad cI cZ cG tl (nI q) wc dc pn sl isw mem) H := hP
  have hD : va_D A (wC o ad cI cZ cG tl (nI q) wc dc pn sl isw mem) := hD
  exact ti_ret hx hb hr rfl hlk rfl hS hP hD rfl dL_poke_13 (Nat.le_of_ble_eq_true rfl) (Nat.le_of_ble_eq_true rfl)
set_option maxHeartbeats 4000000 in
set_option maxRecDepth 100000 in
theorem w_poke_2 {l : Launch} {D : va_G} {o ad : Nat → Nat} {cI cZ cG cJ : ClassId} {tl wc dc pn : Int32} {isw : Nat → Int32} (hl0 : l.stackTraces = false) (q : Nat) (hq : q ≤ 24) (v u x sl : Int32) (mem : Nat → Nat → Int32) (hX : (x_req v (nI q)).or ((x_req u (nI 32)).or (x_mask x)) = some nIAE) : MTi l lE yL_poke (.codeWith yL_poke cL_poke 5 (some .int) [(0, 7, 10, 28), (0, 7, 14, 13)] :: tW) ({ frames := 8, cells := 3, slots := 18, locals := 300 }) D vwCl (tL cI cZ cG cJ) [.ref (o 0), .int v, .int u, .int x] (wC o ad cI cZ cG tl (nI q) wc dc pn sl isw mem) (wC o ad cI cZ cG tl (nI q) wc dc pn sl isw mem) (nI 2) none 3 18 := by
  refine MTi.ofWW (by decide +kernel) rfl (Nat.le_of_ble_eq_true rfl) ?_
  intro p e s m below meth c A ls hx hb hr hts hown hlk hml hA hP hK hD hT hl htab
  have hS : va_S A s.heap s.heap [] := va_S.rf
  have hown : s.vm.findClass RL = some m.cls := hown
  have hW : ∀ w ∈ tW, w.before _ s = true := fun w h => hts w (List.mem_cons_of_mem _ h)
  have hl : lv_has ls 5 [(0, .ref (o 0)), (1, .int v), (2, .int u), (3, .int x)] := hl
  refine lv_aload_n hx hb dL_poke_0 rfl (lv_at hl 0 rfl) ?_
  refine lv_iload_n hx hb dL_poke_1 rfl (lv_at hl 1 rfl) ?_
  refine lv_iload_n hx hb dL_poke_2 rfl (lv_at hl 2 rfl) ?_
  refine lv_iload_n hx hb dL_poke_3 rfl (lv_at hl 3 rfl) ?_
  have hP0 : va_P D vwCl ((wC o ad cI cZ cG tl (nI q) wc dc pn sl isw mem) ++ []) s.heap := by rw [List.append_nil]; exact hP
  have hD0 : va_D A ((wC o ad cI cZ cG tl (nI q) wc dc pn sl isw mem) ++ []) := by rw [List.append_nil]; exact hD
  refine tv_frN (C := RX1) (As := [.int v, .int u, .int x]) (rest := []) (wr := []) ⟨hx, hb, hml, hown, hW⟩ (c_poke (lc := nI 0) hl0 q hq v u x sl mem) hX gE_ok (cwV 3 hW (gV tw_440 tw_441 tw_442 tw_1 tw_443) rfl rfl rfl (by decide +kernel) ⟨Nat.le_of_ble_eq_true rfl, Nat.le_of_ble_eq_true rfl⟩) (va_recv hK hP0 (ci := 0) (q0 := 0) rfl rfl) hP0 hD0 (va_K.sub hK [0, 1, 2] rfl) hS hA hT.1 rfl hl.1 rfl (Nat.le_of_ble_eq_true rfl) dL_poke_4 ⟨Nat.le_of_ble_eq_true rfl, Nat.le_of_ble_eq_true rfl⟩ (fun xa H locs hOb hP hS => ?_)
  obtain ⟨z0, z1, hex, hz0, hz1⟩ := ex2 htab
  refine xt_catchT (name := "java/lang/IllegalArgumentException") (pc' := 14) hown hOb [z0] [] z1 hex ?_ (ex_cov hz1 (by decide) (by decide)) (ex_ct hz1 (by decide)) (by rw [ex_c hz1]; exact hW _ tw_91) (va_any rfl (hT.1.2.2.2 (.castable "java/lang/IllegalArgumentException" "java/lang/IllegalArgumentException") (by decide +kernel))) (ex_h hz1) ?_
  · exact fun y hy => by
      simp only [List.mem_cons, List.not_mem_nil, or_false] at hy
      rcases hy with rfl
      exact ⟨ex_ct hz0 (by decide), "java/lang/IndexOutOfBoundsException", by rw [ex_c hz0]; exact hW _ tw_264, xt_nca (hT.2 (.not (.castable "java/lang/IllegalArgumentException" "java/lang/IndexOutOfBoundsException")) (by decide +kernel))⟩
  rw [List.append_nil] at hP
  refine lv_astore (lv' := [(4, .ref xa), (0, .ref (o 0)), (1, .int v), (2, .int u), (3, .int x)]) hx hb dL_poke_14 hl (by decide) rfl (fun ls hl => ?_)
  refine lv_iconst (v := nI 2) hx hb dL_poke_16 (by decide) ?_
  have hP : va_P D vwCl (wC o ad cI cZ cG tl (nI q) wc dc pn sl isw mem) H := hP
  have hD : va_D A (wC o ad cI cZ cG tl (nI q) wc dc pn sl isw mem) := hD
  exact ti_ret hx hb hr rfl hlk rfl hS hP hD rfl dL_poke_17 (Nat.le_of_ble_eq_true rfl) (Nat.le_of_ble_eq_true rfl)
set_option maxHeartbeats 4000000 in
set_option maxRecDepth 100000 in
theorem w_check_ok {l : Launch} {D : va_G} {o ad : Nat → Nat} {cI cZ cG cJ : ClassId} {tl wc pn : Int32} {isw : Nat → Int32} (hl0 : l.stackTraces = false) (oa : Nat) (f : Nat → Int64) (q y n : Nat) (hq : q ≤ 24) (hy : y ≤ 12) (v u x k : Int32) (mem : Nat → Nat → Int32) (hm : ∀ d, d < y → mem 1 d = nI (tn (mem 1 d)) ∧ tn (mem 1 d) ≤ 24) (hX : (x_req v (nI q)).or ((x_req u (nI y)).or ((x_if (pn = (-1)) nISE).or (x_if (x < 0 ∨ ¬ x < k) nIAE))) = none) : MTi l lE yL_check (.codeWith yL_check cL_check 7 (some .int) [(0, 14, 17, 28), (0, 14, 21, 40), (0, 14, 25, 13)] :: tW) ({ frames := 8, cells := 3, slots := 18, locals := 300 }) D vwCl (tL cI cZ cG cJ) [.ref (o 0), .int v, .int u, .int x, .int k, .ref oa] ((wC o ad cI cZ cG tl (nI q) wc (nI y) pn (nI n) isw mem) ++ wO oa cJ f) ((wC o ad cI cZ cG tl (nI q) wc (nI y) pn (nI (p_checkW (tn v) (tn u) x k pn (n, mem)).1) isw (p_checkW (tn v) (tn u) x k pn (n, mem)).2) ++ wO oa cJ (vp_updL f 0 ((p_checkR (tn v) (tn u) x k pn (n, mem)).toInt64))) (nI 0) none 3 18 := by
  refine MTi.ofWW (by decide +kernel) rfl (Nat.le_of_ble_eq_true rfl) ?_
  intro p e s m below meth c A ls hx hb hr hts hown hlk hml hA hP hK hD hT hl htab
  have hS : va_S A s.heap s.heap [] := va_S.rf
  have hown : s.vm.findClass RL = some m.cls := hown
  have hW : ∀ w ∈ tW, w.before _ s = true := fun w h => hts w (List.mem_cons_of_mem _ h)
  have hl : lv_has ls 7 [(0, .ref (o 0)), (1, .int v), (2, .int u), (3, .int x), (4, .int k), (5, .ref oa)] := hl
  refine lv_aload hx hb dL_check_0 (lv_at hl 5 rfl) ?_
  refine lv_iconst (v := nI 0) hx hb dL_check_2 (by decide) ?_
  refine lv_aload_n hx hb dL_check_3 rfl (lv_at hl 0 rfl) ?_
  refine lv_iload_n hx hb dL_check_4 rfl (lv_at hl 1 rfl) ?_
  refine lv_iload_n hx hb dL_check_5 rfl (lv_at hl 2 rfl) ?_
  refine lv_iload_n hx hb dL_check_6 rfl (lv_at hl 3 rfl) ?_
  refine lv_iload hx hb dL_check_7 (lv_at hl 4 rfl) ?_
  refine ti_frV (C := RX1) (As := [.int v, .int u, .int x, .int k]) (rest := [.int (nI 0), .ref oa]) (wr := wO oa cJ f) ⟨hx, hb, hml, hown, hW⟩ (c_check (lc := nI 0) (dc := nI 0) hl0 q y n hq hy v u x k mem hm) hX gE_ok (cwV 4 hW (gV tw_372 tw_373 tw_374 tw_1 tw_375) rfl rfl rfl (by decide +kernel) ⟨Nat.le_of_ble_eq_true rfl, Nat.le_of_ble_eq_true rfl⟩) (va_recv hK hP (ci := 0) (q0 := 0) rfl rfl) hP hD (va_K.sub hK [0, 1, 2] rfl) hS hA hT.1 rfl hl.1 rfl (Nat.le_of_ble_eq_true rfl) dL_check_9 ⟨Nat.le_of_ble_eq_true rfl, Nat.le_of_ble_eq_true rfl⟩ (fun H locs hP hD hS => ?_)
  refine lv_i2l (v := (p_checkR (tn v) (tn u) x k pn (n, mem)).toInt64) hx hb dL_check_12 rfl ?_
  have hP := va_P_sw hP
  have hD := va_D_sw hD
  refine va_last hx hb hK hP hD hS 0 3 rfl rfl (vp_in_nI (show 0 < 1 by decide) (by decide)) dL_check_13 (fun H locs hP hD hS => ?_)
  have hP : va_P D vwCl (wO oa cJ (vp_updL f 0 ((p_checkR (tn v) (tn u) x k pn (n, mem)).toInt64)) ++ (wC o ad cI cZ cG tl (nI q) wc (nI y) pn (nI (p_checkW (tn v) (tn u) x k pn (n, mem)).1) isw (p_checkW (tn v) (tn u) x k pn (n, mem)).2)) H := hP
  have hD : va_D A (wO oa cJ (vp_updL f 0 ((p_checkR (tn v) (tn u) x k pn (n, mem)).toInt64)) ++ (wC o ad cI cZ cG tl (nI q) wc (nI y) pn (nI (p_checkW (tn v) (tn u) x k pn (n, mem)).1) isw (p_checkW (tn v) (tn u) x k pn (n, mem)).2)) := hD
  have hP := va_P_sw hP
  have hD := va_D_sw hD
  refine lv_goto (tgt := 29) hx hb dL_check_14 (by decide) ?_
  refine lv_iconst (v := nI 0) hx hb dL_check_29 (by decide) ?_
  have hP : va_P D vwCl ((wC o ad cI cZ cG tl (nI q) wc (nI y) pn (nI (p_checkW (tn v) (tn u) x k pn (n, mem)).1) isw (p_checkW (tn v) (tn u) x k pn (n, mem)).2) ++ wO oa cJ (vp_updL f 0 ((p_checkR (tn v) (tn u) x k pn (n, mem)).toInt64))) H := hP
  have hD : va_D A ((wC o ad cI cZ cG tl (nI q) wc (nI y) pn (nI (p_checkW (tn v) (tn u) x k pn (n, mem)).1) isw (p_checkW (tn v) (tn u) x k pn (n, mem)).2) ++ wO oa cJ (vp_updL f 0 ((p_checkR (tn v) (tn u) x k pn (n, mem)).toInt64))) := hD
  exact ti_ret hx hb hr rfl hlk rfl hS hP hD rfl dL_check_30 (Nat.le_of_ble_eq_true rfl) (Nat.le_of_ble_eq_true rfl)
set_option maxHeartbeats 4000000 in
set_option maxRecDepth 100000 in
theorem w_check_1 {l : Launch} {D : va_G} {o ad : Nat → Nat} {cI cZ cG cJ : ClassId} {tl wc pn : Int32} {isw : Nat → Int32} (hl0 : l.stackTraces = false) (oa : Nat) (f : Nat → Int64) (q y n : Nat) (hq : q ≤ 24) (hy : y ≤ 12) (v u x k : Int32) (mem : Nat → Nat → Int32) (hm : ∀ d, d < y → mem 1 d = nI (tn (mem 1 d)) ∧ tn (mem 1 d) ≤ 24) (hX : (x_req v (nI q)).or ((x_req u (nI y)).or ((x_if (pn = (-1)) nISE).or (x_if (x < 0 ∨ ¬ x < k) nIAE))) = some nIOB) : MTi l lE yL_check (.codeWith yL_check cL_check 7 (some .int) [(0, 14, 17, 28), (0, 14, 21, 40), (0, 14, 25, 13)] :: tW) ({ frames := 8, cells := 3, slots := 18, locals := 300 }) D vwCl (tL cI cZ cG cJ) [.ref (o 0), .int v, .int u, .int x, .int k, .ref oa] ((wC o ad cI cZ cG tl (nI q) wc (nI y) pn (nI n) isw mem) ++ wO oa cJ f) ((wC o ad cI cZ cG tl (nI q) wc (nI y) pn (nI n) isw mem) ++ wO oa cJ f) (nI 1) none 3 18 := by
  refine MTi.ofWW (by decide +kernel) rfl (Nat.le_of_ble_eq_true rfl) ?_
  intro p e s m below meth c A ls hx hb hr hts hown hlk hml hA hP hK hD hT hl htab
  have hS : va_S A s.heap s.heap [] := va_S.rf
  have hown : s.vm.findClass RL = some m.cls := hown
  have hW : ∀ w ∈ tW, w.before _ s = true := fun w h => hts w (List.mem_cons_of_mem _ h)
  have hl : lv_has ls 7 [(0, .ref (o 0)), (1, .int v), (2, .int u), (3, .int x), (4, .int k), (5, .ref oa)] := hl
  refine lv_aload hx hb dL_check_0 (lv_at hl 5 rfl) ?_
  refine lv_iconst (v := nI 0) hx hb dL_check_2 (by decide) ?_
  refine lv_aload_n hx hb dL_check_3 rfl (lv_at hl 0 rfl) ?_
  refine lv_iload_n hx hb dL_check_4 rfl (lv_at hl 1 rfl) ?_
  refine lv_iload_n hx hb dL_check_5 rfl (lv_at hl 2 rfl) ?_
  refine lv_iload_n hx hb dL_check_6 rfl (lv_at hl 3 rfl) ?_
  refine lv_iload hx hb dL_check_7 (lv_at hl 4 rfl) ?_
  refine ti_frN (C := RX1) (As := [.int v, .int u, .int x, .int k]) (rest := [.int (nI 0), .ref oa]) (wr := wO oa cJ f) ⟨hx, hb, hml, hown, hW⟩ (c_check (lc := nI 0) (dc := nI 0) hl0 q y n hq hy v u x k mem hm) hX gE_ok (cwV 4 hW (gV tw_372 tw_373 tw_374 tw_1 tw_375) rfl rfl rfl (by decide +kernel) ⟨Nat.le_of_ble_eq_true rfl, Nat.le_of_ble_eq_true rfl⟩) (va_recv hK hP (ci := 0) (q0 := 0) rfl rfl) hP hD (va_K.sub hK [0, 1, 2] rfl) hS hA hT.1 rfl hl.1 rfl (Nat.le_of_ble_eq_true rfl) dL_check_9 ⟨Nat.le_of_ble_eq_true rfl, Nat.le_of_ble_eq_true rfl⟩ (fun xa H locs hOb hP hS => ?_)
  obtain ⟨z0, z1, z2, hex, hz0, hz1, hz2⟩ := ex3 htab
  refine xt_catchT (name := "java/lang/IndexOutOfBoundsException") (pc' := 17) hown hOb [] [z1, z2] z0 hex ?_ (ex_cov hz0 (by decide) (by decide)) (ex_ct hz0 (by decide)) (by rw [ex_c hz0]; exact hW _ tw_264) (va_any rfl (hT.1.2.2.2 (.castable "java/lang/IndexOutOfBoundsException" "java/lang/IndexOutOfBoundsException") (by decide +kernel))) (ex_h hz0) ?_
  · exact fun y hy => absurd hy List.not_mem_nil
  refine lv_astore (lv' := [(6, .ref xa), (0, .ref (o 0)), (1, .int v), (2, .int u), (3, .int x), (4, .int k), (5, .ref oa)]) hx hb dL_check_17 hl (by decide) rfl (fun ls hl => ?_)
  refine lv_iconst (v := nI 1) hx hb dL_check_19 (by decide) ?_
  have hP : va_P D vwCl ((wC o ad cI cZ cG tl (nI q) wc (nI y) pn (nI n) isw mem) ++ wO oa cJ f) H := hP
  have hD : va_D A ((wC o ad cI cZ cG tl (nI q) wc (nI y) pn (nI n) isw mem) ++ wO oa cJ f) := hD
  exact ti_ret hx hb hr rfl hlk rfl hS hP hD rfl dL_check_20 (Nat.le_of_ble_eq_true rfl) (Nat.le_of_ble_eq_true rfl)
set_option maxHeartbeats 4000000 in
set_option maxRecDepth 100000 in
theorem w_check_2 {l : Launch} {D : va_G} {o ad : Nat → Nat} {cI cZ cG cJ : ClassId} {tl wc pn : Int32} {isw : Nat → Int32} (hl0 : l.stackTraces = false) (oa : Nat) (f : Nat → Int64) (q y n : Nat) (hq : q ≤ 24) (hy : y ≤ 12) (v u x k : Int32) (mem : Nat → Nat → Int32) (hm : ∀ d, d < y → mem 1 d = nI (tn (mem 1 d)) ∧ tn (mem 1 d) ≤ 24) (hX : (x_req v (nI q)).or ((x_req u (nI y)).or ((x_if (pn = (-1)) nISE).or (x_if (x < 0 ∨ ¬ x < k) nIAE))) = some nISE) : MTi l lE yL_check (.codeWith yL_check cL_check 7 (some .int) [(0, 14, 17, 28), (0, 14, 21, 40), (0, 14, 25, 13)] :: tW) ({ frames := 8, cells := 3, slots := 18, locals := 300 }) D vwCl (tL cI cZ cG cJ) [.ref (o 0), .int v, .int u, .int x, .int k, .ref oa] ((wC o ad cI cZ cG tl (nI q) wc (nI y) pn (nI n) isw mem) ++ wO oa cJ f) ((wC o ad cI cZ cG tl (nI q) wc (nI y) pn (nI n) isw mem) ++ wO oa cJ f) (nI 2) none 3 18 := by
  refine MTi.ofWW (by decide +kernel) rfl (Nat.le_of_ble_eq_true rfl) ?_
  intro p e s m below meth c A ls hx hb hr hts hown hlk hml hA hP hK hD hT hl htab
  have hS : va_S A s.heap s.heap [] := va_S.rf
  have hown : s.vm.findClass RL = some m.cls := hown
  have hW : ∀ w ∈ tW, w.before _ s = true := fun w h => hts w (List.mem_cons_of_mem _ h)
  have hl : lv_has ls 7 [(0, .ref (o 0)), (1, .int v), (2, .int u), (3, .int x), (4, .int k), (5, .ref oa)] := hl
  refine lv_aload hx hb dL_check_0 (lv_at hl 5 rfl) ?_
  refine lv_iconst (v := nI 0) hx hb dL_check_2 (by decide) ?_
  refine lv_aload_n hx hb dL_check_3 rfl (lv_at hl 0 rfl) ?_
  refine lv_iload_n hx hb dL_check_4 rfl (lv_at hl 1 rfl) ?_
  refine lv_iload_n hx hb dL_check_5 rfl (lv_at hl 2 rfl) ?_
  refine lv_iload_n hx hb dL_check_6 rfl (lv_at hl 3 rfl) ?_
  refine lv_iload hx hb dL_check_7 (lv_at hl 4 rfl) ?_
  refine ti_frN (C := RX1) (As := [.int v, .int u, .int x, .int k]) (rest := [.int (nI 0), .ref oa]) (wr := wO oa cJ f) ⟨hx, hb, hml, hown, hW⟩ (c_check (lc := nI 0) (dc := nI 0) hl0 q y n hq hy v u x k mem hm) hX gE_ok (cwV 4 hW (gV tw_372 tw_373 tw_374 tw_1 tw_375) rfl rfl rfl (by decide +kernel) ⟨Nat.le_of_ble_eq_true rfl, Nat.le_of_ble_eq_true rfl⟩) (va_recv hK hP (ci := 0) (q0 := 0) rfl rfl) hP hD (va_K.sub hK [0, 1, 2] rfl) hS hA hT.1 rfl hl.1 rfl (Nat.le_of_ble_eq_true rfl) dL_check_9 ⟨Nat.le_of_ble_eq_true rfl, Nat.le_of_ble_eq_true rfl⟩ (fun xa H locs hOb hP hS => ?_)
  obtain ⟨z0, z1, z2, hex, hz0, hz1, hz2⟩ := ex3 htab
  refine xt_catchT (name := "java/lang/IllegalStateException") (pc' := 21) hown hOb [z0] [z2] z1 hex ?_ (ex_cov hz1 (by decide) (by decide)) (ex_ct hz1 (by decide)) (by rw [ex_c hz1]; exact hW _ tw_315) (va_any rfl (hT.1.2.2.2 (.castable "java/lang/IllegalStateException" "java/lang/IllegalStateException") (by decide +kernel))) (ex_h hz1) ?_
  · exact fun y hy => by
      simp only [List.mem_cons, List.not_mem_nil, or_false] at hy
      rcases hy with rfl
      exact ⟨ex_ct hz0 (by decide), "java/lang/IndexOutOfBoundsException", by rw [ex_c hz0]; exact hW _ tw_264, xt_nca (hT.2 (.not (.castable "java/lang/IllegalStateException" "java/lang/IndexOutOfBoundsException")) (by decide +kernel))⟩
  refine lv_astore (lv' := [(6, .ref xa), (0, .ref (o 0)), (1, .int v), (2, .int u), (3, .int x), (4, .int k), (5, .ref oa)]) hx hb dL_check_21 hl (by decide) rfl (fun ls hl => ?_)
  refine lv_iconst (v := nI 2) hx hb dL_check_23 (by decide) ?_
  have hP : va_P D vwCl ((wC o ad cI cZ cG tl (nI q) wc (nI y) pn (nI n) isw mem) ++ wO oa cJ f) H := hP
  have hD : va_D A ((wC o ad cI cZ cG tl (nI q) wc (nI y) pn (nI n) isw mem) ++ wO oa cJ f) := hD
  exact ti_ret hx hb hr rfl hlk rfl hS hP hD rfl dL_check_24 (Nat.le_of_ble_eq_true rfl) (Nat.le_of_ble_eq_true rfl)
set_option maxHeartbeats 4000000 in
set_option maxRecDepth 100000 in
theorem w_check_3 {l : Launch} {D : va_G} {o ad : Nat → Nat} {cI cZ cG cJ : ClassId} {tl wc pn : Int32} {isw : Nat → Int32} (hl0 : l.stackTraces = false) (oa : Nat) (f : Nat → Int64) (q y n : Nat) (hq : q ≤ 24) (hy : y ≤ 12) (v u x k : Int32) (mem : Nat → Nat → Int32) (hm : ∀ d, d < y → mem 1 d = nI (tn (mem 1 d)) ∧ tn (mem 1 d) ≤ 24) (hX : (x_req v (nI q)).or ((x_req u (nI y)).or ((x_if (pn = (-1)) nISE).or (x_if (x < 0 ∨ ¬ x < k) nIAE))) = some nIAE) : MTi l lE yL_check (.codeWith yL_check cL_check 7 (some .int) [(0, 14, 17, 28), (0, 14, 21, 40), (0, 14, 25, 13)] :: tW) ({ frames := 8, cells := 3, slots := 18, locals := 300 }) D vwCl (tL cI cZ cG cJ) [.ref (o 0), .int v, .int u, .int x, .int k, .ref oa] ((wC o ad cI cZ cG tl (nI q) wc (nI y) pn (nI n) isw mem) ++ wO oa cJ f) ((wC o ad cI cZ cG tl (nI q) wc (nI y) pn (nI n) isw mem) ++ wO oa cJ f) (nI 3) none 3 18 := by
  refine MTi.ofWW (by decide +kernel) rfl (Nat.le_of_ble_eq_true rfl) ?_
  intro p e s m below meth c A ls hx hb hr hts hown hlk hml hA hP hK hD hT hl htab
  have hS : va_S A s.heap s.heap [] := va_S.rf
  have hown : s.vm.findClass RL = some m.cls := hown
  have hW : ∀ w ∈ tW, w.before _ s = true := fun w h => hts w (List.mem_cons_of_mem _ h)
  have hl : lv_has ls 7 [(0, .ref (o 0)), (1, .int v), (2, .int u), (3, .int x), (4, .int k), (5, .ref oa)] := hl
  refine lv_aload hx hb dL_check_0 (lv_at hl 5 rfl) ?_
  refine lv_iconst (v := nI 0) hx hb dL_check_2 (by decide) ?_
  refine lv_aload_n hx hb dL_check_3 rfl (lv_at hl 0 rfl) ?_
  refine lv_iload_n hx hb dL_check_4 rfl (lv_at hl 1 rfl) ?_
  refine lv_iload_n hx hb dL_check_5 rfl (lv_at hl 2 rfl) ?_
  refine lv_iload_n hx hb dL_check_6 rfl (lv_at hl 3 rfl) ?_
  refine lv_iload hx hb dL_check_7 (lv_at hl 4 rfl) ?_
  refine ti_frN (C := RX1) (As := [.int v, .int u, .int x, .int k]) (rest := [.int (nI 0), .ref oa]) (wr := wO oa cJ f) ⟨hx, hb, hml, hown, hW⟩ (c_check (lc := nI 0) (dc := nI 0) hl0 q y n hq hy v u x k mem hm) hX gE_ok (cwV 4 hW (gV tw_372 tw_373 tw_374 tw_1 tw_375) rfl rfl rfl (by decide +kernel) ⟨Nat.le_of_ble_eq_true rfl, Nat.le_of_ble_eq_true rfl⟩) (va_recv hK hP (ci := 0) (q0 := 0) rfl rfl) hP hD (va_K.sub hK [0, 1, 2] rfl) hS hA hT.1 rfl hl.1 rfl (Nat.le_of_ble_eq_true rfl) dL_check_9 ⟨Nat.le_of_ble_eq_true rfl, Nat.le_of_ble_eq_true rfl⟩ (fun xa H locs hOb hP hS => ?_)
  obtain ⟨z0, z1, z2, hex, hz0, hz1, hz2⟩ := ex3 htab
  refine xt_catchT (name := "java/lang/IllegalArgumentException") (pc' := 25) hown hOb [z0, z1] [] z2 hex ?_ (ex_cov hz2 (by decide) (by decide)) (ex_ct hz2 (by decide)) (by rw [ex_c hz2]; exact hW _ tw_91) (va_any rfl (hT.1.2.2.2 (.castable "java/lang/IllegalArgumentException" "java/lang/IllegalArgumentException") (by decide +kernel))) (ex_h hz2) ?_
  · exact fun y hy => by
      simp only [List.mem_cons, List.not_mem_nil, or_false] at hy
      rcases hy with rfl | rfl
      · exact ⟨ex_ct hz0 (by decide), "java/lang/IndexOutOfBoundsException", by rw [ex_c hz0]; exact hW _ tw_264, xt_nca (hT.2 (.not (.castable "java/lang/IllegalArgumentException" "java/lang/IndexOutOfBoundsException")) (by decide +kernel))⟩
      · exact ⟨ex_ct hz1 (by decide), "java/lang/IllegalStateException", by rw [ex_c hz1]; exact hW _ tw_315, xt_nca (hT.2 (.not (.castable "java/lang/IllegalArgumentException" "java/lang/IllegalStateException")) (by decide +kernel))⟩
  refine lv_astore (lv' := [(6, .ref xa), (0, .ref (o 0)), (1, .int v), (2, .int u), (3, .int x), (4, .int k), (5, .ref oa)]) hx hb dL_check_25 hl (by decide) rfl (fun ls hl => ?_)
  refine lv_iconst (v := nI 3) hx hb dL_check_27 (by decide) ?_
  have hP : va_P D vwCl ((wC o ad cI cZ cG tl (nI q) wc (nI y) pn (nI n) isw mem) ++ wO oa cJ f) H := hP
  have hD : va_D A ((wC o ad cI cZ cG tl (nI q) wc (nI y) pn (nI n) isw mem) ++ wO oa cJ f) := hD
  exact ti_ret hx hb hr rfl hlk rfl hS hP hD rfl dL_check_28 (Nat.le_of_ble_eq_true rfl) (Nat.le_of_ble_eq_true rfl)
set_option maxHeartbeats 4000000 in
set_option maxRecDepth 100000 in
theorem w_withdraw_ok {l : Launch} {D : va_G} {o ad : Nat → Nat} {cI cZ cG cJ : ClassId} {tl dc pn : Int32} {isw : Nat → Int32} (hl0 : l.stackTraces = false) (oa : Nat) (f : Nat → Int64) (q u : Nat) (hq : q ≤ 24) (v sl : Int32) (mem : Nat → Nat → Int32) (hX : (x_req v (nI q)).or (x_if (¬ isw (tn v) = 0) nUOE) = none) : MTi l lE yL_withdraw (.codeWith yL_withdraw cL_withdraw 4 (some .int) [(0, 9, 12, 28), (0, 9, 15, 15)] :: tW) ({ frames := 8, cells := 3, slots := 18, locals := 300 }) D vwCl (tL cI cZ cG cJ) [.ref (o 0), .int v, .ref oa] ((wC o ad cI cZ cG tl (nI q) (nI u) dc pn sl isw mem) ++ wO oa cJ f) ((wC o ad cI cZ cG tl (nI q) (nI (u + 1)) dc pn sl (upd isw (tn v) (nI 1)) mem) ++ wO oa cJ (vp_updL f 0 ((nI (u + 1)).toInt64))) (nI 0) none 3 18 := by
  refine MTi.ofWW (by decide +kernel) rfl (Nat.le_of_ble_eq_true rfl) ?_
  intro p e s m below meth c A ls hx hb hr hts hown hlk hml hA hP hK hD hT hl htab
  have hS : va_S A s.heap s.heap [] := va_S.rf
  have hown : s.vm.findClass RL = some m.cls := hown
  have hW : ∀ w ∈ tW, w.before _ s = true := fun w h => hts w (List.mem_cons_of_mem _ h)
  have hl : lv_has ls 4 [(0, .ref (o 0)), (1, .int v), (2, .ref oa)] := hl
  refine lv_aload_n hx hb dL_withdraw_0 rfl (lv_at hl 2 rfl) ?_
  refine lv_iconst (v := nI 0) hx hb dL_withdraw_1 (by decide) ?_
  refine lv_aload_n hx hb dL_withdraw_2 rfl (lv_at hl 0 rfl) ?_
  refine lv_iload_n hx hb dL_withdraw_3 rfl (lv_at hl 1 rfl) ?_
  refine ti_frV (C := RX1) (As := [.int v]) (rest := [.int (nI 0), .ref oa]) (wr := wO oa cJ f) ⟨hx, hb, hml, hown, hW⟩ (c_withdraw (lc := nI 0) (wc := nI 0) hl0 q u hq v sl mem) hX gE_ok (cwV 1 hW (gV tw_403 tw_404 tw_405 tw_1 tw_406) rfl rfl rfl (by decide +kernel) ⟨Nat.le_of_ble_eq_true rfl, Nat.le_of_ble_eq_true rfl⟩) (va_recv hK hP (ci := 0) (q0 := 0) rfl rfl) hP hD (va_K.sub hK [0, 1, 2] rfl) hS hA hT.1 rfl hl.1 rfl (Nat.le_of_ble_eq_true rfl) dL_withdraw_4 ⟨Nat.le_of_ble_eq_true rfl, Nat.le_of_ble_eq_true rfl⟩ (fun H locs hP hD hS => ?_)
  refine lv_i2l (v := (nI (u + 1)).toInt64) hx hb dL_withdraw_7 rfl ?_
  have hP := va_P_sw hP
  have hD := va_D_sw hD
  refine va_last hx hb hK hP hD hS 0 3 rfl rfl (vp_in_nI (show 0 < 1 by decide) (by decide)) dL_withdraw_8 (fun H locs hP hD hS => ?_)
  have hP : va_P D vwCl (wO oa cJ (vp_updL f 0 ((nI (u + 1)).toInt64)) ++ (wC o ad cI cZ cG tl (nI q) (nI (u + 1)) dc pn sl (upd isw (tn v) (nI 1)) mem)) H := hP
  have hD : va_D A (wO oa cJ (vp_updL f 0 ((nI (u + 1)).toInt64)) ++ (wC o ad cI cZ cG tl (nI q) (nI (u + 1)) dc pn sl (upd isw (tn v) (nI 1)) mem)) := hD
  have hP := va_P_sw hP
  have hD := va_D_sw hD
  refine lv_goto (tgt := 18) hx hb dL_withdraw_9 (by decide) ?_
  refine lv_iconst (v := nI 0) hx hb dL_withdraw_18 (by decide) ?_
  have hP : va_P D vwCl ((wC o ad cI cZ cG tl (nI q) (nI (u + 1)) dc pn sl (upd isw (tn v) (nI 1)) mem) ++ wO oa cJ (vp_updL f 0 ((nI (u + 1)).toInt64))) H := hP
  have hD : va_D A ((wC o ad cI cZ cG tl (nI q) (nI (u + 1)) dc pn sl (upd isw (tn v) (nI 1)) mem) ++ wO oa cJ (vp_updL f 0 ((nI (u + 1)).toInt64))) := hD
  exact ti_ret hx hb hr rfl hlk rfl hS hP hD rfl dL_withdraw_19 (Nat.le_of_ble_eq_true rfl) (Nat.le_of_ble_eq_true rfl)
set_option maxHeartbeats 4000000 in
set_option maxRecDepth 100000 in
theorem w_withdraw_1 {l : Launch} {D : va_G} {o ad : Nat → Nat} {cI cZ cG cJ : ClassId} {tl dc pn : Int32} {isw : Nat → Int32} (hl0 : l.stackTraces = false) (oa : Nat) (f : Nat → Int64) (q u : Nat) (hq : q ≤ 24) (v sl : Int32) (mem : Nat → Nat → Int32) (hX : (x_req v (nI q)).or (x_if (¬ isw (tn v) = 0) nUOE) = some nIOB) : MTi l lE yL_withdraw (.codeWith yL_withdraw cL_withdraw 4 (some .int) [(0, 9, 12, 28), (0, 9, 15, 15)] :: tW) ({ frames := 8, cells := 3, slots := 18, locals := 300 }) D vwCl (tL cI cZ cG cJ) [.ref (o 0), .int v, .ref oa] ((wC o ad cI cZ cG tl (nI q) (nI u) dc pn sl isw mem) ++ wO oa cJ f) ((wC o ad cI cZ cG tl (nI q) (nI u) dc pn sl isw mem) ++ wO oa cJ f) (nI 1) none 3 18 := by
  refine MTi.ofWW (by decide +kernel) rfl (Nat.le_of_ble_eq_true rfl) ?_
  intro p e s m below meth c A ls hx hb hr hts hown hlk hml hA hP hK hD hT hl htab
  have hS : va_S A s.heap s.heap [] := va_S.rf
  have hown : s.vm.findClass RL = some m.cls := hown
  have hW : ∀ w ∈ tW, w.before _ s = true := fun w h => hts w (List.mem_cons_of_mem _ h)
  have hl : lv_has ls 4 [(0, .ref (o 0)), (1, .int v), (2, .ref oa)] := hl
  refine lv_aload_n hx hb dL_withdraw_0 rfl (lv_at hl 2 rfl) ?_
  refine lv_iconst (v := nI 0) hx hb dL_withdraw_1 (by decide) ?_
  refine lv_aload_n hx hb dL_withdraw_2 rfl (lv_at hl 0 rfl) ?_
  refine lv_iload_n hx hb dL_withdraw_3 rfl (lv_at hl 1 rfl) ?_
  refine ti_frN (C := RX1) (As := [.int v]) (rest := [.int (nI 0), .ref oa]) (wr := wO oa cJ f) ⟨hx, hb, hml, hown, hW⟩ (c_withdraw (lc := nI 0) (wc := nI 0) hl0 q u hq v sl mem) hX gE_ok (cwV 1 hW (gV tw_403 tw_404 tw_405 tw_1 tw_406) rfl rfl rfl (by decide +kernel) ⟨Nat.le_of_ble_eq_true rfl, Nat.le_of_ble_eq_true rfl⟩) (va_recv hK hP (ci := 0) (q0 := 0) rfl rfl) hP hD (va_K.sub hK [0, 1, 2] rfl) hS hA hT.1 rfl hl.1 rfl (Nat.le_of_ble_eq_true rfl) dL_withdraw_4 ⟨Nat.le_of_ble_eq_true rfl, Nat.le_of_ble_eq_true rfl⟩ (fun xa H locs hOb hP hS => ?_)
  obtain ⟨z0, z1, hex, hz0, hz1⟩ := ex2 htab
  refine xt_catchT (name := "java/lang/IndexOutOfBoundsException") (pc' := 12) hown hOb [] [z1] z0 hex ?_ (ex_cov hz0 (by decide) (by decide)) (ex_ct hz0 (by decide)) (by rw [ex_c hz0]; exact hW _ tw_264) (va_any rfl (hT.1.2.2.2 (.castable "java/lang/IndexOutOfBoundsException" "java/lang/IndexOutOfBoundsException") (by decide +kernel))) (ex_h hz0) ?_
  · exact fun y hy => absurd hy List.not_mem_nil
  refine lv_astore_n (lv' := [(3, .ref xa), (0, .ref (o 0)), (1, .int v), (2, .ref oa)]) hx hb dL_withdraw_12 rfl hl (by decide) rfl (fun ls hl => ?_)
  refine lv_iconst (v := nI 1) hx hb dL_withdraw_13 (by decide) ?_
  have hP : va_P D vwCl ((wC o ad cI cZ cG tl (nI q) (nI u) dc pn sl isw mem) ++ wO oa cJ f) H := hP
  have hD : va_D A ((wC o ad cI cZ cG tl (nI q) (nI u) dc pn sl isw mem) ++ wO oa cJ f) := hD
  exact ti_ret hx hb hr rfl hlk rfl hS hP hD rfl dL_withdraw_14 (Nat.le_of_ble_eq_true rfl) (Nat.le_of_ble_eq_true rfl)
set_option maxHeartbeats 4000000 in
set_option maxRecDepth 100000 in
theorem w_withdraw_2 {l : Launch} {D : va_G} {o ad : Nat → Nat} {cI cZ cG cJ : ClassId} {tl dc pn : Int32} {isw : Nat → Int32} (hl0 : l.stackTraces = false) (oa : Nat) (f : Nat → Int64) (q u : Nat) (hq : q ≤ 24) (v sl : Int32) (mem : Nat → Nat → Int32) (hX : (x_req v (nI q)).or (x_if (¬ isw (tn v) = 0) nUOE) = some nUOE) : MTi l lE yL_withdraw (.codeWith yL_withdraw cL_withdraw 4 (some .int) [(0, 9, 12, 28), (0, 9, 15, 15)] :: tW) ({ frames := 8, cells := 3, slots := 18, locals := 300 }) D vwCl (tL cI cZ cG cJ) [.ref (o 0), .int v, .ref oa] ((wC o ad cI cZ cG tl (nI q) (nI u) dc pn sl isw mem) ++ wO oa cJ f) ((wC o ad cI cZ cG tl (nI q) (nI u) dc pn sl isw mem) ++ wO oa cJ f) (nI 2) none 3 18 := by
  refine MTi.ofWW (by decide +kernel) rfl (Nat.le_of_ble_eq_true rfl) ?_
  intro p e s m below meth c A ls hx hb hr hts hown hlk hml hA hP hK hD hT hl htab
  have hS : va_S A s.heap s.heap [] := va_S.rf
  have hown : s.vm.findClass RL = some m.cls := hown
  have hW : ∀ w ∈ tW, w.before _ s = true := fun w h => hts w (List.mem_cons_of_mem _ h)
  have hl : lv_has ls 4 [(0, .ref (o 0)), (1, .int v), (2, .ref oa)] := hl
  refine lv_aload_n hx hb dL_withdraw_0 rfl (lv_at hl 2 rfl) ?_
  refine lv_iconst (v := nI 0) hx hb dL_withdraw_1 (by decide) ?_
  refine lv_aload_n hx hb dL_withdraw_2 rfl (lv_at hl 0 rfl) ?_
  refine lv_iload_n hx hb dL_withdraw_3 rfl (lv_at hl 1 rfl) ?_
  refine ti_frN (C := RX1) (As := [.int v]) (rest := [.int (nI 0), .ref oa]) (wr := wO oa cJ f) ⟨hx, hb, hml, hown, hW⟩ (c_withdraw (lc := nI 0) (wc := nI 0) hl0 q u hq v sl mem) hX gE_ok (cwV 1 hW (gV tw_403 tw_404 tw_405 tw_1 tw_406) rfl rfl rfl (by decide +kernel) ⟨Nat.le_of_ble_eq_true rfl, Nat.le_of_ble_eq_true rfl⟩) (va_recv hK hP (ci := 0) (q0 := 0) rfl rfl) hP hD (va_K.sub hK [0, 1, 2] rfl) hS hA hT.1 rfl hl.1 rfl (Nat.le_of_ble_eq_true rfl) dL_withdraw_4 ⟨Nat.le_of_ble_eq_true rfl, Nat.le_of_ble_eq_true rfl⟩ (fun xa H locs hOb hP hS => ?_)
  obtain ⟨z0, z1, hex, hz0, hz1⟩ := ex2 htab
  refine xt_catchT (name := "java/lang/UnsupportedOperationException") (pc' := 15) hown hOb [z0] [] z1 hex ?_ (ex_cov hz1 (by decide) (by decide)) (ex_ct hz1 (by decide)) (by rw [ex_c hz1]; exact hW _ tw_92) (va_any rfl (hT.1.2.2.2 (.castable "java/lang/UnsupportedOperationException" "java/lang/UnsupportedOperationException") (by decide +kernel))) (ex_h hz1) ?_
  · exact fun y hy => by
      simp only [List.mem_cons, List.not_mem_nil, or_false] at hy
      rcases hy with rfl
      exact ⟨ex_ct hz0 (by decide), "java/lang/IndexOutOfBoundsException", by rw [ex_c hz0]; exact hW _ tw_264, xt_nca (hT.2 (.not (.castable "java/lang/UnsupportedOperationException" "java/lang/IndexOutOfBoundsException")) (by decide +kernel))⟩
  refine lv_astore_n (lv' := [(3, .ref xa), (0, .ref (o 0)), (1, .int v), (2, .ref oa)]) hx hb dL_withdraw_15 rfl hl (by decide) rfl (fun ls hl => ?_)
  refine lv_iconst (v := nI 2) hx hb dL_withdraw_16 (by decide) ?_
  have hP : va_P D vwCl ((wC o ad cI cZ cG tl (nI q) (nI u) dc pn sl isw mem) ++ wO oa cJ f) H := hP
  have hD : va_D A ((wC o ad cI cZ cG tl (nI q) (nI u) dc pn sl isw mem) ++ wO oa cJ f) := hD
  exact ti_ret hx hb hr rfl hlk rfl hS hP hD rfl dL_withdraw_17 (Nat.le_of_ble_eq_true rfl) (Nat.le_of_ble_eq_true rfl)
set_option maxHeartbeats 4000000 in
set_option maxRecDepth 100000 in
theorem w_absence_ok {l : Launch} {D : va_G} {o ad : Nat → Nat} {cI cZ cG cJ : ClassId} {tl wc dc pn : Int32} {isw : Nat → Int32} (hl0 : l.stackTraces = false) (oa : Nat) (f : Nat → Int64) (q : Nat) (hq : q ≤ 24) (v sd sl : Int32) (mem : Nat → Nat → Int32) (hX : (x_req v (nI q)).or ((x_if (¬ (sd = 0 ∨ sd = nI 1)) nIOB).or (x_if (¬ isw (tn v) = 0) nISE)) = none) : MTi l lE yL_absence (.codeWith yL_absence cL_absence 5 (some .int) [(0, 10, 13, 28), (0, 10, 17, 40)] :: tW) ({ frames := 8, cells := 3, slots := 18, locals := 300 }) D vwCl (tL cI cZ cG cJ) [.ref (o 0), .int v, .int sd, .ref oa] ((wC o ad cI cZ cG tl (nI q) wc dc pn sl isw mem) ++ wO oa cJ f) ((wC o ad cI cZ cG tl (nI q) wc dc pn sl isw mem) ++ wO oa cJ (vp_updL f 0 ((nrI (p_near sd isw mem (tn v) q)).toInt64))) (nI 0) none 3 18 := by
  refine MTi.ofWW (by decide +kernel) rfl (Nat.le_of_ble_eq_true rfl) ?_
  intro p e s m below meth c A ls hx hb hr hts hown hlk hml hA hP hK hD hT hl htab
  have hS : va_S A s.heap s.heap [] := va_S.rf
  have hown : s.vm.findClass RL = some m.cls := hown
  have hW : ∀ w ∈ tW, w.before _ s = true := fun w h => hts w (List.mem_cons_of_mem _ h)
  have hl : lv_has ls 5 [(0, .ref (o 0)), (1, .int v), (2, .int sd), (3, .ref oa)] := hl
  refine lv_aload_n hx hb dL_absence_0 rfl (lv_at hl 3 rfl) ?_
  refine lv_iconst (v := nI 0) hx hb dL_absence_1 (by decide) ?_
  refine lv_aload_n hx hb dL_absence_2 rfl (lv_at hl 0 rfl) ?_
  refine lv_iload_n hx hb dL_absence_3 rfl (lv_at hl 1 rfl) ?_
  refine lv_iload_n hx hb dL_absence_4 rfl (lv_at hl 2 rfl) ?_
  refine ti_frV (C := RX1) (As := [.int v, .int sd]) (rest := [.int (nI 0), .ref oa]) (wr := wO oa cJ f) ⟨hx, hb, hml, hown, hW⟩ (c_absence (lc := nI 0) hl0 q hq v sd sl mem) hX gE_ok (cwV 2 hW (gV tw_411 tw_412 tw_413 tw_1 tw_414) rfl rfl rfl (by decide +kernel) ⟨Nat.le_of_ble_eq_true rfl, Nat.le_of_ble_eq_true rfl⟩) (va_recv hK hP (ci := 0) (q0 := 0) rfl rfl) hP hD (va_K.sub hK [0, 1, 2] rfl) hS hA hT.1 rfl hl.1 rfl (Nat.le_of_ble_eq_true rfl) dL_absence_5 ⟨Nat.le_of_ble_eq_true rfl, Nat.le_of_ble_eq_true rfl⟩ (fun H locs hP hD hS => ?_)
  refine lv_i2l (v := (nrI (p_near sd isw mem (tn v) q)).toInt64) hx hb dL_absence_8 rfl ?_
  have hP := va_P_sw hP
  have hD := va_D_sw hD
  refine va_last hx hb hK hP hD hS 0 3 rfl rfl (vp_in_nI (show 0 < 1 by decide) (by decide)) dL_absence_9 (fun H locs hP hD hS => ?_)
  have hP : va_P D vwCl (wO oa cJ (vp_updL f 0 ((nrI (p_near sd isw mem (tn v) q)).toInt64)) ++ (wC o ad cI cZ cG tl (nI q) wc dc pn sl isw mem)) H := hP
  have hD : va_D A (wO oa cJ (vp_updL f 0 ((nrI (p_near sd isw mem (tn v) q)).toInt64)) ++ (wC o ad cI cZ cG tl (nI q) wc dc pn sl isw mem)) := hD
  have hP := va_P_sw hP
  have hD := va_D_sw hD
  refine lv_goto (tgt := 21) hx hb dL_absence_10 (by decide) ?_
  refine lv_iconst (v := nI 0) hx hb dL_absence_21 (by decide) ?_
  have hP : va_P D vwCl ((wC o ad cI cZ cG tl (nI q) wc dc pn sl isw mem) ++ wO oa cJ (vp_updL f 0 ((nrI (p_near sd isw mem (tn v) q)).toInt64))) H := hP
  have hD : va_D A ((wC o ad cI cZ cG tl (nI q) wc dc pn sl isw mem) ++ wO oa cJ (vp_updL f 0 ((nrI (p_near sd isw mem (tn v) q)).toInt64))) := hD
  exact ti_ret hx hb hr rfl hlk rfl hS hP hD rfl dL_absence_22 (Nat.le_of_ble_eq_true rfl) (Nat.le_of_ble_eq_true rfl)
set_option maxHeartbeats 4000000 in
set_option maxRecDepth 100000 in
theorem w_absence_1 {l : Launch} {D : va_G} {o ad : Nat → Nat} {cI cZ cG cJ : ClassId} {tl wc dc pn : Int32} {isw : Nat → Int32} (hl0 : l.stackTraces = false) (oa : Nat) (f : Nat → Int64) (q : Nat) (hq : q ≤ 24) (v sd sl : Int32) (mem : Nat → Nat → Int32) (hX : (x_req v (nI q)).or ((x_if (¬ (sd = 0 ∨ sd = nI 1)) nIOB).or (x_if (¬ isw (tn v) = 0) nISE)) = some nIOB) : MTi l lE yL_absence (.codeWith yL_absence cL_absence 5 (some .int) [(0, 10, 13, 28), (0, 10, 17, 40)] :: tW) ({ frames := 8, cells := 3, slots := 18, locals := 300 }) D vwCl (tL cI cZ cG cJ) [.ref (o 0), .int v, .int sd, .ref oa] ((wC o ad cI cZ cG tl (nI q) wc dc pn sl isw mem) ++ wO oa cJ f) ((wC o ad cI cZ cG tl (nI q) wc dc pn sl isw mem) ++ wO oa cJ f) (nI 1) none 3 18 := by
  refine MTi.ofWW (by decide +kernel) rfl (Nat.le_of_ble_eq_true rfl) ?_
  intro p e s m below meth c A ls hx hb hr hts hown hlk hml hA hP hK hD hT hl htab
  have hS : va_S A s.heap s.heap [] := va_S.rf
  have hown : s.vm.findClass RL = some m.cls := hown
  have hW : ∀ w ∈ tW, w.before _ s = true := fun w h => hts w (List.mem_cons_of_mem _ h)
  have hl : lv_has ls 5 [(0, .ref (o 0)), (1, .int v), (2, .int sd), (3, .ref oa)] := hl
  refine lv_aload_n hx hb dL_absence_0 rfl (lv_at hl 3 rfl) ?_
  refine lv_iconst (v := nI 0) hx hb dL_absence_1 (by decide) ?_
  refine lv_aload_n hx hb dL_absence_2 rfl (lv_at hl 0 rfl) ?_
  refine lv_iload_n hx hb dL_absence_3 rfl (lv_at hl 1 rfl) ?_
  refine lv_iload_n hx hb dL_absence_4 rfl (lv_at hl 2 rfl) ?_
  refine ti_frN (C := RX1) (As := [.int v, .int sd]) (rest := [.int (nI 0), .ref oa]) (wr := wO oa cJ f) ⟨hx, hb, hml, hown, hW⟩ (c_absence (lc := nI 0) hl0 q hq v sd sl mem) hX gE_ok (cwV 2 hW (gV tw_411 tw_412 tw_413 tw_1 tw_414) rfl rfl rfl (by decide +kernel) ⟨Nat.le_of_ble_eq_true rfl, Nat.le_of_ble_eq_true rfl⟩) (va_recv hK hP (ci := 0) (q0 := 0) rfl rfl) hP hD (va_K.sub hK [0, 1, 2] rfl) hS hA hT.1 rfl hl.1 rfl (Nat.le_of_ble_eq_true rfl) dL_absence_5 ⟨Nat.le_of_ble_eq_true rfl, Nat.le_of_ble_eq_true rfl⟩ (fun xa H locs hOb hP hS => ?_)
  obtain ⟨z0, z1, hex, hz0, hz1⟩ := ex2 htab
  refine xt_catchT (name := "java/lang/IndexOutOfBoundsException") (pc' := 13) hown hOb [] [z1] z0 hex ?_ (ex_cov hz0 (by decide) (by decide)) (ex_ct hz0 (by decide)) (by rw [ex_c hz0]; exact hW _ tw_264) (va_any rfl (hT.1.2.2.2 (.castable "java/lang/IndexOutOfBoundsException" "java/lang/IndexOutOfBoundsException") (by decide +kernel))) (ex_h hz0) ?_
  · exact fun y hy => absurd hy List.not_mem_nil
  refine lv_astore (lv' := [(4, .ref xa), (0, .ref (o 0)), (1, .int v), (2, .int sd), (3, .ref oa)]) hx hb dL_absence_13 hl (by decide) rfl (fun ls hl => ?_)
  refine lv_iconst (v := nI 1) hx hb dL_absence_15 (by decide) ?_
  have hP : va_P D vwCl ((wC o ad cI cZ cG tl (nI q) wc dc pn sl isw mem) ++ wO oa cJ f) H := hP
  have hD : va_D A ((wC o ad cI cZ cG tl (nI q) wc dc pn sl isw mem) ++ wO oa cJ f) := hD
  exact ti_ret hx hb hr rfl hlk rfl hS hP hD rfl dL_absence_16 (Nat.le_of_ble_eq_true rfl) (Nat.le_of_ble_eq_true rfl)
set_option maxHeartbeats 4000000 in
set_option maxRecDepth 100000 in
theorem w_absence_2 {l : Launch} {D : va_G} {o ad : Nat → Nat} {cI cZ cG cJ : ClassId} {tl wc dc pn : Int32} {isw : Nat → Int32} (hl0 : l.stackTraces = false) (oa : Nat) (f : Nat → Int64) (q : Nat) (hq : q ≤ 24) (v sd sl : Int32) (mem : Nat → Nat → Int32) (hX : (x_req v (nI q)).or ((x_if (¬ (sd = 0 ∨ sd = nI 1)) nIOB).or (x_if (¬ isw (tn v) = 0) nISE)) = some nISE) : MTi l lE yL_absence (.codeWith yL_absence cL_absence 5 (some .int) [(0, 10, 13, 28), (0, 10, 17, 40)] :: tW) ({ frames := 8, cells := 3, slots := 18, locals := 300 }) D vwCl (tL cI cZ cG cJ) [.ref (o 0), .int v, .int sd, .ref oa] ((wC o ad cI cZ cG tl (nI q) wc dc pn sl isw mem) ++ wO oa cJ f) ((wC o ad cI cZ cG tl (nI q) wc dc pn sl isw mem) ++ wO oa cJ f) (nI 2) none 3 18 := by
  refine MTi.ofWW (by decide +kernel) rfl (Nat.le_of_ble_eq_true rfl) ?_
  intro p e s m below meth c A ls hx hb hr hts hown hlk hml hA hP hK hD hT hl htab
  have hS : va_S A s.heap s.heap [] := va_S.rf
  have hown : s.vm.findClass RL = some m.cls := hown
  have hW : ∀ w ∈ tW, w.before _ s = true := fun w h => hts w (List.mem_cons_of_mem _ h)
  have hl : lv_has ls 5 [(0, .ref (o 0)), (1, .int v), (2, .int sd), (3, .ref oa)] := hl
  refine lv_aload_n hx hb dL_absence_0 rfl (lv_at hl 3 rfl) ?_
  refine lv_iconst (v := nI 0) hx hb dL_absence_1 (by decide) ?_
  refine lv_aload_n hx hb dL_absence_2 rfl (lv_at hl 0 rfl) ?_
  refine lv_iload_n hx hb dL_absence_3 rfl (lv_at hl 1 rfl) ?_
  refine lv_iload_n hx hb dL_absence_4 rfl (lv_at hl 2 rfl) ?_
  refine ti_frN (C := RX1) (As := [.int v, .int sd]) (rest := [.int (nI 0), .ref oa]) (wr := wO oa cJ f) ⟨hx, hb, hml, hown, hW⟩ (c_absence (lc := nI 0) hl0 q hq v sd sl mem) hX gE_ok (cwV 2 hW (gV tw_411 tw_412 tw_413 tw_1 tw_414) rfl rfl rfl (by decide +kernel) ⟨Nat.le_of_ble_eq_true rfl, Nat.le_of_ble_eq_true rfl⟩) (va_recv hK hP (ci := 0) (q0 := 0) rfl rfl) hP hD (va_K.sub hK [0, 1, 2] rfl) hS hA hT.1 rfl hl.1 rfl (Nat.le_of_ble_eq_true rfl) dL_absence_5 ⟨Nat.le_of_ble_eq_true rfl, Nat.le_of_ble_eq_true rfl⟩ (fun xa H locs hOb hP hS => ?_)
  obtain ⟨z0, z1, hex, hz0, hz1⟩ := ex2 htab
  refine xt_catchT (name := "java/lang/IllegalStateException") (pc' := 17) hown hOb [z0] [] z1 hex ?_ (ex_cov hz1 (by decide) (by decide)) (ex_ct hz1 (by decide)) (by rw [ex_c hz1]; exact hW _ tw_315) (va_any rfl (hT.1.2.2.2 (.castable "java/lang/IllegalStateException" "java/lang/IllegalStateException") (by decide +kernel))) (ex_h hz1) ?_
  · exact fun y hy => by
      simp only [List.mem_cons, List.not_mem_nil, or_false] at hy
      rcases hy with rfl
      exact ⟨ex_ct hz0 (by decide), "java/lang/IndexOutOfBoundsException", by rw [ex_c hz0]; exact hW _ tw_264, xt_nca (hT.2 (.not (.castable "java/lang/IllegalStateException" "java/lang/IndexOutOfBoundsException")) (by decide +kernel))⟩
  refine lv_astore (lv' := [(4, .ref xa), (0, .ref (o 0)), (1, .int v), (2, .int sd), (3, .ref oa)]) hx hb dL_absence_17 hl (by decide) rfl (fun ls hl => ?_)
  refine lv_iconst (v := nI 2) hx hb dL_absence_19 (by decide) ?_
  have hP : va_P D vwCl ((wC o ad cI cZ cG tl (nI q) wc dc pn sl isw mem) ++ wO oa cJ f) H := hP
  have hD : va_D A ((wC o ad cI cZ cG tl (nI q) wc dc pn sl isw mem) ++ wO oa cJ f) := hD
  exact ti_ret hx hb hr rfl hlk rfl hS hP hD rfl dL_absence_20 (Nat.le_of_ble_eq_true rfl) (Nat.le_of_ble_eq_true rfl)
