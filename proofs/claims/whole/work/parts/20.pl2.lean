set_option maxHeartbeats 1000000 in
set_option maxRecDepth 100000 in
/-- treeInto(q, array t) -/
theorem c_treeInto {l : Launch} {D : va_G} {o ad : Nat → Nat} {cI cZ cG : ClassId} {tl lc wc dc pn : Int32} {isw : Nat → Int32} (q t : Nat) (hq : q ≤ 24) (ht : t < 71) (l1 : lenC t = 32) (n : Nat) (mem : Nat → Nat → Int32) : MV l gE yX1_treeInto (.code yX1_treeInto cX1_treeInto 4 none :: tW) ({ frames := 5, cells := 0, slots := 0, locals := 192 }) D vwCl (tC cI cZ cG) [.ref (o 0), .int (nI q), .ref (ad t)] (wC o ad cI cZ cG tl lc wc dc pn (nI n) isw mem) (wC o ad cI cZ cG tl lc wc dc pn (nI (p_tree q t (n, mem)).1) isw ((p_tree q t (n, mem)).2)) := by
  refine MV.ofW (by decide +kernel) rfl (Nat.le_of_ble_eq_true rfl) ?_
  intro p e s m below meth c A ls hx hb hr hts hown hlk hml hA hP hK hD hT hl
  have hS : va_S A s.heap s.heap [] := va_S.rf
  have hown : s.vm.findClass RX1 = some m.cls := hown
  have hW : ∀ w ∈ tW, w.before _ s = true := fun w h => hts w (List.mem_cons_of_mem _ h)
  have hl : lv_has ls 4 [(0, .ref (o 0)), (1, .int (nI q)), (2, .ref (ad t))] := hl
  refine lv_iload_n hx hb dX1_treeInto_0 rfl (lv_at hl 1 rfl) ?_
  refine lv_iconst (v := nI 1) hx hb dX1_treeInto_1 (by decide) ?_
  refine lv_icmp_ge (tgt := 21) hx hb dX1_treeInto_2 (by decide) (fun hc => ?_) (fun hc => ?_)
  · have h1 : ¬ q < 1 := fun h => nI_ge h (by decide) hc
    have e1 : p_tree q t (n, mem) = ((p_up q q (n, p_lay q mem)).1, p_copy 47 t (p_up q q (n, p_lay q mem)).2) := if_neg h1
    have loop : ∀ (k i : Nat) (H : Heap) (locs : List Loc) (ls : Array Slot) (a : Nat) (m2 : xMem), 1 ≤ i ∧ i ≤ k ∧ i ≤ 24 ∧ p_up k i (a, m2) = p_up q q (n, p_lay q mem) → va_P D vwCl (wC o ad cI cZ cG tl lc wc dc pn (nI a) isw m2) H → va_D A (wC o ad cI cZ cG tl lc wc dc pn (nI a) isw m2) → va_S A s.heap H locs → lv_has ls 4 [(0, .ref (o 0)), (2, .ref (ad t)), (3, .int (nI i))] → W p l e ({ frames := 5, cells := 0, slots := 0, locals := 192 }) s m ([.ref (o 0), .int (nI q), .ref (ad t)] : List Value).toArray below meth c H locs 0 0 (MQ below (xQv D vwCl (wC o ad cI cZ cG tl lc wc dc pn (nI (p_tree q t (n, mem)).1) isw ((p_tree q t (n, mem)).2)) A) ([.ref (o 0), .int (nI q), .ref (ad t)] : List Value).toArray s 0 0 A) (F0 m 28 ls []) := by
      intro k
      induction k with
      | zero =>
        intro i H locs ls a m2 hk hP hD hS hl
        exact absurd hk.1 (by omega)
      | succ k ih =>
        intro i H locs ls a m2 hk hP hD hS hl
        obtain ⟨g1, g2, g3, g4⟩ := hk
        refine lv_iload_n hx hb dX1_treeInto_28 rfl (lv_at hl 2 rfl) ?_
        refine lv_iconst (v := nI 1) hx hb dX1_treeInto_29 (by decide) ?_
        refine lv_icmp_le (tgt := 47) hx hb dX1_treeInto_30 (by decide) (fun hd => ?_) (fun hd => ?_)
        · have g5 : i ≤ 1 := (nI_leI (by omega) (by decide)).mp hd
          have g6 : (a, m2) = p_up q q (n, p_lay q mem) := by rw [← g4]; exact (if_pos g5).symm
          refine lv_aload_n hx hb dX1_treeInto_47 rfl (lv_at hl 0 rfl) ?_
          refine va_get (D := D) (ci := 0) (v := .ref (o 5)) (C := RX1) (T := TX1) (N := 14) hx hb hW iPL hown hK hP 0 rfl rfl 12 (by decide) (hW _ tw_56) (fun _ h9 => h9) rfl dX1_treeInto_48 ?_
          refine lv_iconst (v := nI 0) hx hb dX1_treeInto_51 (by decide) ?_
          refine m_row hx hb hK hP 5 2 0 rfl rfl (by omega) (by decide) rfl dX1_treeInto_52 ?_
          refine lv_aload_n hx hb dX1_treeInto_53 rfl (lv_at hl 1 rfl) ?_
          refine mv_callS (As := [.ref (ad (47 + 0)), .ref (ad t)]) (rest := []) ⟨hx, hb, hml, hown, hW⟩ (c_copyDigest (47 + 0) t (by decide) (ht) (by decide) (l1) (nI a) m2) gE_ok (va_cwS 2 hW (gS tw_249 tw_250 tw_1 tw_251) rfl rfl rfl (by decide +kernel) ⟨Nat.le_of_ble_eq_true rfl, Nat.le_of_ble_eq_true rfl⟩) hP hD hK hS hA hT rfl hl.1 rfl (Nat.le_of_ble_eq_true rfl) dX1_treeInto_54 ⟨Nat.zero_le _, Nat.zero_le _⟩ (fun H locs hP hD hS => ?_)
          have hP : va_P D vwCl (wC o ad cI cZ cG tl lc wc dc pn (nI a) isw (p_copy (47 + 0) t m2)) H := hP
          have hD : va_D A (wC o ad cI cZ cG tl lc wc dc pn (nI a) isw (p_copy (47 + 0) t m2)) := hD
          have hP : va_P D vwCl (wC o ad cI cZ cG tl lc wc dc pn (nI (p_tree q t (n, mem)).1) isw ((p_tree q t (n, mem)).2)) H := by rw [e1, ← g6]; exact hP
          have hD : va_D A (wC o ad cI cZ cG tl lc wc dc pn (nI (p_tree q t (n, mem)).1) isw ((p_tree q t (n, mem)).2)) := by rw [e1, ← g6]; exact hD
          exact mv_ret hx hb hr hlk hS hP hD dX1_treeInto_57
        · have g5 : 2 ≤ i := by
            rcases Nat.lt_or_ge i 2 with h | h
            · exact absurd (nI_le (by omega) (by decide)) hd
            · exact h
          refine lv_aload_n hx hb dX1_treeInto_33 rfl (lv_at hl 0 rfl) ?_
          refine lv_iload_n hx hb dX1_treeInto_34 rfl (lv_at hl 2 rfl) ?_
          refine mv_callV (C := RX1) (As := [.int (nI i)]) (rest := []) ⟨hx, hb, hml, hown, hW⟩ (c_foldLevel i (by omega) (by omega) a m2) gE_ok (cwV 1 hW (gV tw_253 tw_255 tv_X1_foldLevel tw_1 tw_256) rfl rfl rfl (by decide +kernel) ⟨Nat.le_of_ble_eq_true rfl, Nat.le_of_ble_eq_true rfl⟩) (va_recv hK hP (ci := 0) (q0 := 0) rfl rfl) hP hD hK hS hA hT rfl hl.1 rfl (Nat.le_of_ble_eq_true rfl) dX1_treeInto_35 ⟨Nat.zero_le _, Nat.zero_le _⟩ (fun H locs hP hD hS => ?_)
          have hP : va_P D vwCl (wC o ad cI cZ cG tl lc wc dc pn (nI (p_fold i (a, m2)).1) isw ((p_fold i (a, m2)).2)) H := hP
          have hD : va_D A (wC o ad cI cZ cG tl lc wc dc pn (nI (p_fold i (a, m2)).1) isw ((p_fold i (a, m2)).2)) := hD
          refine lv_iload_n hx hb dX1_treeInto_38 rfl (lv_at hl 2 rfl) ?_
          refine lv_iload_n hx hb dX1_treeInto_39 rfl (lv_at hl 2 rfl) ?_
          refine lv_iconst (v := nI 2) hx hb dX1_treeInto_40 (by decide) ?_
          refine lv_idiv hx hb dX1_treeInto_41 (by decide) ?_
          refine lv_eqi (v := nI (i / 2)) (pk_div (by omega) (by decide) (by decide)) ?_
          refine lv_isub hx hb dX1_treeInto_42 ?_
          refine lv_eqi (v := nI (i - i / 2)) (pk_sub (by omega)) ?_
          refine lv_istore_n (lv' := [(3, .int (nI (i - i / 2))), (0, .ref (o 0)), (2, .ref (ad t))]) hx hb dX1_treeInto_43 rfl hl (by decide) rfl (fun ls hl => ?_)
          refine lv_goto (tgt := 28) hx hb dX1_treeInto_44 (by decide) ?_
          exact ih (i - i / 2) H locs ls _ _ ⟨by omega, by omega, by omega, by rw [← g4]; exact (if_neg (by omega)).symm⟩ hP hD hS (lv_sub hl [1, 2, 0] rfl)
    refine lv_aload_n hx hb dX1_treeInto_21 rfl (lv_at hl 0 rfl) ?_
    refine lv_iload_n hx hb dX1_treeInto_22 rfl (lv_at hl 1 rfl) ?_
    refine mv_callV (C := RX1) (As := [.int (nI q)]) (rest := []) ⟨hx, hb, hml, hown, hW⟩ (c_layLeaves q (by omega) (nI n) mem) gE_ok (cwV 1 hW (gV tw_245 tw_247 tv_X1_layLeaves tw_1 tw_248) rfl rfl rfl (by decide +kernel) ⟨Nat.le_of_ble_eq_true rfl, Nat.le_of_ble_eq_true rfl⟩) (va_recv hK hP (ci := 0) (q0 := 0) rfl rfl) hP hD hK hS hA hT rfl hl.1 rfl (Nat.le_of_ble_eq_true rfl) dX1_treeInto_23 ⟨Nat.zero_le _, Nat.zero_le _⟩ (fun H locs hP hD hS => ?_)
    have hP : va_P D vwCl (wC o ad cI cZ cG tl lc wc dc pn (nI n) isw (p_lay q mem)) H := hP
    have hD : va_D A (wC o ad cI cZ cG tl lc wc dc pn (nI n) isw (p_lay q mem)) := hD
    refine lv_iload_n hx hb dX1_treeInto_26 rfl (lv_at hl 1 rfl) ?_
    refine lv_istore_n (lv' := [(3, .int (nI q)), (0, .ref (o 0)), (1, .int (nI q)), (2, .ref (ad t))]) hx hb dX1_treeInto_27 rfl hl (by decide) rfl (fun ls hl => ?_)
    exact loop q q H locs ls _ _ ⟨by omega, by omega, by omega, rfl⟩ hP hD hS (lv_sub hl [1, 3, 0] rfl)
  · have h1 : q < 1 := by
      rcases Nat.lt_or_ge q 1 with h | h
      · exact h
      · exact absurd (nI_le h (by omega)) hc
    have e1 : p_tree q t (n, mem) = P_fin t (0, mem) := if_pos h1
    refine lv_aload_n hx hb dX1_treeInto_5 rfl (lv_at hl 0 rfl) ?_
    refine va_get (D := D) (ci := 0) (v := .ref (o 1)) (C := RX1) (T := TX1) (N := 14) hx hb hW iPL hown hK hP 0 rfl rfl 0 (by decide) (hW _ tw_44) (fun _ h9 => h9) rfl dX1_treeInto_6 ?_
    refine mv_callV (C := RX0) (As := []) (rest := []) ⟨hx, hb, hml, hown, hW⟩ (c_begin n mem) gE_ok (cwV 0 hW (gV tw_190 tw_191 tw_192 tw_2 tw_193) rfl rfl rfl (by decide +kernel) ⟨Nat.le_of_ble_eq_true rfl, Nat.le_of_ble_eq_true rfl⟩) (va_recv hK hP (ci := 1) (q0 := 1) rfl rfl) hP hD hK hS hA hT rfl hl.1 rfl (Nat.le_of_ble_eq_true rfl) dX1_treeInto_9 ⟨Nat.zero_le _, Nat.zero_le _⟩ (fun H locs hP hD hS => ?_)
    have hP : va_P D vwCl (wC o ad cI cZ cG tl lc wc dc pn (nI 0) isw mem) H := hP
    have hD : va_D A (wC o ad cI cZ cG tl lc wc dc pn (nI 0) isw mem) := hD
    refine lv_aload_n hx hb dX1_treeInto_12 rfl (lv_at hl 0 rfl) ?_
    refine va_get (D := D) (ci := 0) (v := .ref (o 1)) (C := RX1) (T := TX1) (N := 14) hx hb hW iPL hown hK hP 0 rfl rfl 0 (by decide) (hW _ tw_44) (fun _ h9 => h9) rfl dX1_treeInto_13 ?_
    refine lv_aload_n hx hb dX1_treeInto_16 rfl (lv_at hl 2 rfl) ?_
    refine mv_callV (C := RX0) (As := [.ref (ad t)]) (rest := []) ⟨hx, hb, hml, hown, hW⟩ (C_finishInto 0 t (by decide) (ht) (l1) mem) gE_ok (cwV 1 hW (gV tw_203 tw_204 tw_205 tw_2 tw_206) rfl rfl rfl (by decide +kernel) ⟨Nat.le_of_ble_eq_true rfl, Nat.le_of_ble_eq_true rfl⟩) (va_recv hK hP (ci := 1) (q0 := 1) rfl rfl) hP hD hK hS hA hT rfl hl.1 rfl (Nat.le_of_ble_eq_true rfl) dX1_treeInto_17 ⟨Nat.zero_le _, Nat.zero_le _⟩ (fun H locs hP hD hS => ?_)
    have hP : va_P D vwCl (wC o ad cI cZ cG tl lc wc dc pn (nI (P_fin t (0, mem)).1) isw ((P_fin t (0, mem)).2)) H := hP
    have hD : va_D A (wC o ad cI cZ cG tl lc wc dc pn (nI (P_fin t (0, mem)).1) isw ((P_fin t (0, mem)).2)) := hD
    have hP : va_P D vwCl (wC o ad cI cZ cG tl lc wc dc pn (nI (p_tree q t (n, mem)).1) isw ((p_tree q t (n, mem)).2)) H := by rw [e1]; exact hP
    have hD : va_D A (wC o ad cI cZ cG tl lc wc dc pn (nI (p_tree q t (n, mem)).1) isw ((p_tree q t (n, mem)).2)) := by rw [e1]; exact hD
    exact mv_ret hx hb hr hlk hS hP hD dX1_treeInto_20
set_option maxHeartbeats 1000000 in
set_option maxRecDepth 100000 in
/-- dueLength(x0, q) -/
theorem c_dueLength {l : Launch} {D : va_G} {cI cZ cG : ClassId} (w : va_W) (x0 q : Nat) (hx0 : x0 < q) (hq : q ≤ 24) : MI l gE yX1_dueLength (.code yX1_dueLength cX1_dueLength 5 (some .int) :: tW) ({ frames := 2, cells := 0, slots := 0, locals := 48 }) D vwCl (tC cI cZ cG) [.int (nI x0), .int (nI q)] (w) (w) (nI (p_due q 0 x0 q)) := by
  refine MI.ofW (by decide +kernel) rfl (Nat.le_of_ble_eq_true rfl) ?_
  intro p e s m below meth c A ls hx hb hr hts hown hlk hml hA hP hK hD hT hl
  have hS : va_S A s.heap s.heap [] := va_S.rf
  have hown : s.vm.findClass RX1 = some m.cls := hown
  have hW : ∀ w ∈ tW, w.before _ s = true := fun w h => hts w (List.mem_cons_of_mem _ h)
  have hl : lv_has ls 5 [(0, .int (nI x0)), (1, .int (nI q))] := hl
  have loop : ∀ (k i : Nat) (H : Heap) (locs : List Loc) (ls : Array Slot) (c1 x : Nat), 1 ≤ i ∧ i ≤ k ∧ i ≤ 24 ∧ x < i ∧ c1 + hlv i ≤ 5 ∧ nI (p_due k c1 x i) = nI (p_due q 0 x0 q) → va_P D vwCl (w) H → va_D A (w) → va_S A s.heap H locs → lv_has ls 5 [(2, .int (nI c1)), (3, .int (nI x)), (4, .int (nI i))] → W p l e ({ frames := 2, cells := 0, slots := 0, locals := 48 }) s m ([.int (nI x0), .int (nI q)] : List Value).toArray below meth c H locs 0 0 (MQ below (xQi D vwCl (w) (nI (p_due q 0 x0 q)) A) ([.int (nI x0), .int (nI q)] : List Value).toArray s 0 0 A) (F0 m 7 ls []) := by
    intro k
    induction k with
    | zero =>
      intro i H locs ls c1 x hk hP hD hS hl
      exact absurd hk.1 (by omega)
    | succ k ih =>
      intro i H locs ls c1 x hk hP hD hS hl
      obtain ⟨g1, g2, g3, g4, g6, g7⟩ := hk
      refine lv_iload hx hb dX1_dueLength_7 (lv_at hl 2 rfl) ?_
      refine lv_iconst (v := nI 1) hx hb dX1_dueLength_9 (by decide) ?_
      refine lv_icmp_le (tgt := 41) hx hb dX1_dueLength_10 (by decide) (fun hd => ?_) (fun hd => ?_)
      · have g5 : i ≤ 1 := (nI_leI (by omega) (by decide)).mp hd
        refine lv_iload_n hx hb dX1_dueLength_41 rfl (lv_at hl 0 rfl) ?_
        have hP : va_P D vwCl (w) H := by exact hP
        have hD : va_D A (w) := by exact hD
        exact mi_ret hx hb hr rfl hlk hS hP hD (by rw [← g7]; exact congrArg nI (if_pos g5).symm) dX1_dueLength_42
      · have g5 : 2 ≤ i := by
          rcases Nat.lt_or_ge i 2 with h | h
          · exact absurd (nI_le (by omega) (by decide)) hd
          · exact h
        refine lv_iload_n hx hb dX1_dueLength_13 rfl (lv_at hl 1 rfl) ?_
        refine lv_iload hx hb dX1_dueLength_14 (lv_at hl 2 rfl) ?_
        refine mi_callS (As := [.int (nI x), .int (nI i)]) (rest := []) ⟨hx, hb, hml, hown, hW⟩ (c_hasPartner _ (nI x) (nI i)) gE_ok (va_cwS 2 hW (gS tw_340 tw_341 tw_1 tw_342) rfl rfl rfl (by decide +kernel) ⟨Nat.le_of_ble_eq_true rfl, Nat.le_of_ble_eq_true rfl⟩) hP hD hK hS hA hT rfl hl.1 rfl (Nat.le_of_ble_eq_true rfl) dX1_dueLength_16 ⟨Nat.zero_le _, Nat.zero_le _⟩ (fun H locs hP hD hS => ?_)
        refine lv_eqi (v := hb1 x i) (p_has_eq (by omega) (by omega)) ?_
        refine lv_if_eq (tgt := 25) hx hb dX1_dueLength_19 (by decide) (fun hh => ?_) (fun hh => ?_)
        · have g8 := hb1_0 hh
          refine lv_iload_n hx hb dX1_dueLength_25 rfl (lv_at hl 1 rfl) ?_
          refine lv_iconst (v := nI 2) hx hb dX1_dueLength_26 (by decide) ?_
          refine lv_idiv hx hb dX1_dueLength_27 (by decide) ?_
          refine lv_eqi (v := nI (x / 2)) (pk_div (by omega) (by decide) (by decide)) ?_
          refine lv_istore_n (lv' := [(3, .int (nI (x / 2))), (2, .int (nI c1)), (4, .int (nI i))]) hx hb dX1_dueLength_28 rfl hl (by decide) rfl (fun ls hl => ?_)
          refine lv_iload hx hb dX1_dueLength_29 (lv_at hl 2 rfl) ?_
          refine lv_iload hx hb dX1_dueLength_31 (lv_at hl 2 rfl) ?_
          refine lv_iconst (v := nI 2) hx hb dX1_dueLength_33 (by decide) ?_
          refine lv_idiv hx hb dX1_dueLength_34 (by decide) ?_
          refine lv_eqi (v := nI (i / 2)) (pk_div (by omega) (by decide) (by decide)) ?_
          refine lv_isub hx hb dX1_dueLength_35 ?_
          refine lv_eqi (v := nI (i - i / 2)) (pk_sub (by omega)) ?_
          refine lv_istore (lv' := [(4, .int (nI (i - i / 2))), (3, .int (nI (x / 2))), (2, .int (nI c1))]) hx hb dX1_dueLength_36 hl (by decide) rfl (fun ls hl => ?_)
          refine lv_goto (tgt := 7) hx hb dX1_dueLength_38 (by decide) ?_
          exact ih (i - i / 2) H locs ls c1 (x / 2) ⟨by omega, by omega, by omega, half_lt g4 g5, by have := hlv_step i (by omega) g5; omega, by rw [← g7]; exact (congrArg nI ((if_neg (by omega)).trans (by rw [if_neg g8]))).symm⟩ hP hD hS (lv_sub hl [2, 1, 0] rfl)
        · have g8 := hb1_1 hh
          refine lv_iinc (v := nI (c1 + 1)) (lv' := [(2, .int (nI (c1 + 1))), (3, .int (nI x)), (4, .int (nI i))]) hx hb dX1_dueLength_22 hl (k := 0) rfl (nI_1 c1) (by decide) rfl (fun ls hl => ?_)
          refine lv_iload_n hx hb dX1_dueLength_25 rfl (lv_at hl 1 rfl) ?_
          refine lv_iconst (v := nI 2) hx hb dX1_dueLength_26 (by decide) ?_
          refine lv_idiv hx hb dX1_dueLength_27 (by decide) ?_
          refine lv_eqi (v := nI (x / 2)) (pk_div (by omega) (by decide) (by decide)) ?_
          refine lv_istore_n (lv' := [(3, .int (nI (x / 2))), (2, .int (nI (c1 + 1))), (4, .int (nI i))]) hx hb dX1_dueLength_28 rfl hl (by decide) rfl (fun ls hl => ?_)
          refine lv_iload hx hb dX1_dueLength_29 (lv_at hl 2 rfl) ?_
          refine lv_iload hx hb dX1_dueLength_31 (lv_at hl 2 rfl) ?_
          refine lv_iconst (v := nI 2) hx hb dX1_dueLength_33 (by decide) ?_
          refine lv_idiv hx hb dX1_dueLength_34 (by decide) ?_
          refine lv_eqi (v := nI (i / 2)) (pk_div (by omega) (by decide) (by decide)) ?_
          refine lv_isub hx hb dX1_dueLength_35 ?_
          refine lv_eqi (v := nI (i - i / 2)) (pk_sub (by omega)) ?_
          refine lv_istore (lv' := [(4, .int (nI (i - i / 2))), (3, .int (nI (x / 2))), (2, .int (nI (c1 + 1)))]) hx hb dX1_dueLength_36 hl (by decide) rfl (fun ls hl => ?_)
          refine lv_goto (tgt := 7) hx hb dX1_dueLength_38 (by decide) ?_
          exact ih (i - i / 2) H locs ls (c1 + 1) (x / 2) ⟨by omega, by omega, by omega, half_lt g4 g5, by have := hlv_step i (by omega) g5; omega, by rw [← g7]; exact (congrArg nI ((if_neg (by omega)).trans (by rw [if_pos g8]))).symm⟩ hP hD hS (lv_sub hl [2, 1, 0] rfl)
  refine lv_iconst (v := nI 0) hx hb dX1_dueLength_0 (by decide) ?_
  refine lv_istore_n (lv' := [(2, .int (nI 0)), (0, .int (nI x0)), (1, .int (nI q))]) hx hb dX1_dueLength_1 rfl hl (by decide) rfl (fun ls hl => ?_)
  refine lv_iload_n hx hb dX1_dueLength_2 rfl (lv_at hl 1 rfl) ?_
  refine lv_istore_n (lv' := [(3, .int (nI x0)), (2, .int (nI 0)), (0, .int (nI x0)), (1, .int (nI q))]) hx hb dX1_dueLength_3 rfl hl (by decide) rfl (fun ls hl => ?_)
  refine lv_iload_n hx hb dX1_dueLength_4 rfl (lv_at hl 3 rfl) ?_
  refine lv_istore (lv' := [(4, .int (nI q)), (3, .int (nI x0)), (2, .int (nI 0)), (0, .int (nI x0)), (1, .int (nI q))]) hx hb dX1_dueLength_5 hl (by decide) rfl (fun ls hl => ?_)
  exact loop q q s.heap [] ls 0 x0 ⟨by omega, by omega, by omega, by omega, by have := hlv_5 q (by omega); omega, rfl⟩ hP hD hS (lv_sub hl [2, 1, 0] rfl)
set_option maxHeartbeats 1000000 in
set_option maxRecDepth 100000 in
/-- makePath(x0, q) -/
theorem c_makePath {l : Launch} {D : va_G} {o ad : Nat → Nat} {cI cZ cG : ClassId} {tl lc wc dc pn : Int32} {isw : Nat → Int32} (x0 q : Nat) (hx0 : x0 < q) (hq : q ≤ 24) (n : Nat) (mem : Nat → Nat → Int32) : MV l gE yX1_makePath (.code yX1_makePath cX1_makePath 5 none :: tW) ({ frames := 5, cells := 0, slots := 0, locals := 192 }) D vwCl (tC cI cZ cG) [.ref (o 0), .int (nI x0), .int (nI q)] (wC o ad cI cZ cG tl lc wc dc pn (nI n) isw mem) (wC o ad cI cZ cG tl lc wc dc (nI (p_path x0 q (n, mem)).1) (nI (p_path x0 q (n, mem)).2.1) isw (p_path x0 q (n, mem)).2.2) := by
  refine MV.ofW (by decide +kernel) rfl (Nat.le_of_ble_eq_true rfl) ?_
  intro p e s m below meth c A ls hx hb hr hts hown hlk hml hA hP hK hD hT hl
  have hS : va_S A s.heap s.heap [] := va_S.rf
  have hown : s.vm.findClass RX1 = some m.cls := hown
  have hW : ∀ w ∈ tW, w.before _ s = true := fun w h => hts w (List.mem_cons_of_mem _ h)
  have hl : lv_has ls 5 [(0, .ref (o 0)), (1, .int (nI x0)), (2, .int (nI q))] := hl
  have loop : ∀ (k i : Nat) (H : Heap) (locs : List Loc) (ls : Array Slot) (c1 x a : Nat) (m2 : xMem), 1 ≤ i ∧ i ≤ k ∧ i ≤ 24 ∧ x < i ∧ c1 + hlv i ≤ 5 ∧ p_pathA k x i (c1, a, m2) = p_path x0 q (n, mem) → va_P D vwCl (wC o ad cI cZ cG tl lc wc dc (nI c1) (nI a) isw m2) H → va_D A (wC o ad cI cZ cG tl lc wc dc (nI c1) (nI a) isw m2) → va_S A s.heap H locs → lv_has ls 5 [(0, .ref (o 0)), (3, .int (nI x)), (4, .int (nI i))] → W p l e ({ frames := 5, cells := 0, slots := 0, locals := 192 }) s m ([.ref (o 0), .int (nI x0), .int (nI q)] : List Value).toArray below meth c H locs 0 0 (MQ below (xQv D vwCl (wC o ad cI cZ cG tl lc wc dc (nI (p_path x0 q (n, mem)).1) (nI (p_path x0 q (n, mem)).2.1) isw (p_path x0 q (n, mem)).2.2) A) ([.ref (o 0), .int (nI x0), .int (nI q)] : List Value).toArray s 0 0 A) (F0 m 15 ls []) := by
    intro k
    induction k with
    | zero =>
      intro i H locs ls c1 x a m2 hk hP hD hS hl
      exact absurd hk.1 (by omega)
    | succ k ih =>
      intro i H locs ls c1 x a m2 hk hP hD hS hl
      obtain ⟨g1, g2, g3, g4, g6, g7⟩ := hk
      refine lv_iload hx hb dX1_makePath_15 (lv_at hl 2 rfl) ?_
      refine lv_iconst (v := nI 1) hx hb dX1_makePath_17 (by decide) ?_
      refine lv_icmp_le (tgt := 83) hx hb dX1_makePath_18 (by decide) (fun hd => ?_) (fun hd => ?_)
      · have g5 : i ≤ 1 := (nI_leI (by omega) (by decide)).mp hd
        have g8 : (c1, a, m2) = p_path x0 q (n, mem) := by rw [← g7]; exact (if_pos g5).symm
        have hP : va_P D vwCl (wC o ad cI cZ cG tl lc wc dc (nI (p_path x0 q (n, mem)).1) (nI (p_path x0 q (n, mem)).2.1) isw (p_path x0 q (n, mem)).2.2) H := by rw [← g8]; exact hP
        have hD : va_D A (wC o ad cI cZ cG tl lc wc dc (nI (p_path x0 q (n, mem)).1) (nI (p_path x0 q (n, mem)).2.1) isw (p_path x0 q (n, mem)).2.2) := by rw [← g8]; exact hD
        exact mv_ret hx hb hr hlk hS hP hD dX1_makePath_83
      · have g5 : 2 ≤ i := by
          rcases Nat.lt_or_ge i 2 with h | h
          · exact absurd (nI_le (by omega) (by decide)) hd
          · exact h
        have g9 := hlv_step i (by omega) g5
        refine lv_iload_n hx hb dX1_makePath_21 rfl (lv_at hl 1 rfl) ?_
        refine lv_iload hx hb dX1_makePath_22 (lv_at hl 2 rfl) ?_
        refine mi_callS (As := [.int (nI x), .int (nI i)]) (rest := []) ⟨hx, hb, hml, hown, hW⟩ (c_hasPartner _ (nI x) (nI i)) gE_ok (va_cwS 2 hW (gS tw_340 tw_341 tw_1 tw_342) rfl rfl rfl (by decide +kernel) ⟨Nat.le_of_ble_eq_true rfl, Nat.le_of_ble_eq_true rfl⟩) hP hD hK hS hA hT rfl hl.1 rfl (Nat.le_of_ble_eq_true rfl) dX1_makePath_24 ⟨Nat.zero_le _, Nat.zero_le _⟩ (fun H locs hP hD hS => ?_)
        refine lv_eqi (v := hb1 x i) (p_has_eq (by omega) (by omega)) ?_
        refine lv_if_eq (tgt := 61) hx hb dX1_makePath_27 (by decide) (fun hh => ?_) (fun hh => ?_)
        · have g8 := hb1_0 hh
          refine lv_aload_n hx hb dX1_makePath_61 rfl (lv_at hl 0 rfl) ?_
          refine lv_iload hx hb dX1_makePath_62 (lv_at hl 2 rfl) ?_
          refine mv_callV (C := RX1) (As := [.int (nI i)]) (rest := []) ⟨hx, hb, hml, hown, hW⟩ (c_foldLevel i (by omega) (by omega) a m2) gE_ok (cwV 1 hW (gV tw_253 tw_255 tv_X1_foldLevel tw_1 tw_256) rfl rfl rfl (by decide +kernel) ⟨Nat.le_of_ble_eq_true rfl, Nat.le_of_ble_eq_true rfl⟩) (va_recv hK hP (ci := 0) (q0 := 0) rfl rfl) hP hD hK hS hA hT rfl hl.1 rfl (Nat.le_of_ble_eq_true rfl) dX1_makePath_64 ⟨Nat.zero_le _, Nat.zero_le _⟩ (fun H locs hP hD hS => ?_)
          have hP : va_P D vwCl (wC o ad cI cZ cG tl lc wc dc (nI c1) (nI (p_fold i (a, m2)).1) isw ((p_fold i (a, m2)).2)) H := hP
          have hD : va_D A (wC o ad cI cZ cG tl lc wc dc (nI c1) (nI (p_fold i (a, m2)).1) isw ((p_fold i (a, m2)).2)) := hD
          refine lv_iload_n hx hb dX1_makePath_67 rfl (lv_at hl 1 rfl) ?_
          refine lv_iconst (v := nI 2) hx hb dX1_makePath_68 (by decide) ?_
          refine lv_idiv hx hb dX1_makePath_69 (by decide) ?_
          refine lv_eqi (v := nI (x / 2)) (pk_div (by omega) (by decide) (by decide)) ?_
          refine lv_istore_n (lv' := [(3, .int (nI (x / 2))), (0, .ref (o 0)), (4, .int (nI i))]) hx hb dX1_makePath_70 rfl hl (by decide) rfl (fun ls hl => ?_)
          refine lv_iload hx hb dX1_makePath_71 (lv_at hl 2 rfl) ?_
          refine lv_iload hx hb dX1_makePath_73 (lv_at hl 2 rfl) ?_
          refine lv_iconst (v := nI 2) hx hb dX1_makePath_75 (by decide) ?_
          refine lv_idiv hx hb dX1_makePath_76 (by decide) ?_
          refine lv_eqi (v := nI (i / 2)) (pk_div (by omega) (by decide) (by decide)) ?_
          refine lv_isub hx hb dX1_makePath_77 ?_
          refine lv_eqi (v := nI (i - i / 2)) (pk_sub (by omega)) ?_
          refine lv_istore (lv' := [(4, .int (nI (i - i / 2))), (3, .int (nI (x / 2))), (0, .ref (o 0))]) hx hb dX1_makePath_78 hl (by decide) rfl (fun ls hl => ?_)
          refine lv_goto (tgt := 15) hx hb dX1_makePath_80 (by decide) ?_
          exact ih (i - i / 2) H locs ls c1 (x / 2) _ _ ⟨by omega, by omega, by omega, half_lt g4 g5, by omega, by rw [← g7]; exact ((if_neg (by omega)).trans (by rw [if_neg g8])).symm⟩ hP hD hS (lv_sub hl [2, 1, 0] rfl)
        · have g8 := hb1_1 hh
          refine lv_aload_n hx hb dX1_makePath_30 rfl (lv_at hl 0 rfl) ?_
          refine va_get (D := D) (ci := 0) (v := .ref (o 5)) (C := RX1) (T := TX1) (N := 14) hx hb hW iPL hown hK hP 0 rfl rfl 12 (by decide) (hW _ tw_56) (fun _ h9 => h9) rfl dX1_makePath_31 ?_
          refine lv_iload_n hx hb dX1_makePath_34 rfl (lv_at hl 1 rfl) ?_
          refine mi_callS (As := [.int (nI x)]) (rest := [.ref (o 5)]) ⟨hx, hb, hml, hown, hW⟩ (c_partnerOf _ (nI x)) gE_ok (va_cwS 1 hW (gS tw_343 tw_344 tw_1 tw_345) rfl rfl rfl (by decide +kernel) ⟨Nat.le_of_ble_eq_true rfl, Nat.le_of_ble_eq_true rfl⟩) hP hD hK hS hA hT rfl hl.1 rfl (Nat.le_of_ble_eq_true rfl) dX1_makePath_35 ⟨Nat.zero_le _, Nat.zero_le _⟩ (fun H locs hP hD hS => ?_)
          refine lv_eqi (v := nI (x ^^^ 1)) (nI_xor1 x) ?_
          refine m_row hx hb hK hP 5 2 (x ^^^ 1) rfl rfl (by omega) (by decide) rfl dX1_makePath_38 ?_
          refine lv_aload_n hx hb dX1_makePath_39 rfl (lv_at hl 0 rfl) ?_
          refine va_get (D := D) (ci := 0) (v := .ref (o 4)) (C := RX1) (T := TX1) (N := 14) hx hb hW iPL hown hK hP 0 rfl rfl 10 (by decide) (hW _ tw_54) (fun _ h9 => h9) rfl dX1_makePath_40 ?_
          refine lv_aload_n hx hb dX1_makePath_43 rfl (lv_at hl 0 rfl) ?_
          refine va_get (D := D) (ci := 0) (v := .int (nI c1)) (C := RX1) (T := TX1) (N := 14) hx hb hW iPL hown hK hP 0 rfl rfl 11 (by decide) (hW _ tw_55) (fun _ h9 => h9) rfl dX1_makePath_44 ?_
          refine m_row hx hb hK hP 4 2 c1 rfl rfl (by omega) (by decide) rfl dX1_makePath_47 ?_
          refine mv_callS (As := [.ref (ad (47 + (x ^^^ 1))), .ref (ad (42 + c1))]) (rest := []) ⟨hx, hb, hml, hown, hW⟩ (c_copyDigest (47 + (x ^^^ 1)) (42 + c1) (by omega) (by omega) (lenC_row (by omega)) (lenC_row (by omega)) (nI a) m2) gE_ok (va_cwS 2 hW (gS tw_249 tw_250 tw_1 tw_251) rfl rfl rfl (by decide +kernel) ⟨Nat.le_of_ble_eq_true rfl, Nat.le_of_ble_eq_true rfl⟩) hP hD hK hS hA hT rfl hl.1 rfl (Nat.le_of_ble_eq_true rfl) dX1_makePath_48 ⟨Nat.zero_le _, Nat.zero_le _⟩ (fun H locs hP hD hS => ?_)
          have hP : va_P D vwCl (wC o ad cI cZ cG tl lc wc dc (nI c1) (nI a) isw (p_copy (47 + (x ^^^ 1)) (42 + c1) m2)) H := hP
          have hD : va_D A (wC o ad cI cZ cG tl lc wc dc (nI c1) (nI a) isw (p_copy (47 + (x ^^^ 1)) (42 + c1) m2)) := hD
          refine lv_aload_n hx hb dX1_makePath_51 rfl (lv_at hl 0 rfl) ?_
          refine lv_dup hx hb dX1_makePath_52 rfl ?_
          refine va_get (D := D) (ci := 0) (v := .int (nI c1)) (C := RX1) (T := TX1) (N := 14) hx hb hW iPL hown hK hP 0 rfl rfl 11 (by decide) (hW _ tw_55) (fun _ h9 => h9) rfl dX1_makePath_53 ?_
          refine lv_iconst (v := nI 1) hx hb dX1_makePath_56 (by decide) ?_
          refine lv_iadd hx hb dX1_makePath_57 ?_
          refine lv_eqi (v := nI (c1 + 1)) (nI_add c1 1) ?_
          refine va_put (D := D) (ci := 0) (v := .int (nI (c1 + 1))) (ty := .int) (C := RX1) (T := TX1) (N := 14) hx hb hW iPL tyX1 tyX1_ok nmX1 hown hK hP hD hS 0 rfl rfl 11 (by decide) (hW _ tw_55) (fun _ h9 => h9) rfl (by decide +kernel) rfl rfl (Nat.le_of_ble_eq_true rfl) dX1_makePath_58 (fun H locs hP hD hS => ?_)
          have hP : va_P D vwCl (wC o ad cI cZ cG tl lc wc dc (nI (c1 + 1)) (nI a) isw (p_copy (47 + (x ^^^ 1)) (42 + c1) m2)) H := hP
          have hD : va_D A (wC o ad cI cZ cG tl lc wc dc (nI (c1 + 1)) (nI a) isw (p_copy (47 + (x ^^^ 1)) (42 + c1) m2)) := hD
          refine lv_aload_n hx hb dX1_makePath_61 rfl (lv_at hl 0 rfl) ?_
          refine lv_iload hx hb dX1_makePath_62 (lv_at hl 2 rfl) ?_
          refine mv_callV (C := RX1) (As := [.int (nI i)]) (rest := []) ⟨hx, hb, hml, hown, hW⟩ (c_foldLevel i (by omega) (by omega) a (p_copy (47 + (x ^^^ 1)) (42 + c1) m2)) gE_ok (cwV 1 hW (gV tw_253 tw_255 tv_X1_foldLevel tw_1 tw_256) rfl rfl rfl (by decide +kernel) ⟨Nat.le_of_ble_eq_true rfl, Nat.le_of_ble_eq_true rfl⟩) (va_recv hK hP (ci := 0) (q0 := 0) rfl rfl) hP hD hK hS hA hT rfl hl.1 rfl (Nat.le_of_ble_eq_true rfl) dX1_makePath_64 ⟨Nat.zero_le _, Nat.zero_le _⟩ (fun H locs hP hD hS => ?_)
          have hP : va_P D vwCl (wC o ad cI cZ cG tl lc wc dc (nI (c1 + 1)) (nI (p_fold i (a, p_copy (47 + (x ^^^ 1)) (42 + c1) m2)).1) isw ((p_fold i (a, p_copy (47 + (x ^^^ 1)) (42 + c1) m2)).2)) H := hP
          have hD : va_D A (wC o ad cI cZ cG tl lc wc dc (nI (c1 + 1)) (nI (p_fold i (a, p_copy (47 + (x ^^^ 1)) (42 + c1) m2)).1) isw ((p_fold i (a, p_copy (47 + (x ^^^ 1)) (42 + c1) m2)).2)) := hD
          refine lv_iload_n hx hb dX1_makePath_67 rfl (lv_at hl 1 rfl) ?_
          refine lv_iconst (v := nI 2) hx hb dX1_makePath_68 (by decide) ?_
          refine lv_idiv hx hb dX1_makePath_69 (by decide) ?_
          refine lv_eqi (v := nI (x / 2)) (pk_div (by omega) (by decide) (by decide)) ?_
          refine lv_istore_n (lv' := [(3, .int (nI (x / 2))), (0, .ref (o 0)), (4, .int (nI i))]) hx hb dX1_makePath_70 rfl hl (by decide) rfl (fun ls hl => ?_)
          refine lv_iload hx hb dX1_makePath_71 (lv_at hl 2 rfl) ?_
          refine lv_iload hx hb dX1_makePath_73 (lv_at hl 2 rfl) ?_
          refine lv_iconst (v := nI 2) hx hb dX1_makePath_75 (by decide) ?_
          refine lv_idiv hx hb dX1_makePath_76 (by decide) ?_
          refine lv_eqi (v := nI (i / 2)) (pk_div (by omega) (by decide) (by decide)) ?_
          refine lv_isub hx hb dX1_makePath_77 ?_
          refine lv_eqi (v := nI (i - i / 2)) (pk_sub (by omega)) ?_
          refine lv_istore (lv' := [(4, .int (nI (i - i / 2))), (3, .int (nI (x / 2))), (0, .ref (o 0))]) hx hb dX1_makePath_78 hl (by decide) rfl (fun ls hl => ?_)
          refine lv_goto (tgt := 15) hx hb dX1_makePath_80 (by decide) ?_
          exact ih (i - i / 2) H locs ls (c1 + 1) (x / 2) _ _ ⟨by omega, by omega, by omega, half_lt g4 g5, by omega, by rw [← g7]; exact ((if_neg (by omega)).trans (by rw [if_pos g8])).symm⟩ hP hD hS (lv_sub hl [2, 1, 0] rfl)
  refine lv_aload_n hx hb dX1_makePath_0 rfl (lv_at hl 0 rfl) ?_
  refine lv_iload_n hx hb dX1_makePath_1 rfl (lv_at hl 2 rfl) ?_
  refine mv_callV (C := RX1) (As := [.int (nI q)]) (rest := []) ⟨hx, hb, hml, hown, hW⟩ (c_layLeaves q (by omega) (nI n) mem) gE_ok (cwV 1 hW (gV tw_245 tw_247 tv_X1_layLeaves tw_1 tw_248) rfl rfl rfl (by decide +kernel) ⟨Nat.le_of_ble_eq_true rfl, Nat.le_of_ble_eq_true rfl⟩) (va_recv hK hP (ci := 0) (q0 := 0) rfl rfl) hP hD hK hS hA hT rfl hl.1 rfl (Nat.le_of_ble_eq_true rfl) dX1_makePath_2 ⟨Nat.zero_le _, Nat.zero_le _⟩ (fun H locs hP hD hS => ?_)
  have hP : va_P D vwCl (wC o ad cI cZ cG tl lc wc dc pn (nI n) isw (p_lay q mem)) H := hP
  have hD : va_D A (wC o ad cI cZ cG tl lc wc dc pn (nI n) isw (p_lay q mem)) := hD
  refine lv_aload_n hx hb dX1_makePath_5 rfl (lv_at hl 0 rfl) ?_
  refine lv_iconst (v := nI 0) hx hb dX1_makePath_6 (by decide) ?_
  refine va_put (D := D) (ci := 0) (v := .int (nI 0)) (ty := .int) (C := RX1) (T := TX1) (N := 14) hx hb hW iPL tyX1 tyX1_ok nmX1 hown hK hP hD hS 0 rfl rfl 11 (by decide) (hW _ tw_55) (fun _ h9 => h9) rfl (by decide +kernel) rfl rfl (Nat.le_of_ble_eq_true rfl) dX1_makePath_7 (fun H locs hP hD hS => ?_)
  have hP : va_P D vwCl (wC o ad cI cZ cG tl lc wc dc (nI 0) (nI n) isw (p_lay q mem)) H := hP
  have hD : va_D A (wC o ad cI cZ cG tl lc wc dc (nI 0) (nI n) isw (p_lay q mem)) := hD
  refine lv_iload_n hx hb dX1_makePath_10 rfl (lv_at hl 1 rfl) ?_
  refine lv_istore_n (lv' := [(3, .int (nI x0)), (0, .ref (o 0)), (1, .int (nI x0)), (2, .int (nI q))]) hx hb dX1_makePath_11 rfl hl (by decide) rfl (fun ls hl => ?_)
  refine lv_iload_n hx hb dX1_makePath_12 rfl (lv_at hl 3 rfl) ?_
  refine lv_istore (lv' := [(4, .int (nI q)), (3, .int (nI x0)), (0, .ref (o 0)), (1, .int (nI x0)), (2, .int (nI q))]) hx hb dX1_makePath_13 hl (by decide) rfl (fun ls hl => ?_)
  exact loop q q H locs ls 0 x0 _ _ ⟨by omega, by omega, by omega, by omega, by have := hlv_5 q (by omega); omega, rfl⟩ hP hD hS (lv_sub hl [2, 1, 0] rfl)
set_option maxHeartbeats 1000000 in
set_option maxRecDepth 100000 in
/-- climb(array d, x0, q) -/
theorem c_climb {l : Launch} {D : va_G} {o ad : Nat → Nat} {cI cZ cG : ClassId} {tl lc wc dc pn : Int32} {isw : Nat → Int32} (d x0 q : Nat) (hd0 : d < 71) (hd1 : lenC d = 32) (hx0 : x0 < q) (hq : q ≤ 24) (n : Nat) (mem : Nat → Nat → Int32) : MV l gE yX1_climb (.code yX1_climb cX1_climb 7 none :: tW) ({ frames := 4, cells := 0, slots := 0, locals := 160 }) D vwCl (tC cI cZ cG) [.ref (o 0), .ref (ad d), .int (nI x0), .int (nI q)] (wC o ad cI cZ cG tl lc wc dc pn (nI n) isw mem) (wC o ad cI cZ cG tl lc wc dc pn (nI (p_climb d x0 q (n, mem)).1) isw ((p_climb d x0 q (n, mem)).2)) := by
  refine MV.ofW (by decide +kernel) rfl (Nat.le_of_ble_eq_true rfl) ?_
  intro p e s m below meth c A ls hx hb hr hts hown hlk hml hA hP hK hD hT hl
  have hS : va_S A s.heap s.heap [] := va_S.rf
  have hown : s.vm.findClass RX1 = some m.cls := hown
  have hW : ∀ w ∈ tW, w.before _ s = true := fun w h => hts w (List.mem_cons_of_mem _ h)
  have hl : lv_has ls 7 [(0, .ref (o 0)), (1, .ref (ad d)), (2, .int (nI x0)), (3, .int (nI q))] := hl
  have loop : ∀ (k i : Nat) (H : Heap) (locs : List Loc) (ls : Array Slot) (c1 x a : Nat) (m2 : xMem), 1 ≤ i ∧ i ≤ k ∧ i ≤ 24 ∧ x < i ∧ c1 + hlv i ≤ 5 ∧ p_climbA k x c1 i (a, m2) = p_climb d x0 q (n, mem) → va_P D vwCl (wC o ad cI cZ cG tl lc wc dc pn (nI a) isw m2) H → va_D A (wC o ad cI cZ cG tl lc wc dc pn (nI a) isw m2) → va_S A s.heap H locs → lv_has ls 7 [(0, .ref (o 0)), (4, .int (nI x)), (5, .int (nI c1)), (6, .int (nI i))] → W p l e ({ frames := 4, cells := 0, slots := 0, locals := 160 }) s m ([.ref (o 0), .ref (ad d), .int (nI x0), .int (nI q)] : List Value).toArray below meth c H locs 0 0 (MQ below (xQv D vwCl (wC o ad cI cZ cG tl lc wc dc pn (nI (p_climb d x0 q (n, mem)).1) isw ((p_climb d x0 q (n, mem)).2)) A) ([.ref (o 0), .ref (ad d), .int (nI x0), .int (nI q)] : List Value).toArray s 0 0 A) (F0 m 17 ls []) := by
    intro k
    induction k with
    | zero =>
      intro i H locs ls c1 x a m2 hk hP hD hS hl
      exact absurd hk.1 (by omega)
    | succ k ih =>
      intro i H locs ls c1 x a m2 hk hP hD hS hl
      obtain ⟨g1, g2, g3, g4, g6, g7⟩ := hk
      refine lv_iload hx hb dX1_climb_17 (lv_at hl 3 rfl) ?_
      refine lv_iconst (v := nI 1) hx hb dX1_climb_19 (by decide) ?_
      refine lv_icmp_le (tgt := 105) hx hb dX1_climb_20 (by decide) (fun hd => ?_) (fun hd => ?_)
      · have g5 : i ≤ 1 := (nI_leI (by omega) (by decide)).mp hd
        have g8 : (a, m2) = p_climb d x0 q (n, mem) := by rw [← g7]; exact (if_pos g5).symm
        have hP : va_P D vwCl (wC o ad cI cZ cG tl lc wc dc pn (nI (p_climb d x0 q (n, mem)).1) isw ((p_climb d x0 q (n, mem)).2)) H := by rw [← g8]; exact hP
        have hD : va_D A (wC o ad cI cZ cG tl lc wc dc pn (nI (p_climb d x0 q (n, mem)).1) isw ((p_climb d x0 q (n, mem)).2)) := by rw [← g8]; exact hD
        exact mv_ret hx hb hr hlk hS hP hD dX1_climb_105
      · have g5 : 2 ≤ i := by
          rcases Nat.lt_or_ge i 2 with h | h
          · exact absurd (nI_le (by omega) (by decide)) hd
          · exact h
        have g9 := hlv_step i (by omega) g5
        have gx := xor1_le x
        refine lv_iload hx hb dX1_climb_23 (lv_at hl 1 rfl) ?_
        refine lv_iload hx hb dX1_climb_25 (lv_at hl 3 rfl) ?_
        refine mi_callS (As := [.int (nI x), .int (nI i)]) (rest := []) ⟨hx, hb, hml, hown, hW⟩ (c_hasPartner _ (nI x) (nI i)) gE_ok (va_cwS 2 hW (gS tw_340 tw_341 tw_1 tw_342) rfl rfl rfl (by decide +kernel) ⟨Nat.le_of_ble_eq_true rfl, Nat.le_of_ble_eq_true rfl⟩) hP hD hK hS hA hT rfl hl.1 rfl (Nat.le_of_ble_eq_true rfl) dX1_climb_27 ⟨Nat.zero_le _, Nat.zero_le _⟩ (fun H locs hP hD hS => ?_)
        refine lv_eqi (v := hb1 x i) (p_has_eq (by omega) (by omega)) ?_
        refine lv_if_eq (tgt := 87) hx hb dX1_climb_30 (by decide) (fun hh => ?_) (fun hh => ?_)
        · have g8 := hb1_0 hh
          refine lv_iload hx hb dX1_climb_87 (lv_at hl 1 rfl) ?_
          refine lv_iconst (v := nI 2) hx hb dX1_climb_89 (by decide) ?_
          refine lv_idiv hx hb dX1_climb_90 (by decide) ?_
          refine lv_eqi (v := nI (x / 2)) (pk_div (by omega) (by decide) (by decide)) ?_
          refine lv_istore (lv' := [(4, .int (nI (x / 2))), (0, .ref (o 0)), (5, .int (nI c1)), (6, .int (nI i))]) hx hb dX1_climb_91 hl (by decide) rfl (fun ls hl => ?_)
          refine lv_iload hx hb dX1_climb_93 (lv_at hl 3 rfl) ?_
          refine lv_iload hx hb dX1_climb_95 (lv_at hl 3 rfl) ?_
          refine lv_iconst (v := nI 2) hx hb dX1_climb_97 (by decide) ?_
          refine lv_idiv hx hb dX1_climb_98 (by decide) ?_
          refine lv_eqi (v := nI (i / 2)) (pk_div (by omega) (by decide) (by decide)) ?_
          refine lv_isub hx hb dX1_climb_99 ?_
          refine lv_eqi (v := nI (i - i / 2)) (pk_sub (by omega)) ?_
          refine lv_istore (lv' := [(6, .int (nI (i - i / 2))), (4, .int (nI (x / 2))), (0, .ref (o 0)), (5, .int (nI c1))]) hx hb dX1_climb_100 hl (by decide) rfl (fun ls hl => ?_)
          refine lv_goto (tgt := 17) hx hb dX1_climb_102 (by decide) ?_
          exact ih (i - i / 2) H locs ls c1 (x / 2) _ _ ⟨by omega, by omega, by omega, half_lt g4 g5, by omega, by rw [← g7]; exact ((if_neg (by omega)).trans (if_neg g8)).symm⟩ hP hD hS (lv_sub hl [2, 1, 3, 0] rfl)
        · have g8 := hb1_1 hh
          refine lv_iload hx hb dX1_climb_33 (lv_at hl 1 rfl) ?_
          refine mi_callS (As := [.int (nI x)]) (rest := []) ⟨hx, hb, hml, hown, hW⟩ (c_partnerOf _ (nI x)) gE_ok (va_cwS 1 hW (gS tw_343 tw_344 tw_1 tw_345) rfl rfl rfl (by decide +kernel) ⟨Nat.le_of_ble_eq_true rfl, Nat.le_of_ble_eq_true rfl⟩) hP hD hK hS hA hT rfl hl.1 rfl (Nat.le_of_ble_eq_true rfl) dX1_climb_35 ⟨Nat.zero_le _, Nat.zero_le _⟩ (fun H locs hP hD hS => ?_)
          refine lv_eqi (v := nI (x ^^^ 1)) (nI_xor1 x) ?_
          refine lv_iload hx hb dX1_climb_38 (lv_at hl 1 rfl) ?_
          refine lv_icmp_le (tgt := 65) hx hb dX1_climb_40 (by decide) (fun hr2 => ?_) (fun hr2 => ?_)
          · have gl : ¬ x < x ^^^ 1 := fun h => nI_ge h (by omega) hr2
            refine lv_aload_n hx hb dX1_climb_65 rfl (lv_at hl 0 rfl) ?_
            refine lv_aload_n hx hb dX1_climb_66 rfl (lv_at hl 0 rfl) ?_
            refine va_get (D := D) (ci := 0) (v := .ref (o 4)) (C := RX1) (T := TX1) (N := 14) hx hb hW iPL hown hK hP 0 rfl rfl 10 (by decide) (hW _ tw_54) (fun _ h9 => h9) rfl dX1_climb_67 ?_
            refine lv_iload hx hb dX1_climb_70 (lv_at hl 2 rfl) ?_
            refine m_row hx hb hK hP 4 2 c1 rfl rfl (by omega) (by decide) rfl dX1_climb_72 ?_
            refine lv_aload_n hx hb dX1_climb_73 rfl (lv_at hl 0 rfl) ?_
            refine va_get (D := D) (ci := 0) (v := .ref (ad 2)) (C := RX1) (T := TX1) (N := 14) hx hb hW iPL hown hK hP 0 rfl rfl 13 (by decide) (hW _ tw_57) (fun _ h9 => h9) rfl dX1_climb_74 ?_
            refine lv_aload_n hx hb dX1_climb_77 rfl (lv_at hl 0 rfl) ?_
            refine va_get (D := D) (ci := 0) (v := .ref (ad 2)) (C := RX1) (T := TX1) (N := 14) hx hb hW iPL hown hK hP 0 rfl rfl 13 (by decide) (hW _ tw_57) (fun _ h9 => h9) rfl dX1_climb_78 ?_
            refine mv_callV (C := RX1) (As := [.ref (ad (42 + c1)), .ref (ad 2), .ref (ad 2)]) (rest := []) ⟨hx, hb, hml, hown, hW⟩ (c_nodeInto (42 + c1) 2 2 (⟨⟨by omega, by first | decide | exact lenC_row (by omega)⟩, ⟨by omega, by first | decide | exact lenC_row (by omega)⟩, ⟨by decide, by decide⟩⟩) a m2) gE_ok (cwV 3 hW (gV tw_257 tw_259 tv_X1_nodeInto tw_1 tw_260) rfl rfl rfl (by decide +kernel) ⟨Nat.le_of_ble_eq_true rfl, Nat.le_of_ble_eq_true rfl⟩) (va_recv hK hP (ci := 0) (q0 := 0) rfl rfl) hP hD hK hS hA hT rfl hl.1 rfl (Nat.le_of_ble_eq_true rfl) dX1_climb_81 ⟨Nat.zero_le _, Nat.zero_le _⟩ (fun H locs hP hD hS => ?_)
            have hP : va_P D vwCl (wC o ad cI cZ cG tl lc wc dc pn (nI (p_node (42 + c1) 2 2 m2).1) isw ((p_node (42 + c1) 2 2 m2).2)) H := hP
            have hD : va_D A (wC o ad cI cZ cG tl lc wc dc pn (nI (p_node (42 + c1) 2 2 m2).1) isw ((p_node (42 + c1) 2 2 m2).2)) := hD
            refine lv_iinc (v := nI (c1 + 1)) (lv' := [(5, .int (nI (c1 + 1))), (0, .ref (o 0)), (4, .int (nI x)), (6, .int (nI i))]) hx hb dX1_climb_84 hl (k := 2) rfl (nI_1 c1) (by decide) rfl (fun ls hl => ?_)
            refine lv_iload hx hb dX1_climb_87 (lv_at hl 2 rfl) ?_
            refine lv_iconst (v := nI 2) hx hb dX1_climb_89 (by decide) ?_
            refine lv_idiv hx hb dX1_climb_90 (by decide) ?_
            refine lv_eqi (v := nI (x / 2)) (pk_div (by omega) (by decide) (by decide)) ?_
            refine lv_istore (lv' := [(4, .int (nI (x / 2))), (5, .int (nI (c1 + 1))), (0, .ref (o 0)), (6, .int (nI i))]) hx hb dX1_climb_91 hl (by decide) rfl (fun ls hl => ?_)
            refine lv_iload hx hb dX1_climb_93 (lv_at hl 3 rfl) ?_
            refine lv_iload hx hb dX1_climb_95 (lv_at hl 3 rfl) ?_
            refine lv_iconst (v := nI 2) hx hb dX1_climb_97 (by decide) ?_
            refine lv_idiv hx hb dX1_climb_98 (by decide) ?_
            refine lv_eqi (v := nI (i / 2)) (pk_div (by omega) (by decide) (by decide)) ?_
            refine lv_isub hx hb dX1_climb_99 ?_
            refine lv_eqi (v := nI (i - i / 2)) (pk_sub (by omega)) ?_
            refine lv_istore (lv' := [(6, .int (nI (i - i / 2))), (4, .int (nI (x / 2))), (5, .int (nI (c1 + 1))), (0, .ref (o 0))]) hx hb dX1_climb_100 hl (by decide) rfl (fun ls hl => ?_)
            refine lv_goto (tgt := 17) hx hb dX1_climb_102 (by decide) ?_
            exact ih (i - i / 2) H locs ls (c1 + 1) (x / 2) _ _ ⟨by omega, by omega, by omega, half_lt g4 g5, by omega, by rw [← g7]; exact ((if_neg (by omega)).trans ((if_pos g8).trans (by rw [if_neg gl]))).symm⟩ hP hD hS (lv_sub hl [3, 1, 2, 0] rfl)
          · have gl : x < x ^^^ 1 := by
              rcases Nat.lt_or_ge x (x ^^^ 1) with h | h
              · exact h
              · exact absurd (nI_le h (by omega)) hr2
            refine lv_aload_n hx hb dX1_climb_43 rfl (lv_at hl 0 rfl) ?_
            refine lv_aload_n hx hb dX1_climb_44 rfl (lv_at hl 0 rfl) ?_
            refine va_get (D := D) (ci := 0) (v := .ref (ad 2)) (C := RX1) (T := TX1) (N := 14) hx hb hW iPL hown hK hP 0 rfl rfl 13 (by decide) (hW _ tw_57) (fun _ h9 => h9) rfl dX1_climb_45 ?_
            refine lv_aload_n hx hb dX1_climb_48 rfl (lv_at hl 0 rfl) ?_
            refine va_get (D := D) (ci := 0) (v := .ref (o 4)) (C := RX1) (T := TX1) (N := 14) hx hb hW iPL hown hK hP 0 rfl rfl 10 (by decide) (hW _ tw_54) (fun _ h9 => h9) rfl dX1_climb_49 ?_
            refine lv_iload hx hb dX1_climb_52 (lv_at hl 2 rfl) ?_
            refine m_row hx hb hK hP 4 2 c1 rfl rfl (by omega) (by decide) rfl dX1_climb_54 ?_
            refine lv_aload_n hx hb dX1_climb_55 rfl (lv_at hl 0 rfl) ?_
            refine va_get (D := D) (ci := 0) (v := .ref (ad 2)) (C := RX1) (T := TX1) (N := 14) hx hb hW iPL hown hK hP 0 rfl rfl 13 (by decide) (hW _ tw_57) (fun _ h9 => h9) rfl dX1_climb_56 ?_
            refine mv_callV (C := RX1) (As := [.ref (ad 2), .ref (ad (42 + c1)), .ref (ad 2)]) (rest := []) ⟨hx, hb, hml, hown, hW⟩ (c_nodeInto 2 (42 + c1) 2 (⟨⟨by omega, by first | decide | exact lenC_row (by omega)⟩, ⟨by omega, by first | decide | exact lenC_row (by omega)⟩, ⟨by decide, by decide⟩⟩) a m2) gE_ok (cwV 3 hW (gV tw_257 tw_259 tv_X1_nodeInto tw_1 tw_260) rfl rfl rfl (by decide +kernel) ⟨Nat.le_of_ble_eq_true rfl, Nat.le_of_ble_eq_true rfl⟩) (va_recv hK hP (ci := 0) (q0 := 0) rfl rfl) hP hD hK hS hA hT rfl hl.1 rfl (Nat.le_of_ble_eq_true rfl) dX1_climb_59 ⟨Nat.zero_le _, Nat.zero_le _⟩ (fun H locs hP hD hS => ?_)
            have hP : va_P D vwCl (wC o ad cI cZ cG tl lc wc dc pn (nI (p_node 2 (42 + c1) 2 m2).1) isw ((p_node 2 (42 + c1) 2 m2).2)) H := hP
            have hD : va_D A (wC o ad cI cZ cG tl lc wc dc pn (nI (p_node 2 (42 + c1) 2 m2).1) isw ((p_node 2 (42 + c1) 2 m2).2)) := hD
            refine lv_goto (tgt := 84) hx hb dX1_climb_62 (by decide) ?_
            refine lv_iinc (v := nI (c1 + 1)) (lv' := [(5, .int (nI (c1 + 1))), (0, .ref (o 0)), (4, .int (nI x)), (6, .int (nI i))]) hx hb dX1_climb_84 hl (k := 2) rfl (nI_1 c1) (by decide) rfl (fun ls hl => ?_)
            refine lv_iload hx hb dX1_climb_87 (lv_at hl 2 rfl) ?_
            refine lv_iconst (v := nI 2) hx hb dX1_climb_89 (by decide) ?_
            refine lv_idiv hx hb dX1_climb_90 (by decide) ?_
            refine lv_eqi (v := nI (x / 2)) (pk_div (by omega) (by decide) (by decide)) ?_
            refine lv_istore (lv' := [(4, .int (nI (x / 2))), (5, .int (nI (c1 + 1))), (0, .ref (o 0)), (6, .int (nI i))]) hx hb dX1_climb_91 hl (by decide) rfl (fun ls hl => ?_)
            refine lv_iload hx hb dX1_climb_93 (lv_at hl 3 rfl) ?_
            refine lv_iload hx hb dX1_climb_95 (lv_at hl 3 rfl) ?_
            refine lv_iconst (v := nI 2) hx hb dX1_climb_97 (by decide) ?_
            refine lv_idiv hx hb dX1_climb_98 (by decide) ?_
            refine lv_eqi (v := nI (i / 2)) (pk_div (by omega) (by decide) (by decide)) ?_
            refine lv_isub hx hb dX1_climb_99 ?_
            refine lv_eqi (v := nI (i - i / 2)) (pk_sub (by omega)) ?_
            refine lv_istore (lv' := [(6, .int (nI (i - i / 2))), (4, .int (nI (x / 2))), (5, .int (nI (c1 + 1))), (0, .ref (o 0))]) hx hb dX1_climb_100 hl (by decide) rfl (fun ls hl => ?_)
            refine lv_goto (tgt := 17) hx hb dX1_climb_102 (by decide) ?_
            exact ih (i - i / 2) H locs ls (c1 + 1) (x / 2) _ _ ⟨by omega, by omega, by omega, half_lt g4 g5, by omega, by rw [← g7]; exact ((if_neg (by omega)).trans ((if_pos g8).trans (by rw [if_pos gl]))).symm⟩ hP hD hS (lv_sub hl [3, 1, 2, 0] rfl)
  refine lv_aload_n hx hb dX1_climb_0 rfl (lv_at hl 1 rfl) ?_
  refine lv_aload_n hx hb dX1_climb_1 rfl (lv_at hl 0 rfl) ?_
  refine va_get (D := D) (ci := 0) (v := .ref (ad 2)) (C := RX1) (T := TX1) (N := 14) hx hb hW iPL hown hK hP 0 rfl rfl 13 (by decide) (hW _ tw_57) (fun _ h9 => h9) rfl dX1_climb_2 ?_
  refine mv_callS (As := [.ref (ad d), .ref (ad 2)]) (rest := []) ⟨hx, hb, hml, hown, hW⟩ (c_copyDigest d 2 (hd0) (by decide) (hd1) (by decide) (nI n) mem) gE_ok (va_cwS 2 hW (gS tw_249 tw_250 tw_1 tw_251) rfl rfl rfl (by decide +kernel) ⟨Nat.le_of_ble_eq_true rfl, Nat.le_of_ble_eq_true rfl⟩) hP hD hK hS hA hT rfl hl.1 rfl (Nat.le_of_ble_eq_true rfl) dX1_climb_5 ⟨Nat.zero_le _, Nat.zero_le _⟩ (fun H locs hP hD hS => ?_)
  have hP : va_P D vwCl (wC o ad cI cZ cG tl lc wc dc pn (nI n) isw (p_copy d 2 mem)) H := hP
  have hD : va_D A (wC o ad cI cZ cG tl lc wc dc pn (nI n) isw (p_copy d 2 mem)) := hD
  refine lv_iload_n hx hb dX1_climb_8 rfl (lv_at hl 2 rfl) ?_
  refine lv_istore (lv' := [(4, .int (nI x0)), (0, .ref (o 0)), (1, .ref (ad d)), (2, .int (nI x0)), (3, .int (nI q))]) hx hb dX1_climb_9 hl (by decide) rfl (fun ls hl => ?_)
  refine lv_iconst (v := nI 0) hx hb dX1_climb_11 (by decide) ?_
  refine lv_istore (lv' := [(5, .int (nI 0)), (4, .int (nI x0)), (0, .ref (o 0)), (1, .ref (ad d)), (2, .int (nI x0)), (3, .int (nI q))]) hx hb dX1_climb_12 hl (by decide) rfl (fun ls hl => ?_)
  refine lv_iload_n hx hb dX1_climb_14 rfl (lv_at hl 5 rfl) ?_
  refine lv_istore (lv' := [(6, .int (nI q)), (5, .int (nI 0)), (4, .int (nI x0)), (0, .ref (o 0)), (1, .ref (ad d)), (2, .int (nI x0)), (3, .int (nI q))]) hx hb dX1_climb_15 hl (by decide) rfl (fun ls hl => ?_)
  exact loop q q H locs ls 0 x0 _ _ ⟨by omega, by omega, by omega, by omega, by have := hlv_5 q (by omega); omega, rfl⟩ hP hD hS (lv_sub hl [3, 2, 1, 0] rfl)
set_option maxHeartbeats 1000000 in
set_option maxRecDepth 100000 in
/-- stillMakesRoot(y) -/
theorem c_stillMakesRoot {l : Launch} {D : va_G} {o ad : Nat → Nat} {cI cZ cG : ClassId} {tl lc wc dc pn : Int32} {isw : Nat → Int32} (y q : Nat) (hy : y < 12) (hq : q ≤ 24) (n : Nat) (mem : Nat → Nat → Int32) (hm : mem 1 y = nI q) : MI l gE yX1_stillMakesRoot (.code yX1_stillMakesRoot cX1_stillMakesRoot 2 (some .boolean) :: tW) ({ frames := 6, cells := 0, slots := 0, locals := 230 }) D vwCl (tC cI cZ cG) [.ref (o 0), .int (nI y)] (wC o ad cI cZ cG tl lc wc dc pn (nI n) isw mem) (wC o ad cI cZ cG tl lc wc dc pn (nI (p_tree q 2 (n, mem)).1) isw ((p_tree q 2 (n, mem)).2)) (p_still q y (n, mem)) := by
  refine MI.ofW (by decide +kernel) rfl (Nat.le_of_ble_eq_true rfl) ?_
  intro p e s m below meth c A ls hx hb hr hts hown hlk hml hA hP hK hD hT hl
  have hS : va_S A s.heap s.heap [] := va_S.rf
  have hown : s.vm.findClass RX1 = some m.cls := hown
  have hW : ∀ w ∈ tW, w.before _ s = true := fun w h => hts w (List.mem_cons_of_mem _ h)
  have hl : lv_has ls 2 [(0, .ref (o 0)), (1, .int (nI y))] := hl
  refine lv_aload_n hx hb dX1_stillMakesRoot_0 rfl (lv_at hl 0 rfl) ?_
  refine lv_aload_n hx hb dX1_stillMakesRoot_1 rfl (lv_at hl 0 rfl) ?_
  refine va_get (D := D) (ci := 0) (v := .ref (ad 1)) (C := RX1) (T := TX1) (N := 14) hx hb hW iPL hown hK hP 0 rfl rfl 8 (by decide) (hW _ tw_52) (fun _ h9 => h9) rfl dX1_stillMakesRoot_2 ?_
  refine lv_iload_n hx hb dX1_stillMakesRoot_5 rfl (lv_at hl 1 rfl) ?_
  refine m_ld (X := wX o ad cZ cG tl lc wc dc pn (nI n) isw) hx hb hK hP 0 1 y rfl (by decide) (show y < 12 by omega) (by decide) dX1_stillMakesRoot_6 ?_
  refine lv_eqi (v := nI q) (hm) ?_
  refine lv_aload_n hx hb dX1_stillMakesRoot_7 rfl (lv_at hl 0 rfl) ?_
  refine va_get (D := D) (ci := 0) (v := .ref (ad 2)) (C := RX1) (T := TX1) (N := 14) hx hb hW iPL hown hK hP 0 rfl rfl 13 (by decide) (hW _ tw_57) (fun _ h9 => h9) rfl dX1_stillMakesRoot_8 ?_
  refine mv_callV (C := RX1) (As := [.int (nI q), .ref (ad 2)]) (rest := []) ⟨hx, hb, hml, hown, hW⟩ (c_treeInto q 2 (hq) (by decide) (by decide) n mem) gE_ok (cwV 2 hW (gV tw_241 tw_243 tv_X1_treeInto tw_1 tw_244) rfl rfl rfl (by decide +kernel) ⟨Nat.le_of_ble_eq_true rfl, Nat.le_of_ble_eq_true rfl⟩) (va_recv hK hP (ci := 0) (q0 := 0) rfl rfl) hP hD hK hS hA hT rfl hl.1 rfl (Nat.le_of_ble_eq_true rfl) dX1_stillMakesRoot_11 ⟨Nat.zero_le _, Nat.zero_le _⟩ (fun H locs hP hD hS => ?_)
  have hP : va_P D vwCl (wC o ad cI cZ cG tl lc wc dc pn (nI (p_tree q 2 (n, mem)).1) isw ((p_tree q 2 (n, mem)).2)) H := hP
  have hD : va_D A (wC o ad cI cZ cG tl lc wc dc pn (nI (p_tree q 2 (n, mem)).1) isw ((p_tree q 2 (n, mem)).2)) := hD
  refine lv_aload_n hx hb dX1_stillMakesRoot_14 rfl (lv_at hl 0 rfl) ?_
  refine va_get (D := D) (ci := 0) (v := .ref (ad 2)) (C := RX1) (T := TX1) (N := 14) hx hb hW iPL hown hK hP 0 rfl rfl 13 (by decide) (hW _ tw_57) (fun _ h9 => h9) rfl dX1_stillMakesRoot_15 ?_
  refine lv_aload_n hx hb dX1_stillMakesRoot_18 rfl (lv_at hl 0 rfl) ?_
  refine va_get (D := D) (ci := 0) (v := .ref (o 3)) (C := RX1) (T := TX1) (N := 14) hx hb hW iPL hown hK hP 0 rfl rfl 7 (by decide) (hW _ tw_51) (fun _ h9 => h9) rfl dX1_stillMakesRoot_19 ?_
  refine lv_iload_n hx hb dX1_stillMakesRoot_22 rfl (lv_at hl 1 rfl) ?_
  refine m_row hx hb hK hP 3 2 y rfl rfl (by omega) (by decide) rfl dX1_stillMakesRoot_23 ?_
  refine mi_callS (As := [.ref (ad 2), .ref (ad (30 + y))]) (rest := []) ⟨hx, hb, hml, hown, hW⟩ (c_compareDigests 2 (30 + y) (by decide) (by omega) (by decide) (lenC_row (by omega)) (nI (p_tree q 2 (n, mem)).1) ((p_tree q 2 (n, mem)).2)) gE_ok (va_cwS 2 hW (gS tw_385 tw_386 tw_1 tw_387) rfl rfl rfl (by decide +kernel) ⟨Nat.le_of_ble_eq_true rfl, Nat.le_of_ble_eq_true rfl⟩) hP hD hK hS hA hT rfl hl.1 rfl (Nat.le_of_ble_eq_true rfl) dX1_stillMakesRoot_24 ⟨Nat.zero_le _, Nat.zero_le _⟩ (fun H locs hP hD hS => ?_)
  refine lv_if_ne (tgt := 34) hx hb dX1_stillMakesRoot_27 (by decide) (fun hc => ?_) (fun hc => ?_)
  · refine lv_iconst (v := nI 0) hx hb dX1_stillMakesRoot_34 (by decide) ?_
    have hP : va_P D vwCl (wC o ad cI cZ cG tl lc wc dc pn (nI (p_tree q 2 (n, mem)).1) isw ((p_tree q 2 (n, mem)).2)) H := by exact hP
    have hD : va_D A (wC o ad cI cZ cG tl lc wc dc pn (nI (p_tree q 2 (n, mem)).1) isw ((p_tree q 2 (n, mem)).2)) := by exact hD
    exact mi_ret hx hb hr rfl hlk hS hP hD ((if_neg hc).symm) dX1_stillMakesRoot_35
  · refine lv_iconst (v := nI 1) hx hb dX1_stillMakesRoot_30 (by decide) ?_
    refine lv_goto (tgt := 35) hx hb dX1_stillMakesRoot_31 (by decide) ?_
    have hP : va_P D vwCl (wC o ad cI cZ cG tl lc wc dc pn (nI (p_tree q 2 (n, mem)).1) isw ((p_tree q 2 (n, mem)).2)) H := by exact hP
    have hD : va_D A (wC o ad cI cZ cG tl lc wc dc pn (nI (p_tree q 2 (n, mem)).1) isw ((p_tree q 2 (n, mem)).2)) := by exact hD
    exact mi_ret hx hb hr rfl hlk hS hP hD ((if_pos hc).symm) dX1_stillMakesRoot_35
set_option maxHeartbeats 1000000 in
set_option maxRecDepth 100000 in
/-- liesOn(sd, x, y) -/
theorem c_liesOn {l : Launch} {D : va_G} {o ad : Nat → Nat} {cI cZ cG : ClassId} {tl lc wc dc pn : Int32} {isw : Nat → Int32} (sd : Int32) (x y : Nat) (hx0 : x < 24) (hy0 : y < 24) (sl : Int32) (mem : Nat → Nat → Int32) : MI l gE yX1_liesOn (.code yX1_liesOn cX1_liesOn 5 (some .boolean) :: tW) ({ frames := 1, cells := 0, slots := 0, locals := 24 }) D vwCl (tC cI cZ cG) [.ref (o 0), .int sd, .int (nI x), .int (nI y)] (wC o ad cI cZ cG tl lc wc dc pn sl isw mem) (wC o ad cI cZ cG tl lc wc dc pn sl isw mem) (p_lies sd (p_cmp (mem (6 + x)) (mem (6 + y)))) := by
  refine MI.ofW (by decide +kernel) rfl (Nat.le_of_ble_eq_true rfl) ?_
  intro p e s m below meth c A ls hx hb hr hts hown hlk hml hA hP hK hD hT hl
  have hS : va_S A s.heap s.heap [] := va_S.rf
  have hown : s.vm.findClass RX1 = some m.cls := hown
  have hW : ∀ w ∈ tW, w.before _ s = true := fun w h => hts w (List.mem_cons_of_mem _ h)
  have hl : lv_has ls 5 [(0, .ref (o 0)), (1, .int sd), (2, .int (nI x)), (3, .int (nI y))] := hl
  refine lv_aload_n hx hb dX1_liesOn_0 rfl (lv_at hl 0 rfl) ?_
  refine va_get (D := D) (ci := 0) (v := .ref (o 2)) (C := RX1) (T := TX1) (N := 14) hx hb hW iPL hown hK hP 0 rfl rfl 3 (by decide) (hW _ tw_47) (fun _ h9 => h9) rfl dX1_liesOn_1 ?_
  refine lv_iload_n hx hb dX1_liesOn_4 rfl (lv_at hl 2 rfl) ?_
  refine m_row hx hb hK hP 2 2 x rfl rfl (by omega) (by decide) rfl dX1_liesOn_5 ?_
  refine lv_aload_n hx hb dX1_liesOn_6 rfl (lv_at hl 0 rfl) ?_
  refine va_get (D := D) (ci := 0) (v := .ref (o 2)) (C := RX1) (T := TX1) (N := 14) hx hb hW iPL hown hK hP 0 rfl rfl 3 (by decide) (hW _ tw_47) (fun _ h9 => h9) rfl dX1_liesOn_7 ?_
  refine lv_iload_n hx hb dX1_liesOn_10 rfl (lv_at hl 3 rfl) ?_
  refine m_row hx hb hK hP 2 2 y rfl rfl (by omega) (by decide) rfl dX1_liesOn_11 ?_
  refine mi_callS (As := [.ref (ad (6 + x)), .ref (ad (6 + y))]) (rest := []) ⟨hx, hb, hml, hown, hW⟩ (c_compareDigests (6 + x) (6 + y) (by omega) (by omega) (lenC_row (by omega)) (lenC_row (by omega)) sl mem) gE_ok (va_cwS 2 hW (gS tw_385 tw_386 tw_1 tw_387) rfl rfl rfl (by decide +kernel) ⟨Nat.le_of_ble_eq_true rfl, Nat.le_of_ble_eq_true rfl⟩) hP hD hK hS hA hT rfl hl.1 rfl (Nat.le_of_ble_eq_true rfl) dX1_liesOn_12 ⟨Nat.zero_le _, Nat.zero_le _⟩ (fun H locs hP hD hS => ?_)
  refine lv_istore (lv' := [(4, .int (p_cmp (mem (6 + x)) (mem (6 + y)))), (0, .ref (o 0)), (1, .int sd), (2, .int (nI x)), (3, .int (nI y))]) hx hb dX1_liesOn_15 hl (by decide) rfl (fun ls hl => ?_)
  refine lv_iload_n hx hb dX1_liesOn_17 rfl (lv_at hl 2 rfl) ?_
  refine lv_if_ne (tgt := 34) hx hb dX1_liesOn_18 (by decide) (fun hc => ?_) (fun hc => ?_)
  · refine lv_iload hx hb dX1_liesOn_34 (lv_at hl 0 rfl) ?_
    refine lv_if_le (tgt := 43) hx hb dX1_liesOn_36 (by decide) (fun he => ?_) (fun he => ?_)
    · refine lv_iconst (v := nI 0) hx hb dX1_liesOn_43 (by decide) ?_
      have hP : va_P D vwCl (wC o ad cI cZ cG tl lc wc dc pn sl isw mem) H := by exact hP
      have hD : va_D A (wC o ad cI cZ cG tl lc wc dc pn sl isw mem) := by exact hD
      exact mi_ret hx hb hr rfl hlk hS hP hD (((if_neg hc).trans (if_neg (Int32.not_lt.mpr he))).symm) dX1_liesOn_44
    · refine lv_iconst (v := nI 1) hx hb dX1_liesOn_39 (by decide) ?_
      refine lv_goto (tgt := 44) hx hb dX1_liesOn_40 (by decide) ?_
      have hP : va_P D vwCl (wC o ad cI cZ cG tl lc wc dc pn sl isw mem) H := by exact hP
      have hD : va_D A (wC o ad cI cZ cG tl lc wc dc pn sl isw mem) := by exact hD
      exact mi_ret hx hb hr rfl hlk hS hP hD (((if_neg hc).trans (if_pos (Int32.not_le.mp he))).symm) dX1_liesOn_44
  · refine lv_iload hx hb dX1_liesOn_21 (lv_at hl 0 rfl) ?_
    refine lv_if_ge (tgt := 30) hx hb dX1_liesOn_23 (by decide) (fun he => ?_) (fun he => ?_)
    · refine lv_iconst (v := nI 0) hx hb dX1_liesOn_30 (by decide) ?_
      refine lv_goto (tgt := 44) hx hb dX1_liesOn_31 (by decide) ?_
      have hP : va_P D vwCl (wC o ad cI cZ cG tl lc wc dc pn sl isw mem) H := by exact hP
      have hD : va_D A (wC o ad cI cZ cG tl lc wc dc pn sl isw mem) := by exact hD
      exact mi_ret hx hb hr rfl hlk hS hP hD (((if_pos hc).trans (if_neg (Int32.not_lt.mpr he))).symm) dX1_liesOn_44
    · refine lv_iconst (v := nI 1) hx hb dX1_liesOn_26 (by decide) ?_
      refine lv_goto (tgt := 44) hx hb dX1_liesOn_27 (by decide) ?_
      have hP : va_P D vwCl (wC o ad cI cZ cG tl lc wc dc pn sl isw mem) H := by exact hP
      have hD : va_D A (wC o ad cI cZ cG tl lc wc dc pn sl isw mem) := by exact hD
      exact mi_ret hx hb hr rfl hlk hS hP hD (((if_pos hc).trans (if_pos (Int32.not_le.mp he))).symm) dX1_liesOn_44
set_option maxHeartbeats 1000000 in
set_option maxRecDepth 100000 in
/-- nearestWithdrawn(lf, sd) -/
theorem c_nearestWithdrawn {l : Launch} {D : va_G} {o ad : Nat → Nat} {cI cZ cG : ClassId} {tl lc wc dc pn : Int32} {isw : Nat → Int32} (lf q : Nat) (hl0 : lf < 24) (hq : q ≤ 24) (hlc : lc = nI q) (sd sl : Int32) (mem : Nat → Nat → Int32) : MI l gE yX1_nearestWithdrawn (.code yX1_nearestWithdrawn cX1_nearestWithdrawn 5 (some .int) :: tW) ({ frames := 2, cells := 0, slots := 0, locals := 56 }) D vwCl (tC cI cZ cG) [.ref (o 0), .int (nI lf), .int sd] (wC o ad cI cZ cG tl lc wc dc pn sl isw mem) (wC o ad cI cZ cG tl lc wc dc pn sl isw mem) (nrI (p_near sd isw mem lf q)) := by
  refine MI.ofW (by decide +kernel) rfl (Nat.le_of_ble_eq_true rfl) ?_
  intro p e s m below meth c A ls hx hb hr hts hown hlk hml hA hP hK hD hT hl
  have hS : va_S A s.heap s.heap [] := va_S.rf
  have hown : s.vm.findClass RX1 = some m.cls := hown
  have hW : ∀ w ∈ tW, w.before _ s = true := fun w h => hts w (List.mem_cons_of_mem _ h)
  have hl : lv_has ls 5 [(0, .ref (o 0)), (1, .int (nI lf)), (2, .int sd)] := hl
  have loop : ∀ (k i : Nat) (H : Heap) (locs : List Loc) (ls : Array Slot), i + k = q → va_P D vwCl (wC o ad cI cZ cG tl lc wc dc pn sl isw mem) H → va_D A (wC o ad cI cZ cG tl lc wc dc pn sl isw mem) → va_S A s.heap H locs → lv_has ls 5 [(0, .ref (o 0)), (1, .int (nI lf)), (2, .int sd), (3, .int (nrI (p_near sd isw mem lf i))), (4, .int (nI i))] → W p l e ({ frames := 2, cells := 0, slots := 0, locals := 56 }) s m ([.ref (o 0), .int (nI lf), .int sd] : List Value).toArray below meth c H locs 0 0 (MQ below (xQi D vwCl (wC o ad cI cZ cG tl lc wc dc pn sl isw mem) (nrI (p_near sd isw mem lf q)) A) ([.ref (o 0), .int (nI lf), .int sd] : List Value).toArray s 0 0 A) (F0 m 5 ls []) := by
    intro k
    induction k with
    | zero =>
      intro i H locs ls hk hP hD hS hl
      have hk : i = q := by omega
      refine lv_iload hx hb dX1_nearestWithdrawn_5 (lv_at hl 4 rfl) ?_
      refine lv_aload_n hx hb dX1_nearestWithdrawn_7 rfl (lv_at hl 0 rfl) ?_
      refine va_get (D := D) (ci := 0) (v := .int lc) (C := RX1) (T := TX1) (N := 14) hx hb hW iPL hown hK hP 0 rfl rfl 5 (by decide) (hW _ tw_49) (fun _ h9 => h9) rfl dX1_nearestWithdrawn_8 ?_
      refine lv_eqi (v := nI q) (hlc) ?_
      refine lv_icmp_ge (tgt := 60) hx hb dX1_nearestWithdrawn_11 (by decide) (fun hc => ?_) (fun hc => ?_)
      · refine lv_iload_n hx hb dX1_nearestWithdrawn_60 rfl (lv_at hl 3 rfl) ?_
        have hP : va_P D vwCl (wC o ad cI cZ cG tl lc wc dc pn sl isw mem) H := by exact hP
        have hD : va_D A (wC o ad cI cZ cG tl lc wc dc pn sl isw mem) := by exact hD
        exact mi_ret hx hb hr rfl hlk hS hP hD (by rw [hk]) dX1_nearestWithdrawn_61
      · exact absurd (nI_le (by omega) (by omega)) hc
    | succ k ih =>
      intro i H locs ls hk hP hD hS hl
      refine lv_iload hx hb dX1_nearestWithdrawn_5 (lv_at hl 4 rfl) ?_
      refine lv_aload_n hx hb dX1_nearestWithdrawn_7 rfl (lv_at hl 0 rfl) ?_
      refine va_get (D := D) (ci := 0) (v := .int lc) (C := RX1) (T := TX1) (N := 14) hx hb hW iPL hown hK hP 0 rfl rfl 5 (by decide) (hW _ tw_49) (fun _ h9 => h9) rfl dX1_nearestWithdrawn_8 ?_
      refine lv_eqi (v := nI q) (hlc) ?_
      refine lv_icmp_ge (tgt := 60) hx hb dX1_nearestWithdrawn_11 (by decide) (fun hc => ?_) (fun hc => ?_)
      · exact absurd hc (nI_ge (by omega) (by omega))
      · refine lv_aload_n hx hb dX1_nearestWithdrawn_14 rfl (lv_at hl 0 rfl) ?_
        refine va_get (D := D) (ci := 0) (v := .ref (o 6)) (C := RX1) (T := TX1) (N := 14) hx hb hW iPL hown hK hP 0 rfl rfl 4 (by decide) (hW _ tw_48) (fun _ h9 => h9) rfl dX1_nearestWithdrawn_15 ?_
        refine lv_iload hx hb dX1_nearestWithdrawn_18 (lv_at hl 4 rfl) ?_
        refine m_zld hx hb hK hP 6 1 i rfl rfl (by omega) (by decide) dX1_nearestWithdrawn_20 ?_
        refine lv_if_eq (tgt := 54) hx hb dX1_nearestWithdrawn_21 (by decide) (fun ha => ?_) (fun ha => ?_)
        · have e1 : p_near sd isw mem lf (i + 1) = p_near sd isw mem lf i := if_pos ha
          refine lv_iinc (v := nI (i + 1)) (lv' := [(4, .int (nI (i + 1))), (0, .ref (o 0)), (1, .int (nI lf)), (2, .int sd), (3, .int (nrI (p_near sd isw mem lf i)))]) hx hb dX1_nearestWithdrawn_54 hl (k := 4) rfl (nI_1 i) (by decide) rfl (fun ls hl => ?_)
          refine lv_goto (tgt := 5) hx hb dX1_nearestWithdrawn_57 (by decide) ?_
          have hl := lv_sub hl [1, 2, 3, 4, 0] rfl
          refine ih (i + 1) H locs ls (by omega) hP hD hS ?_
          rw [e1]
          exact hl
        · refine lv_aload_n hx hb dX1_nearestWithdrawn_24 rfl (lv_at hl 0 rfl) ?_
          refine lv_iload_n hx hb dX1_nearestWithdrawn_25 rfl (lv_at hl 2 rfl) ?_
          refine lv_iload hx hb dX1_nearestWithdrawn_26 (lv_at hl 4 rfl) ?_
          refine lv_iload_n hx hb dX1_nearestWithdrawn_28 rfl (lv_at hl 1 rfl) ?_
          refine mi_callV (C := RX1) (As := [.int sd, .int (nI i), .int (nI lf)]) (rest := []) ⟨hx, hb, hml, hown, hW⟩ (c_liesOn sd i lf (by omega) (by omega) sl mem) gE_ok (cwV 3 hW (gV tw_421 tw_423 tv_X1_liesOn tw_1 tw_424) rfl rfl rfl (by decide +kernel) ⟨Nat.le_of_ble_eq_true rfl, Nat.le_of_ble_eq_true rfl⟩) (va_recv hK hP (ci := 0) (q0 := 0) rfl rfl) hP hD hK hS hA hT rfl hl.1 rfl (Nat.le_of_ble_eq_true rfl) dX1_nearestWithdrawn_29 ⟨Nat.zero_le _, Nat.zero_le _⟩ (fun H locs hP hD hS => ?_)
          refine lv_if_eq (tgt := 54) hx hb dX1_nearestWithdrawn_32 (by decide) (fun hb2 => ?_) (fun hb2 => ?_)
          · have e1 : p_near sd isw mem lf (i + 1) = p_near sd isw mem lf i := (if_neg ha).trans (if_pos hb2)
            refine lv_iinc (v := nI (i + 1)) (lv' := [(4, .int (nI (i + 1))), (0, .ref (o 0)), (1, .int (nI lf)), (2, .int sd), (3, .int (nrI (p_near sd isw mem lf i)))]) hx hb dX1_nearestWithdrawn_54 hl (k := 4) rfl (nI_1 i) (by decide) rfl (fun ls hl => ?_)
            refine lv_goto (tgt := 5) hx hb dX1_nearestWithdrawn_57 (by decide) ?_
            have hl := lv_sub hl [1, 2, 3, 4, 0] rfl
            refine ih (i + 1) H locs ls (by omega) hP hD hS ?_
            rw [e1]
            exact hl
          · cases hr9 : p_near sd isw mem lf i with
            | none =>
              rw [hr9] at hl
              refine lv_iload_n hx hb dX1_nearestWithdrawn_35 rfl (lv_at hl 3 rfl) ?_
              refine lv_iconst (v := (-1)) hx hb dX1_nearestWithdrawn_36 (by decide) ?_
              refine lv_icmp_eq (tgt := 51) hx hb dX1_nearestWithdrawn_37 (by decide) (fun hm1 => ?_) (fun hm1 => ?_)
              · have e1 : p_near sd isw mem lf (i + 1) = some i := by
                  show p_nearS sd isw mem lf i (p_near sd isw mem lf i) = _
                  unfold p_nearS
                  rw [if_neg ha, if_neg hb2, hr9]
                refine lv_iload hx hb dX1_nearestWithdrawn_51 (lv_at hl 4 rfl) ?_
                refine lv_istore_n (lv' := [(3, .int (nI i)), (0, .ref (o 0)), (1, .int (nI lf)), (2, .int sd), (4, .int (nI i))]) hx hb dX1_nearestWithdrawn_53 rfl hl (by decide) rfl (fun ls hl => ?_)
                refine lv_iinc (v := nI (i + 1)) (lv' := [(4, .int (nI (i + 1))), (3, .int (nI i)), (0, .ref (o 0)), (1, .int (nI lf)), (2, .int sd)]) hx hb dX1_nearestWithdrawn_54 hl (k := 4) rfl (nI_1 i) (by decide) rfl (fun ls hl => ?_)
                refine lv_goto (tgt := 5) hx hb dX1_nearestWithdrawn_57 (by decide) ?_
                have hl := lv_sub hl [2, 3, 4, 1, 0] rfl
                refine ih (i + 1) H locs ls (by omega) hP hD hS ?_
                rw [e1]
                exact hl
              · exact absurd rfl hm1
            | some j =>
              have hj := p_near_lt sd isw mem lf i j hr9
              rw [hr9] at hl
              have hl : lv_has ls 5 [(0, .ref (o 0)), (1, .int (nI lf)), (2, .int sd), (3, .int (nI j)), (4, .int (nI i))] := hl
              refine lv_iload_n hx hb dX1_nearestWithdrawn_35 rfl (lv_at hl 3 rfl) ?_
              refine lv_iconst (v := (-1)) hx hb dX1_nearestWithdrawn_36 (by decide) ?_
              refine lv_icmp_eq (tgt := 51) hx hb dX1_nearestWithdrawn_37 (by decide) (fun hm1 => ?_) (fun hm1 => ?_)
              · exact absurd hm1 (nrI_ne j (by omega))
              · refine lv_aload_n hx hb dX1_nearestWithdrawn_40 rfl (lv_at hl 0 rfl) ?_
                refine lv_iload_n hx hb dX1_nearestWithdrawn_41 rfl (lv_at hl 2 rfl) ?_
                refine lv_iload_n hx hb dX1_nearestWithdrawn_42 rfl (lv_at hl 3 rfl) ?_
                refine lv_iload hx hb dX1_nearestWithdrawn_43 (lv_at hl 4 rfl) ?_
                refine mi_callV (C := RX1) (As := [.int sd, .int (nI j), .int (nI i)]) (rest := []) ⟨hx, hb, hml, hown, hW⟩ (c_liesOn sd j i (by omega) (by omega) sl mem) gE_ok (cwV 3 hW (gV tw_421 tw_423 tv_X1_liesOn tw_1 tw_424) rfl rfl rfl (by decide +kernel) ⟨Nat.le_of_ble_eq_true rfl, Nat.le_of_ble_eq_true rfl⟩) (va_recv hK hP (ci := 0) (q0 := 0) rfl rfl) hP hD hK hS hA hT rfl hl.1 rfl (Nat.le_of_ble_eq_true rfl) dX1_nearestWithdrawn_45 ⟨Nat.zero_le _, Nat.zero_le _⟩ (fun H locs hP hD hS => ?_)
                refine lv_if_eq (tgt := 54) hx hb dX1_nearestWithdrawn_48 (by decide) (fun hb3 => ?_) (fun hb3 => ?_)
                · have e1 : p_near sd isw mem lf (i + 1) = some j := by
                    show p_nearS sd isw mem lf i (p_near sd isw mem lf i) = _
                    unfold p_nearS
                    rw [if_neg ha, if_neg hb2, hr9]
                    exact if_pos hb3
                  refine lv_iinc (v := nI (i + 1)) (lv' := [(4, .int (nI (i + 1))), (0, .ref (o 0)), (1, .int (nI lf)), (2, .int sd), (3, .int (nI j))]) hx hb dX1_nearestWithdrawn_54 hl (k := 4) rfl (nI_1 i) (by decide) rfl (fun ls hl => ?_)
                  refine lv_goto (tgt := 5) hx hb dX1_nearestWithdrawn_57 (by decide) ?_
                  have hl := lv_sub hl [1, 2, 3, 4, 0] rfl
                  refine ih (i + 1) H locs ls (by omega) hP hD hS ?_
                  rw [e1]
                  exact hl
                · have e1 : p_near sd isw mem lf (i + 1) = some i := by
                    show p_nearS sd isw mem lf i (p_near sd isw mem lf i) = _
                    unfold p_nearS
                    rw [if_neg ha, if_neg hb2, hr9]
                    exact if_neg hb3
                  refine lv_iload hx hb dX1_nearestWithdrawn_51 (lv_at hl 4 rfl) ?_
                  refine lv_istore_n (lv' := [(3, .int (nI i)), (0, .ref (o 0)), (1, .int (nI lf)), (2, .int sd), (4, .int (nI i))]) hx hb dX1_nearestWithdrawn_53 rfl hl (by decide) rfl (fun ls hl => ?_)
                  refine lv_iinc (v := nI (i + 1)) (lv' := [(4, .int (nI (i + 1))), (3, .int (nI i)), (0, .ref (o 0)), (1, .int (nI lf)), (2, .int sd)]) hx hb dX1_nearestWithdrawn_54 hl (k := 4) rfl (nI_1 i) (by decide) rfl (fun ls hl => ?_)
                  refine lv_goto (tgt := 5) hx hb dX1_nearestWithdrawn_57 (by decide) ?_
                  have hl := lv_sub hl [2, 3, 4, 1, 0] rfl
                  refine ih (i + 1) H locs ls (by omega) hP hD hS ?_
                  rw [e1]
                  exact hl
  refine lv_iconst (v := (-1)) hx hb dX1_nearestWithdrawn_0 (by decide) ?_
  refine lv_istore_n (lv' := [(3, .int (-1)), (0, .ref (o 0)), (1, .int (nI lf)), (2, .int sd)]) hx hb dX1_nearestWithdrawn_1 rfl hl (by decide) rfl (fun ls hl => ?_)
  refine lv_iconst (v := nI 0) hx hb dX1_nearestWithdrawn_2 (by decide) ?_
  refine lv_istore (lv' := [(4, .int (nI 0)), (3, .int (-1)), (0, .ref (o 0)), (1, .int (nI lf)), (2, .int sd)]) hx hb dX1_nearestWithdrawn_3 hl (by decide) rfl (fun ls hl => ?_)
  exact loop q 0 s.heap [] ls (by omega) hP hD hS (lv_sub hl [2, 3, 4, 1, 0] rfl)
