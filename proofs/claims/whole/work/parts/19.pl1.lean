set_option maxHeartbeats 4000000 in
set_option maxRecDepth 100000 in
/-- copyDigest(array k0, array k1) -/
theorem c_copyDigest {l : Launch} {D : va_G} {o ad : Nat → Nat} {cI cZ cG : ClassId} {tl lc wc dc pn : Int32} {isw : Nat → Int32} (k0 k1 : Nat) (h0 : k0 < 71) (h1 : k1 < 71) (l0 : lenC k0 = 32) (l1 : lenC k1 = 32) (sl : Int32) (mem : Nat → Nat → Int32) : MV l gE yX1_copyDigest (.code yX1_copyDigest cX1_copyDigest 2 none :: tW) ({ frames := 1, cells := 0, slots := 0, locals := 64 }) D vwCl (tC cI cZ cG) [.ref (ad k0), .ref (ad k1)] (wC o ad cI cZ cG tl lc wc dc pn sl isw mem) (wC o ad cI cZ cG tl lc wc dc pn sl isw (p_copy k0 k1 mem)) := by
  refine MV.ofW (by decide +kernel) rfl (Nat.le_of_ble_eq_true rfl) ?_
  intro p e s m below meth c A ls hx hb hr hts hown hlk hml hA hP hK hD hT hl
  have hS : va_S A s.heap s.heap [] := va_S.rf
  have hown : s.vm.findClass RX1 = some m.cls := hown
  have hW : ∀ w ∈ tW, w.before _ s = true := fun w h => hts w (List.mem_cons_of_mem _ h)
  have hl : lv_has ls 2 [(0, .ref (ad k0)), (1, .ref (ad k1))] := hl
  refine lv_aload_n hx hb dX1_copyDigest_0 rfl (lv_at hl 0 rfl) ?_
  refine lv_iconst (v := nI 0) hx hb dX1_copyDigest_1 (by decide) ?_
  refine lv_aload_n hx hb dX1_copyDigest_2 rfl (lv_at hl 1 rfl) ?_
  refine lv_iconst (v := nI 0) hx hb dX1_copyDigest_3 (by decide) ?_
  refine lv_bipush (v := nI 32) hx hb dX1_copyDigest_4 (by decide) ?_
  refine m_cpy (X := wX o ad cZ cG tl lc wc dc pn sl isw) hx hb (hml.trans hl.1.symm) hown (hW _ tw_252) (hW _ tw_219) (hW _ tw_218) (hW _ tw_10) hK hP hD hS 0 k0 k1 32 rfl h0 h1 (by omega) (by omega) (by decide) (Nat.le_of_ble_eq_true rfl) (Nat.le_of_ble_eq_true rfl) dX1_copyDigest_6 (fun H locs hP hD hS => ?_)
  have hP : va_P D vwCl (wC o ad cI cZ cG tl lc wc dc pn sl isw (p_copy k0 k1 mem)) H := hP
  have hD : va_D A (wC o ad cI cZ cG tl lc wc dc pn sl isw (p_copy k0 k1 mem)) := hD
  have hP : va_P D vwCl (wC o ad cI cZ cG tl lc wc dc pn sl isw (p_copy k0 k1 mem)) H := by exact hP
  have hD : va_D A (wC o ad cI cZ cG tl lc wc dc pn sl isw (p_copy k0 k1 mem)) := by exact hD
  exact mv_ret hx hb hr hlk hS hP hD dX1_copyDigest_9
set_option maxHeartbeats 4000000 in
set_option maxRecDepth 100000 in
/-- compareDigests(array k0, array k1) -/
theorem c_compareDigests {l : Launch} {D : va_G} {o ad : Nat → Nat} {cI cZ cG : ClassId} {tl lc wc dc pn : Int32} {isw : Nat → Int32} (k0 k1 : Nat) (h0 : k0 < 71) (h1 : k1 < 71) (l0 : lenC k0 = 32) (l1 : lenC k1 = 32) (sl : Int32) (mem : Nat → Nat → Int32) : MI l gE yX1_compareDigests (.code yX1_compareDigests cX1_compareDigests 3 (some .int) :: tW) ({ frames := 0, cells := 0, slots := 0, locals := 0 }) D vwCl (tC cI cZ cG) [.ref (ad k0), .ref (ad k1)] (wC o ad cI cZ cG tl lc wc dc pn sl isw mem) (wC o ad cI cZ cG tl lc wc dc pn sl isw mem) (p_cmp (mem k0) (mem k1)) := by
  refine MI.ofW (by decide +kernel) rfl (Nat.le_of_ble_eq_true rfl) ?_
  intro p e s m below meth c A ls hx hb hr hts hown hlk hml hA hP hK hD hT hl
  have hS : va_S A s.heap s.heap [] := va_S.rf
  have hown : s.vm.findClass RX1 = some m.cls := hown
  have hW : ∀ w ∈ tW, w.before _ s = true := fun w h => hts w (List.mem_cons_of_mem _ h)
  have hl : lv_has ls 3 [(0, .ref (ad k0)), (1, .ref (ad k1))] := hl
  have loop : ∀ (k i : Nat) (H : Heap) (locs : List Loc) (ls : Array Slot), i + k = 32 ∧ p_cmpA (mem k0) (mem k1) k i = p_cmp (mem k0) (mem k1) → va_P D vwCl (wC o ad cI cZ cG tl lc wc dc pn sl isw mem) H → va_D A (wC o ad cI cZ cG tl lc wc dc pn sl isw mem) → va_S A s.heap H locs → lv_has ls 3 [(0, .ref (ad k0)), (1, .ref (ad k1)), (2, .int (nI i))] → W p l e ({ frames := 0, cells := 0, slots := 0, locals := 0 }) s m ([.ref (ad k0), .ref (ad k1)] : List Value).toArray below meth c H locs 0 0 (MQ below (xQi D vwCl (wC o ad cI cZ cG tl lc wc dc pn sl isw mem) (p_cmp (mem k0) (mem k1)) A) ([.ref (ad k0), .ref (ad k1)] : List Value).toArray s 0 0 A) (F0 m 2 ls []) := by
    intro k
    induction k with
    | zero =>
      intro i H locs ls hk hP hD hS hl
      obtain ⟨hk, hv⟩ := hk
      refine lv_iload_n hx hb dX1_compareDigests_2 rfl (lv_at hl 2 rfl) ?_
      refine lv_bipush (v := nI 32) hx hb dX1_compareDigests_3 (by decide) ?_
      refine lv_icmp_ge (tgt := 38) hx hb dX1_compareDigests_5 (by decide) (fun hc => ?_) (fun hc => ?_)
      · refine lv_iconst (v := nI 0) hx hb dX1_compareDigests_38 (by decide) ?_
        have hP : va_P D vwCl (wC o ad cI cZ cG tl lc wc dc pn sl isw mem) H := by exact hP
        have hD : va_D A (wC o ad cI cZ cG tl lc wc dc pn sl isw mem) := by exact hD
        exact mi_ret hx hb hr rfl hlk hS hP hD (hv) dX1_compareDigests_39
      · exact absurd (nI_le (by omega) (by omega)) hc
    | succ k ih =>
      intro i H locs ls hk hP hD hS hl
      obtain ⟨hk, hv⟩ := hk
      refine lv_iload_n hx hb dX1_compareDigests_2 rfl (lv_at hl 2 rfl) ?_
      refine lv_bipush (v := nI 32) hx hb dX1_compareDigests_3 (by decide) ?_
      refine lv_icmp_ge (tgt := 38) hx hb dX1_compareDigests_5 (by decide) (fun hc => ?_) (fun hc => ?_)
      · exact absurd hc (nI_ge (by omega) (by omega))
      · refine lv_aload_n hx hb dX1_compareDigests_8 rfl (lv_at hl 0 rfl) ?_
        refine lv_iload_n hx hb dX1_compareDigests_9 rfl (lv_at hl 2 rfl) ?_
        refine m_ld (X := wX o ad cZ cG tl lc wc dc pn sl isw) hx hb hK hP 0 k0 i rfl h0 (by omega) (by omega) dX1_compareDigests_10 ?_
        refine lv_aload_n hx hb dX1_compareDigests_11 rfl (lv_at hl 1 rfl) ?_
        refine lv_iload_n hx hb dX1_compareDigests_12 rfl (lv_at hl 2 rfl) ?_
        refine m_ld (X := wX o ad cZ cG tl lc wc dc pn sl isw) hx hb hK hP 0 k1 i rfl h1 (by omega) (by omega) dX1_compareDigests_13 ?_
        refine lv_icmp_eq (tgt := 32) hx hb dX1_compareDigests_14 (by decide) (fun ha => ?_) (fun ha => ?_)
        · refine lv_iinc (v := nI (i + 1)) (lv' := [(2, .int (nI (i + 1))), (0, .ref (ad k0)), (1, .ref (ad k1))]) hx hb dX1_compareDigests_32 hl (k := 2) rfl (nI_1 i) (by decide) rfl (fun ls hl => ?_)
          refine lv_goto (tgt := 2) hx hb dX1_compareDigests_35 (by decide) ?_
          exact ih (i + 1) H locs ls ⟨by omega, by rw [← hv]; exact (if_pos ha).symm⟩ hP hD hS (lv_sub hl [1, 2, 0] rfl)
        · refine lv_aload_n hx hb dX1_compareDigests_17 rfl (lv_at hl 0 rfl) ?_
          refine lv_iload_n hx hb dX1_compareDigests_18 rfl (lv_at hl 2 rfl) ?_
          refine m_ld (X := wX o ad cZ cG tl lc wc dc pn sl isw) hx hb hK hP 0 k0 i rfl h0 (by omega) (by omega) dX1_compareDigests_19 ?_
          refine lv_aload_n hx hb dX1_compareDigests_20 rfl (lv_at hl 1 rfl) ?_
          refine lv_iload_n hx hb dX1_compareDigests_21 rfl (lv_at hl 2 rfl) ?_
          refine m_ld (X := wX o ad cZ cG tl lc wc dc pn sl isw) hx hb hK hP 0 k1 i rfl h1 (by omega) (by omega) dX1_compareDigests_22 ?_
          refine lv_icmp_ge (tgt := 30) hx hb dX1_compareDigests_23 (by decide) (fun hd => ?_) (fun hd => ?_)
          · refine lv_iconst (v := nI 1) hx hb dX1_compareDigests_30 (by decide) ?_
            have hP : va_P D vwCl (wC o ad cI cZ cG tl lc wc dc pn sl isw mem) H := by exact hP
            have hD : va_D A (wC o ad cI cZ cG tl lc wc dc pn sl isw mem) := by exact hD
            exact mi_ret hx hb hr rfl hlk hS hP hD (by rw [← hv]; exact ((if_neg ha).trans (if_neg (fun h => Int32.not_lt.mpr hd h))).symm) dX1_compareDigests_31
          · refine lv_iconst (v := (-1)) hx hb dX1_compareDigests_26 (by decide) ?_
            refine lv_goto (tgt := 31) hx hb dX1_compareDigests_27 (by decide) ?_
            have hP : va_P D vwCl (wC o ad cI cZ cG tl lc wc dc pn sl isw mem) H := by exact hP
            have hD : va_D A (wC o ad cI cZ cG tl lc wc dc pn sl isw mem) := by exact hD
            exact mi_ret hx hb hr rfl hlk hS hP hD (by rw [← hv]; exact ((if_neg ha).trans (if_pos (Int32.not_le.mp hd))).symm) dX1_compareDigests_31
  refine lv_iconst (v := nI 0) hx hb dX1_compareDigests_0 (by decide) ?_
  refine lv_istore_n (lv' := [(2, .int (nI 0)), (0, .ref (ad k0)), (1, .ref (ad k1))]) hx hb dX1_compareDigests_1 rfl hl (by decide) rfl (fun ls hl => ?_)
  exact loop 32 0 s.heap [] ls ⟨by omega, rfl⟩ hP hD hS (lv_sub hl [1, 2, 0] rfl)
set_option maxHeartbeats 4000000 in
set_option maxRecDepth 100000 in
/-- partnerOf(x) -/
theorem c_partnerOf {l : Launch} {D : va_G} {cI cZ cG : ClassId} (w : va_W) (x : Int32) : MI l gE yX1_partnerOf (.code yX1_partnerOf cX1_partnerOf 1 (some .int) :: tW) ({ frames := 0, cells := 0, slots := 0, locals := 0 }) D vwCl (tC cI cZ cG) [.int x] (w) (w) (x ^^^ nI 1) := by
  refine MI.ofW (by decide +kernel) rfl (Nat.le_of_ble_eq_true rfl) ?_
  intro p e s m below meth c A ls hx hb hr hts hown hlk hml hA hP hK hD hT hl
  have hS : va_S A s.heap s.heap [] := va_S.rf
  have hown : s.vm.findClass RX1 = some m.cls := hown
  have hW : ∀ w ∈ tW, w.before _ s = true := fun w h => hts w (List.mem_cons_of_mem _ h)
  have hl : lv_has ls 1 [(0, .int x)] := hl
  refine lv_iload_n hx hb dX1_partnerOf_0 rfl (lv_at hl 0 rfl) ?_
  refine lv_iconst (v := nI 1) hx hb dX1_partnerOf_1 (by decide) ?_
  refine lv_ixor hx hb dX1_partnerOf_2 ?_
  have hP : va_P D vwCl (w) s.heap := by exact hP
  have hD : va_D A (w) := by exact hD
  exact mi_ret hx hb hr rfl hlk hS hP hD (rfl) dX1_partnerOf_3
set_option maxHeartbeats 4000000 in
set_option maxRecDepth 100000 in
/-- hasPartner(x, v) -/
theorem c_hasPartner {l : Launch} {D : va_G} {cI cZ cG : ClassId} (w : va_W) (x v : Int32) : MI l gE yX1_hasPartner (.code yX1_hasPartner cX1_hasPartner 2 (some .boolean) :: tW) ({ frames := 1, cells := 0, slots := 0, locals := 20 }) D vwCl (tC cI cZ cG) [.int x, .int v] (w) (w) (p_has x v) := by
  refine MI.ofW (by decide +kernel) rfl (Nat.le_of_ble_eq_true rfl) ?_
  intro p e s m below meth c A ls hx hb hr hts hown hlk hml hA hP hK hD hT hl
  have hS : va_S A s.heap s.heap [] := va_S.rf
  have hown : s.vm.findClass RX1 = some m.cls := hown
  have hW : ∀ w ∈ tW, w.before _ s = true := fun w h => hts w (List.mem_cons_of_mem _ h)
  have hl : lv_has ls 2 [(0, .int x), (1, .int v)] := hl
  refine lv_iload_n hx hb dX1_hasPartner_0 rfl (lv_at hl 0 rfl) ?_
  refine mi_callS (As := [.int x]) (rest := []) ⟨hx, hb, hml, hown, hW⟩ (c_partnerOf _ x) gE_ok (va_cwS 1 hW (gS tw_343 tw_344 tw_1 tw_345) rfl rfl rfl (by decide +kernel) ⟨Nat.le_of_ble_eq_true rfl, Nat.le_of_ble_eq_true rfl⟩) hP hD hK hS hA hT rfl hl.1 rfl (Nat.le_of_ble_eq_true rfl) dX1_hasPartner_1 ⟨Nat.zero_le _, Nat.zero_le _⟩ (fun H locs hP hD hS => ?_)
  refine lv_iload_n hx hb dX1_hasPartner_4 rfl (lv_at hl 1 rfl) ?_
  refine lv_icmp_ge (tgt := 12) hx hb dX1_hasPartner_5 (by decide) (fun hc => ?_) (fun hc => ?_)
  · refine lv_iconst (v := nI 0) hx hb dX1_hasPartner_12 (by decide) ?_
    have hP : va_P D vwCl (w) H := by exact hP
    have hD : va_D A (w) := by exact hD
    exact mi_ret hx hb hr rfl hlk hS hP hD ((if_neg (fun h => Int32.not_lt.mpr hc h)).symm) dX1_hasPartner_13
  · refine lv_iconst (v := nI 1) hx hb dX1_hasPartner_8 (by decide) ?_
    refine lv_goto (tgt := 13) hx hb dX1_hasPartner_9 (by decide) ?_
    have hP : va_P D vwCl (w) H := by exact hP
    have hD : va_D A (w) := by exact hD
    exact mi_ret hx hb hr rfl hlk hS hP hD ((if_pos (Int32.not_le.mp hc)).symm) dX1_hasPartner_13
set_option maxHeartbeats 4000000 in
set_option maxRecDepth 100000 in
/-- nodeInto(arrays a, b, t) -/
theorem c_nodeInto {l : Launch} {D : va_G} {o ad : Nat → Nat} {cI cZ cG : ClassId} {tl lc wc dc pn : Int32} {isw : Nat → Int32} (a b t : Nat) (h : (a < 71 ∧ lenC a = 32) ∧ (b < 71 ∧ lenC b = 32) ∧ (t < 71 ∧ lenC t = 32)) (n : Nat) (mem : Nat → Nat → Int32) : MV l gE yX1_nodeInto (.code yX1_nodeInto cX1_nodeInto 4 none :: tW) ({ frames := 3, cells := 0, slots := 0, locals := 128 }) D vwCl (tC cI cZ cG) [.ref (o 0), .ref (ad a), .ref (ad b), .ref (ad t)] (wC o ad cI cZ cG tl lc wc dc pn (nI n) isw mem) (wC o ad cI cZ cG tl lc wc dc pn (nI (p_node a b t mem).1) isw ((p_node a b t mem).2)) := by
  refine MV.ofW (by decide +kernel) rfl (Nat.le_of_ble_eq_true rfl) ?_
  intro p e s m below meth c A ls hx hb hr hts hown hlk hml hA hP hK hD hT hl
  have hS : va_S A s.heap s.heap [] := va_S.rf
  have hown : s.vm.findClass RX1 = some m.cls := hown
  have hW : ∀ w ∈ tW, w.before _ s = true := fun w h => hts w (List.mem_cons_of_mem _ h)
  have hl : lv_has ls 4 [(0, .ref (o 0)), (1, .ref (ad a)), (2, .ref (ad b)), (3, .ref (ad t))] := hl
  have e1 : (P_take (nI 1) (0, mem)).1 = 1 := P_take_fst _ _ (show 0 < 256 by decide)
  have e2 : (P_first a 32 (P_take (nI 1) (0, mem))).1 = 33 := by rw [P_first_fst a 32 _ (by omega), e1]
  have e3 : (P_first b 32 (P_first a 32 (P_take (nI 1) (0, mem)))).1 = 65 := by rw [P_first_fst b 32 _ (by omega), e2]
  refine lv_aload_n hx hb dX1_nodeInto_0 rfl (lv_at hl 0 rfl) ?_
  refine va_get (D := D) (ci := 0) (v := .ref (o 1)) (C := RX1) (T := TX1) (N := 14) hx hb hW iPL hown hK hP 0 rfl rfl 0 (by decide) (hW _ tw_44) (fun _ h9 => h9) rfl dX1_nodeInto_1 ?_
  refine mv_callV (C := RX0) (As := []) (rest := []) ⟨hx, hb, hml, hown, hW⟩ (c_begin n mem) gE_ok (cwV 0 hW (gV tw_190 tw_191 tw_192 tw_2 tw_193) rfl rfl rfl (by decide +kernel) ⟨Nat.le_of_ble_eq_true rfl, Nat.le_of_ble_eq_true rfl⟩) (va_recv hK hP (ci := 1) (q0 := 1) rfl rfl) hP hD hK hS hA hT rfl hl.1 rfl (Nat.le_of_ble_eq_true rfl) dX1_nodeInto_4 ⟨Nat.zero_le _, Nat.zero_le _⟩ (fun H locs hP hD hS => ?_)
  have hP : va_P D vwCl (wC o ad cI cZ cG tl lc wc dc pn (nI 0) isw mem) H := hP
  have hD : va_D A (wC o ad cI cZ cG tl lc wc dc pn (nI 0) isw mem) := hD
  refine lv_aload_n hx hb dX1_nodeInto_7 rfl (lv_at hl 0 rfl) ?_
  refine va_get (D := D) (ci := 0) (v := .ref (o 1)) (C := RX1) (T := TX1) (N := 14) hx hb hW iPL hown hK hP 0 rfl rfl 0 (by decide) (hW _ tw_44) (fun _ h9 => h9) rfl dX1_nodeInto_8 ?_
  refine lv_iconst (v := nI 1) hx hb dX1_nodeInto_11 (by decide) ?_
  refine mv_callV (C := RX0) (As := [.int (nI 1)]) (rest := []) ⟨hx, hb, hml, hown, hW⟩ (C_take 0 (by decide) mem (nI 1)) gE_ok (cwV 1 hW (gV tw_194 tw_195 tw_196 tw_2 tw_197) rfl rfl rfl (by decide +kernel) ⟨Nat.le_of_ble_eq_true rfl, Nat.le_of_ble_eq_true rfl⟩) (va_recv hK hP (ci := 1) (q0 := 1) rfl rfl) hP hD hK hS hA hT rfl hl.1 rfl (Nat.le_of_ble_eq_true rfl) dX1_nodeInto_12 ⟨Nat.zero_le _, Nat.zero_le _⟩ (fun H locs hP hD hS => ?_)
  have hP : va_P D vwCl (wC o ad cI cZ cG tl lc wc dc pn (nI (P_take (nI 1) (0, mem)).1) isw ((P_take (nI 1) (0, mem)).2)) H := hP
  have hD : va_D A (wC o ad cI cZ cG tl lc wc dc pn (nI (P_take (nI 1) (0, mem)).1) isw ((P_take (nI 1) (0, mem)).2)) := hD
  refine lv_aload_n hx hb dX1_nodeInto_15 rfl (lv_at hl 0 rfl) ?_
  refine va_get (D := D) (ci := 0) (v := .ref (o 1)) (C := RX1) (T := TX1) (N := 14) hx hb hW iPL hown hK hP 0 rfl rfl 0 (by decide) (hW _ tw_44) (fun _ h9 => h9) rfl dX1_nodeInto_16 ?_
  refine lv_aload_n hx hb dX1_nodeInto_19 rfl (lv_at hl 1 rfl) ?_
  refine lv_bipush (v := nI 32) hx hb dX1_nodeInto_20 (by decide) ?_
  refine mv_callV (C := RX0) (As := [.ref (ad a), .int (nI 32)]) (rest := []) ⟨hx, hb, hml, hown, hW⟩ (C_takeFirst ((P_take (nI 1) (0, mem)).1) 32 a (by rw [e1]; decide) (by have := h.1.2; omega) (h.1.1) ((P_take (nI 1) (0, mem)).2)) gE_ok (cwV 2 hW (gV tw_198 tw_199 tw_200 tw_2 tw_201) rfl rfl rfl (by decide +kernel) ⟨Nat.le_of_ble_eq_true rfl, Nat.le_of_ble_eq_true rfl⟩) (va_recv hK hP (ci := 1) (q0 := 1) rfl rfl) hP hD hK hS hA hT rfl hl.1 rfl (Nat.le_of_ble_eq_true rfl) dX1_nodeInto_22 ⟨Nat.zero_le _, Nat.zero_le _⟩ (fun H locs hP hD hS => ?_)
  have hP : va_P D vwCl (wC o ad cI cZ cG tl lc wc dc pn (nI (P_first a 32 (P_take (nI 1) (0, mem))).1) isw ((P_first a 32 (P_take (nI 1) (0, mem))).2)) H := hP
  have hD : va_D A (wC o ad cI cZ cG tl lc wc dc pn (nI (P_first a 32 (P_take (nI 1) (0, mem))).1) isw ((P_first a 32 (P_take (nI 1) (0, mem))).2)) := hD
  refine lv_aload_n hx hb dX1_nodeInto_25 rfl (lv_at hl 0 rfl) ?_
  refine va_get (D := D) (ci := 0) (v := .ref (o 1)) (C := RX1) (T := TX1) (N := 14) hx hb hW iPL hown hK hP 0 rfl rfl 0 (by decide) (hW _ tw_44) (fun _ h9 => h9) rfl dX1_nodeInto_26 ?_
  refine lv_aload_n hx hb dX1_nodeInto_29 rfl (lv_at hl 2 rfl) ?_
  refine lv_bipush (v := nI 32) hx hb dX1_nodeInto_30 (by decide) ?_
  refine mv_callV (C := RX0) (As := [.ref (ad b), .int (nI 32)]) (rest := []) ⟨hx, hb, hml, hown, hW⟩ (C_takeFirst ((P_first a 32 (P_take (nI 1) (0, mem))).1) 32 b (by rw [e2]; decide) (by have := h.2.1.2; omega) (h.2.1.1) ((P_first a 32 (P_take (nI 1) (0, mem))).2)) gE_ok (cwV 2 hW (gV tw_198 tw_199 tw_200 tw_2 tw_201) rfl rfl rfl (by decide +kernel) ⟨Nat.le_of_ble_eq_true rfl, Nat.le_of_ble_eq_true rfl⟩) (va_recv hK hP (ci := 1) (q0 := 1) rfl rfl) hP hD hK hS hA hT rfl hl.1 rfl (Nat.le_of_ble_eq_true rfl) dX1_nodeInto_32 ⟨Nat.zero_le _, Nat.zero_le _⟩ (fun H locs hP hD hS => ?_)
  have hP : va_P D vwCl (wC o ad cI cZ cG tl lc wc dc pn (nI (P_first b 32 (P_first a 32 (P_take (nI 1) (0, mem)))).1) isw ((P_first b 32 (P_first a 32 (P_take (nI 1) (0, mem)))).2)) H := hP
  have hD : va_D A (wC o ad cI cZ cG tl lc wc dc pn (nI (P_first b 32 (P_first a 32 (P_take (nI 1) (0, mem)))).1) isw ((P_first b 32 (P_first a 32 (P_take (nI 1) (0, mem)))).2)) := hD
  refine lv_aload_n hx hb dX1_nodeInto_35 rfl (lv_at hl 0 rfl) ?_
  refine va_get (D := D) (ci := 0) (v := .ref (o 1)) (C := RX1) (T := TX1) (N := 14) hx hb hW iPL hown hK hP 0 rfl rfl 0 (by decide) (hW _ tw_44) (fun _ h9 => h9) rfl dX1_nodeInto_36 ?_
  refine lv_aload_n hx hb dX1_nodeInto_39 rfl (lv_at hl 3 rfl) ?_
  refine mv_callV (C := RX0) (As := [.ref (ad t)]) (rest := []) ⟨hx, hb, hml, hown, hW⟩ (C_finishInto ((P_first b 32 (P_first a 32 (P_take (nI 1) (0, mem)))).1) t (by rw [e3]; decide) (h.2.2.1) (h.2.2.2) ((P_first b 32 (P_first a 32 (P_take (nI 1) (0, mem)))).2)) gE_ok (cwV 1 hW (gV tw_203 tw_204 tw_205 tw_2 tw_206) rfl rfl rfl (by decide +kernel) ⟨Nat.le_of_ble_eq_true rfl, Nat.le_of_ble_eq_true rfl⟩) (va_recv hK hP (ci := 1) (q0 := 1) rfl rfl) hP hD hK hS hA hT rfl hl.1 rfl (Nat.le_of_ble_eq_true rfl) dX1_nodeInto_40 ⟨Nat.zero_le _, Nat.zero_le _⟩ (fun H locs hP hD hS => ?_)
  have hP : va_P D vwCl (wC o ad cI cZ cG tl lc wc dc pn (nI (P_fin t (P_first b 32 (P_first a 32 (P_take (nI 1) (0, mem))))).1) isw ((P_fin t (P_first b 32 (P_first a 32 (P_take (nI 1) (0, mem))))).2)) H := hP
  have hD : va_D A (wC o ad cI cZ cG tl lc wc dc pn (nI (P_fin t (P_first b 32 (P_first a 32 (P_take (nI 1) (0, mem))))).1) isw ((P_fin t (P_first b 32 (P_first a 32 (P_take (nI 1) (0, mem))))).2)) := hD
  have hP : va_P D vwCl (wC o ad cI cZ cG tl lc wc dc pn (nI (p_node a b t mem).1) isw ((p_node a b t mem).2)) H := by rw [p_node_e]; exact hP
  have hD : va_D A (wC o ad cI cZ cG tl lc wc dc pn (nI (p_node a b t mem).1) isw ((p_node a b t mem).2)) := by rw [p_node_e]; exact hD
  exact mv_ret hx hb hr hlk hS hP hD dX1_nodeInto_43
set_option maxHeartbeats 4000000 in
set_option maxRecDepth 100000 in
/-- keyedInto(key, arrays d, t) -/
theorem c_keyedInto {l : Launch} {D : va_G} {o ad : Nat → Nat} {cI cZ cG : ClassId} {tl lc wc dc pn : Int32} {isw : Nat → Int32} (d t : Nat) (h : (d < 71 ∧ lenC d = 32) ∧ (t < 71 ∧ lenC t = 32)) (n : Nat) (mem : Nat → Nat → Int32) (key : Int64) : MV l gE yX1_keyedInto (.code yX1_keyedInto cX1_keyedInto 5 none :: tW) ({ frames := 3, cells := 0, slots := 0, locals := 128 }) D vwCl (tC cI cZ cG) [.ref (o 0), .long key, .ref (ad d), .ref (ad t)] (wC o ad cI cZ cG tl lc wc dc pn (nI n) isw mem) (wC o ad cI cZ cG tl lc wc dc pn (nI (p_keyed key d t mem).1) isw ((p_keyed key d t mem).2)) := by
  refine MV.ofW (by decide +kernel) rfl (Nat.le_of_ble_eq_true rfl) ?_
  intro p e s m below meth c A ls hx hb hr hts hown hlk hml hA hP hK hD hT hl
  have hS : va_S A s.heap s.heap [] := va_S.rf
  have hown : s.vm.findClass RX1 = some m.cls := hown
  have hW : ∀ w ∈ tW, w.before _ s = true := fun w h => hts w (List.mem_cons_of_mem _ h)
  have hl : lv_has ls 5 [(0, .ref (o 0)), (1, .long key), (3, .ref (ad d)), (4, .ref (ad t))] := hl
  have e1 : (P_long key (0, mem)).1 = 8 := P_long_fst _ _ (show 0 + 8 ≤ 256 by decide)
  have e3 : (P_first d 32 (P_long key (0, mem))).1 = 40 := by rw [P_first_fst d 32 _ (by omega), e1]
  refine lv_aload_n hx hb dX1_keyedInto_0 rfl (lv_at hl 0 rfl) ?_
  refine va_get (D := D) (ci := 0) (v := .ref (o 1)) (C := RX1) (T := TX1) (N := 14) hx hb hW iPL hown hK hP 0 rfl rfl 0 (by decide) (hW _ tw_44) (fun _ h9 => h9) rfl dX1_keyedInto_1 ?_
  refine mv_callV (C := RX0) (As := []) (rest := []) ⟨hx, hb, hml, hown, hW⟩ (c_begin n mem) gE_ok (cwV 0 hW (gV tw_190 tw_191 tw_192 tw_2 tw_193) rfl rfl rfl (by decide +kernel) ⟨Nat.le_of_ble_eq_true rfl, Nat.le_of_ble_eq_true rfl⟩) (va_recv hK hP (ci := 1) (q0 := 1) rfl rfl) hP hD hK hS hA hT rfl hl.1 rfl (Nat.le_of_ble_eq_true rfl) dX1_keyedInto_4 ⟨Nat.zero_le _, Nat.zero_le _⟩ (fun H locs hP hD hS => ?_)
  have hP : va_P D vwCl (wC o ad cI cZ cG tl lc wc dc pn (nI 0) isw mem) H := hP
  have hD : va_D A (wC o ad cI cZ cG tl lc wc dc pn (nI 0) isw mem) := hD
  refine lv_aload_n hx hb dX1_keyedInto_7 rfl (lv_at hl 0 rfl) ?_
  refine va_get (D := D) (ci := 0) (v := .ref (o 1)) (C := RX1) (T := TX1) (N := 14) hx hb hW iPL hown hK hP 0 rfl rfl 0 (by decide) (hW _ tw_44) (fun _ h9 => h9) rfl dX1_keyedInto_8 ?_
  refine lv_lload_n hx hb dX1_keyedInto_11 rfl (lv_at hl 1 rfl) ?_
  refine mv_callV (C := RX0) (As := [.long key]) (rest := []) ⟨hx, hb, hml, hown, hW⟩ (C_takeLong 0 (by decide) mem key) gE_ok (cwV 1 hW (gV tw_436 tw_212 tw_213 tw_2 tw_214) rfl rfl rfl (by decide +kernel) ⟨Nat.le_of_ble_eq_true rfl, Nat.le_of_ble_eq_true rfl⟩) (va_recv hK hP (ci := 1) (q0 := 1) rfl rfl) hP hD hK hS hA hT rfl hl.1 rfl (Nat.le_of_ble_eq_true rfl) dX1_keyedInto_12 ⟨Nat.zero_le _, Nat.zero_le _⟩ (fun H locs hP hD hS => ?_)
  have hP : va_P D vwCl (wC o ad cI cZ cG tl lc wc dc pn (nI (P_long key (0, mem)).1) isw ((P_long key (0, mem)).2)) H := hP
  have hD : va_D A (wC o ad cI cZ cG tl lc wc dc pn (nI (P_long key (0, mem)).1) isw ((P_long key (0, mem)).2)) := hD
  refine lv_aload_n hx hb dX1_keyedInto_15 rfl (lv_at hl 0 rfl) ?_
  refine va_get (D := D) (ci := 0) (v := .ref (o 1)) (C := RX1) (T := TX1) (N := 14) hx hb hW iPL hown hK hP 0 rfl rfl 0 (by decide) (hW _ tw_44) (fun _ h9 => h9) rfl dX1_keyedInto_16 ?_
  refine lv_aload_n hx hb dX1_keyedInto_19 rfl (lv_at hl 2 rfl) ?_
  refine lv_bipush (v := nI 32) hx hb dX1_keyedInto_20 (by decide) ?_
  refine mv_callV (C := RX0) (As := [.ref (ad d), .int (nI 32)]) (rest := []) ⟨hx, hb, hml, hown, hW⟩ (C_takeFirst ((P_long key (0, mem)).1) 32 d (by rw [e1]; decide) (by have := h.1.2; omega) (h.1.1) ((P_long key (0, mem)).2)) gE_ok (cwV 2 hW (gV tw_198 tw_199 tw_200 tw_2 tw_201) rfl rfl rfl (by decide +kernel) ⟨Nat.le_of_ble_eq_true rfl, Nat.le_of_ble_eq_true rfl⟩) (va_recv hK hP (ci := 1) (q0 := 1) rfl rfl) hP hD hK hS hA hT rfl hl.1 rfl (Nat.le_of_ble_eq_true rfl) dX1_keyedInto_22 ⟨Nat.zero_le _, Nat.zero_le _⟩ (fun H locs hP hD hS => ?_)
  have hP : va_P D vwCl (wC o ad cI cZ cG tl lc wc dc pn (nI (P_first d 32 (P_long key (0, mem))).1) isw ((P_first d 32 (P_long key (0, mem))).2)) H := hP
  have hD : va_D A (wC o ad cI cZ cG tl lc wc dc pn (nI (P_first d 32 (P_long key (0, mem))).1) isw ((P_first d 32 (P_long key (0, mem))).2)) := hD
  refine lv_aload_n hx hb dX1_keyedInto_25 rfl (lv_at hl 0 rfl) ?_
  refine va_get (D := D) (ci := 0) (v := .ref (o 1)) (C := RX1) (T := TX1) (N := 14) hx hb hW iPL hown hK hP 0 rfl rfl 0 (by decide) (hW _ tw_44) (fun _ h9 => h9) rfl dX1_keyedInto_26 ?_
  refine lv_aload hx hb dX1_keyedInto_29 (lv_at hl 3 rfl) ?_
  refine mv_callV (C := RX0) (As := [.ref (ad t)]) (rest := []) ⟨hx, hb, hml, hown, hW⟩ (C_finishInto ((P_first d 32 (P_long key (0, mem))).1) t (by rw [e3]; decide) (h.2.1) (h.2.2) ((P_first d 32 (P_long key (0, mem))).2)) gE_ok (cwV 1 hW (gV tw_203 tw_204 tw_205 tw_2 tw_206) rfl rfl rfl (by decide +kernel) ⟨Nat.le_of_ble_eq_true rfl, Nat.le_of_ble_eq_true rfl⟩) (va_recv hK hP (ci := 1) (q0 := 1) rfl rfl) hP hD hK hS hA hT rfl hl.1 rfl (Nat.le_of_ble_eq_true rfl) dX1_keyedInto_31 ⟨Nat.zero_le _, Nat.zero_le _⟩ (fun H locs hP hD hS => ?_)
  have hP : va_P D vwCl (wC o ad cI cZ cG tl lc wc dc pn (nI (P_fin t (P_first d 32 (P_long key (0, mem)))).1) isw ((P_fin t (P_first d 32 (P_long key (0, mem)))).2)) H := hP
  have hD : va_D A (wC o ad cI cZ cG tl lc wc dc pn (nI (P_fin t (P_first d 32 (P_long key (0, mem)))).1) isw ((P_fin t (P_first d 32 (P_long key (0, mem)))).2)) := hD
  have hP : va_P D vwCl (wC o ad cI cZ cG tl lc wc dc pn (nI (p_keyed key d t mem).1) isw ((p_keyed key d t mem).2)) H := by rw [p_keyed_e]; exact hP
  have hD : va_D A (wC o ad cI cZ cG tl lc wc dc pn (nI (p_keyed key d t mem).1) isw ((p_keyed key d t mem).2)) := by rw [p_keyed_e]; exact hD
  exact mv_ret hx hb hr hlk hS hP hD dX1_keyedInto_34
set_option maxHeartbeats 4000000 in
set_option maxRecDepth 100000 in
/-- layLeaves(q) -/
theorem c_layLeaves {l : Launch} {D : va_G} {o ad : Nat → Nat} {cI cZ cG : ClassId} {tl lc wc dc pn : Int32} {isw : Nat → Int32} (q : Nat) (hq : q ≤ 24) (sl : Int32) (mem : Nat → Nat → Int32) : MV l gE yX1_layLeaves (.code yX1_layLeaves cX1_layLeaves 3 none :: tW) ({ frames := 2, cells := 0, slots := 0, locals := 96 }) D vwCl (tC cI cZ cG) [.ref (o 0), .int (nI q)] (wC o ad cI cZ cG tl lc wc dc pn sl isw mem) (wC o ad cI cZ cG tl lc wc dc pn sl isw (p_lay q mem)) := by
  refine MV.ofW (by decide +kernel) rfl (Nat.le_of_ble_eq_true rfl) ?_
  intro p e s m below meth c A ls hx hb hr hts hown hlk hml hA hP hK hD hT hl
  have hS : va_S A s.heap s.heap [] := va_S.rf
  have hown : s.vm.findClass RX1 = some m.cls := hown
  have hW : ∀ w ∈ tW, w.before _ s = true := fun w h => hts w (List.mem_cons_of_mem _ h)
  have hl : lv_has ls 3 [(0, .ref (o 0)), (1, .int (nI q))] := hl
  have loop : ∀ (k i : Nat) (H : Heap) (locs : List Loc) (ls : Array Slot), i + k = q → va_P D vwCl (wC o ad cI cZ cG tl lc wc dc pn sl isw (p_lay i mem)) H → va_D A (wC o ad cI cZ cG tl lc wc dc pn sl isw (p_lay i mem)) → va_S A s.heap H locs → lv_has ls 3 [(0, .ref (o 0)), (1, .int (nI q)), (2, .int (nI i))] → W p l e ({ frames := 2, cells := 0, slots := 0, locals := 96 }) s m ([.ref (o 0), .int (nI q)] : List Value).toArray below meth c H locs 0 0 (MQ below (xQv D vwCl (wC o ad cI cZ cG tl lc wc dc pn sl isw (p_lay q mem)) A) ([.ref (o 0), .int (nI q)] : List Value).toArray s 0 0 A) (F0 m 2 ls []) := by
    intro k
    induction k with
    | zero =>
      intro i H locs ls hk hP hD hS hl
      have hk : i = q := by omega
      rw [hk] at hP hD
      refine lv_iload_n hx hb dX1_layLeaves_2 rfl (lv_at hl 2 rfl) ?_
      refine lv_iload_n hx hb dX1_layLeaves_3 rfl (lv_at hl 1 rfl) ?_
      refine lv_icmp_ge (tgt := 28) hx hb dX1_layLeaves_4 (by decide) (fun hc => ?_) (fun hc => ?_)
      · have hP : va_P D vwCl (wC o ad cI cZ cG tl lc wc dc pn sl isw (p_lay q mem)) H := by exact hP
        have hD : va_D A (wC o ad cI cZ cG tl lc wc dc pn sl isw (p_lay q mem)) := by exact hD
        exact mv_ret hx hb hr hlk hS hP hD dX1_layLeaves_28
      · exact absurd (nI_le (by omega) (by omega)) hc
    | succ k ih =>
      intro i H locs ls hk hP hD hS hl
      refine lv_iload_n hx hb dX1_layLeaves_2 rfl (lv_at hl 2 rfl) ?_
      refine lv_iload_n hx hb dX1_layLeaves_3 rfl (lv_at hl 1 rfl) ?_
      refine lv_icmp_ge (tgt := 28) hx hb dX1_layLeaves_4 (by decide) (fun hc => ?_) (fun hc => ?_)
      · exact absurd hc (nI_ge (by omega) (by omega))
      · refine lv_aload_n hx hb dX1_layLeaves_7 rfl (lv_at hl 0 rfl) ?_
        refine va_get (D := D) (ci := 0) (v := .ref (o 2)) (C := RX1) (T := TX1) (N := 14) hx hb hW iPL hown hK hP 0 rfl rfl 3 (by decide) (hW _ tw_47) (fun _ h9 => h9) rfl dX1_layLeaves_8 ?_
        refine lv_iload_n hx hb dX1_layLeaves_11 rfl (lv_at hl 2 rfl) ?_
        refine m_row hx hb hK hP 2 2 i rfl rfl (by omega) (by decide) rfl dX1_layLeaves_12 ?_
        refine lv_aload_n hx hb dX1_layLeaves_13 rfl (lv_at hl 0 rfl) ?_
        refine va_get (D := D) (ci := 0) (v := .ref (o 5)) (C := RX1) (T := TX1) (N := 14) hx hb hW iPL hown hK hP 0 rfl rfl 12 (by decide) (hW _ tw_56) (fun _ h9 => h9) rfl dX1_layLeaves_14 ?_
        refine lv_iload_n hx hb dX1_layLeaves_17 rfl (lv_at hl 2 rfl) ?_
        refine m_row hx hb hK hP 5 2 i rfl rfl (by omega) (by decide) rfl dX1_layLeaves_18 ?_
        refine mv_callS (As := [.ref (ad (6 + i)), .ref (ad (47 + i))]) (rest := []) ⟨hx, hb, hml, hown, hW⟩ (c_copyDigest (6 + i) (47 + i) (by omega) (by omega) (lenC_row (by omega)) (lenC_row (by omega)) sl (p_lay i mem)) gE_ok (va_cwS 2 hW (gS tw_249 tw_250 tw_1 tw_251) rfl rfl rfl (by decide +kernel) ⟨Nat.le_of_ble_eq_true rfl, Nat.le_of_ble_eq_true rfl⟩) hP hD hK hS hA hT rfl hl.1 rfl (Nat.le_of_ble_eq_true rfl) dX1_layLeaves_19 ⟨Nat.zero_le _, Nat.zero_le _⟩ (fun H locs hP hD hS => ?_)
        have hP : va_P D vwCl (wC o ad cI cZ cG tl lc wc dc pn sl isw (p_copy (6 + i) (47 + i) (p_lay i mem))) H := hP
        have hD : va_D A (wC o ad cI cZ cG tl lc wc dc pn sl isw (p_copy (6 + i) (47 + i) (p_lay i mem))) := hD
        have hP : va_P D vwCl (wC o ad cI cZ cG tl lc wc dc pn sl isw (p_lay (i + 1) mem)) H := by rw [p_lay_s]; exact hP
        have hD : va_D A (wC o ad cI cZ cG tl lc wc dc pn sl isw (p_lay (i + 1) mem)) := by rw [p_lay_s]; exact hD
        refine lv_iinc (v := nI (i + 1)) (lv' := [(2, .int (nI (i + 1))), (0, .ref (o 0)), (1, .int (nI q))]) hx hb dX1_layLeaves_22 hl (k := 2) rfl (nI_1 i) (by decide) rfl (fun ls hl => ?_)
        refine lv_goto (tgt := 2) hx hb dX1_layLeaves_25 (by decide) ?_
        exact ih (i + 1) H locs ls (by omega) hP hD hS (lv_sub hl [1, 2, 0] rfl)
  refine lv_iconst (v := nI 0) hx hb dX1_layLeaves_0 (by decide) ?_
  refine lv_istore_n (lv' := [(2, .int (nI 0)), (0, .ref (o 0)), (1, .int (nI q))]) hx hb dX1_layLeaves_1 rfl hl (by decide) rfl (fun ls hl => ?_)
  exact loop q 0 s.heap [] ls (by omega) hP hD hS (lv_sub hl [1, 2, 0] rfl)
set_option maxHeartbeats 4000000 in
set_option maxRecDepth 100000 in
/-- foldLevel(q) -/
theorem c_foldLevel {l : Launch} {D : va_G} {o ad : Nat → Nat} {cI cZ cG : ClassId} {tl lc wc dc pn : Int32} {isw : Nat → Int32} (q : Nat) (hq : q ≤ 24) (hq2 : 2 ≤ q) (n : Nat) (mem : Nat → Nat → Int32) : MV l gE yX1_foldLevel (.code yX1_foldLevel cX1_foldLevel 3 none :: tW) ({ frames := 4, cells := 0, slots := 0, locals := 160 }) D vwCl (tC cI cZ cG) [.ref (o 0), .int (nI q)] (wC o ad cI cZ cG tl lc wc dc pn (nI n) isw mem) (wC o ad cI cZ cG tl lc wc dc pn (nI (p_fold q (n, mem)).1) isw ((p_fold q (n, mem)).2)) := by
  refine MV.ofW (by decide +kernel) rfl (Nat.le_of_ble_eq_true rfl) ?_
  intro p e s m below meth c A ls hx hb hr hts hown hlk hml hA hP hK hD hT hl
  have hS : va_S A s.heap s.heap [] := va_S.rf
  have hown : s.vm.findClass RX1 = some m.cls := hown
  have hW : ∀ w ∈ tW, w.before _ s = true := fun w h => hts w (List.mem_cons_of_mem _ h)
  have hl : lv_has ls 3 [(0, .ref (o 0)), (1, .int (nI q))] := hl
  have loop : ∀ (k i : Nat) (H : Heap) (locs : List Loc) (ls : Array Slot), i + k = q / 2 → va_P D vwCl (wC o ad cI cZ cG tl lc wc dc pn (nI (itr (fun j z => p_node (47 + 2 * j) (47 + (2 * j + 1)) (47 + j) z.2) i (n, mem)).1) isw ((itr (fun j z => p_node (47 + 2 * j) (47 + (2 * j + 1)) (47 + j) z.2) i (n, mem)).2)) H → va_D A (wC o ad cI cZ cG tl lc wc dc pn (nI (itr (fun j z => p_node (47 + 2 * j) (47 + (2 * j + 1)) (47 + j) z.2) i (n, mem)).1) isw ((itr (fun j z => p_node (47 + 2 * j) (47 + (2 * j + 1)) (47 + j) z.2) i (n, mem)).2)) → va_S A s.heap H locs → lv_has ls 3 [(0, .ref (o 0)), (1, .int (nI q)), (2, .int (nI (2 * i)))] → W p l e ({ frames := 4, cells := 0, slots := 0, locals := 160 }) s m ([.ref (o 0), .int (nI q)] : List Value).toArray below meth c H locs 0 0 (MQ below (xQv D vwCl (wC o ad cI cZ cG tl lc wc dc pn (nI (p_fold q (n, mem)).1) isw ((p_fold q (n, mem)).2)) A) ([.ref (o 0), .int (nI q)] : List Value).toArray s 0 0 A) (F0 m 2 ls []) := by
    intro k
    induction k with
    | zero =>
      intro i H locs ls hk hP hD hS hl
      have hk : i = q / 2 := by omega
      rw [hk] at hP hD
      refine lv_iload_n hx hb dX1_foldLevel_2 rfl (lv_at hl 2 rfl) ?_
      refine lv_iconst (v := nI 1) hx hb dX1_foldLevel_3 (by decide) ?_
      refine lv_iadd hx hb dX1_foldLevel_4 ?_
      refine lv_eqi (v := nI (2 * i + 1)) (nI_add (2 * i) 1) ?_
      refine lv_iload_n hx hb dX1_foldLevel_5 rfl (lv_at hl 1 rfl) ?_
      refine lv_icmp_ge (tgt := 41) hx hb dX1_foldLevel_6 (by decide) (fun hc => ?_) (fun hc => ?_)
      · refine lv_iload_n hx hb dX1_foldLevel_41 rfl (lv_at hl 1 rfl) ?_
        refine lv_iconst (v := nI 2) hx hb dX1_foldLevel_42 (by decide) ?_
        refine lv_irem hx hb dX1_foldLevel_43 (by decide) ?_
        refine lv_eqi (v := nI (q % 2)) (pk_rem (by omega) (by decide) (by decide)) ?_
        refine lv_iconst (v := nI 1) hx hb dX1_foldLevel_44 (by decide) ?_
        refine lv_icmp_ne (tgt := 67) hx hb dX1_foldLevel_45 (by decide) (fun hd => ?_) (fun hd => ?_)
        · have e1 : p_fold q (n, mem) = itr (fun j z => p_node (47 + 2 * j) (47 + (2 * j + 1)) (47 + j) z.2) (q / 2) (n, mem) := if_neg (fun h => hd (by rw [h]))
          have hP : va_P D vwCl (wC o ad cI cZ cG tl lc wc dc pn (nI (p_fold q (n, mem)).1) isw ((p_fold q (n, mem)).2)) H := by rw [e1]; exact hP
          have hD : va_D A (wC o ad cI cZ cG tl lc wc dc pn (nI (p_fold q (n, mem)).1) isw ((p_fold q (n, mem)).2)) := by rw [e1]; exact hD
          exact mv_ret hx hb hr hlk hS hP hD dX1_foldLevel_67
        · have h1 : q % 2 = 1 := (nI_eq (by omega) (by decide)).mp hd
          have e1 : p_fold q (n, mem) = ((itr (fun j z => p_node (47 + 2 * j) (47 + (2 * j + 1)) (47 + j) z.2) (q / 2) (n, mem)).1, p_copy (47 + (q - 1)) (47 + q / 2) (itr (fun j z => p_node (47 + 2 * j) (47 + (2 * j + 1)) (47 + j) z.2) (q / 2) (n, mem)).2) := if_pos h1
          refine lv_aload_n hx hb dX1_foldLevel_48 rfl (lv_at hl 0 rfl) ?_
          refine va_get (D := D) (ci := 0) (v := .ref (o 5)) (C := RX1) (T := TX1) (N := 14) hx hb hW iPL hown hK hP 0 rfl rfl 12 (by decide) (hW _ tw_56) (fun _ h9 => h9) rfl dX1_foldLevel_49 ?_
          refine lv_iload_n hx hb dX1_foldLevel_52 rfl (lv_at hl 1 rfl) ?_
          refine lv_iconst (v := nI 1) hx hb dX1_foldLevel_53 (by decide) ?_
          refine lv_isub hx hb dX1_foldLevel_54 ?_
          refine lv_eqi (v := nI (q - 1)) (pk_sub (by omega)) ?_
          refine m_row hx hb hK hP 5 2 (q - 1) rfl rfl (by omega) (by decide) rfl dX1_foldLevel_55 ?_
          refine lv_aload_n hx hb dX1_foldLevel_56 rfl (lv_at hl 0 rfl) ?_
          refine va_get (D := D) (ci := 0) (v := .ref (o 5)) (C := RX1) (T := TX1) (N := 14) hx hb hW iPL hown hK hP 0 rfl rfl 12 (by decide) (hW _ tw_56) (fun _ h9 => h9) rfl dX1_foldLevel_57 ?_
          refine lv_iload_n hx hb dX1_foldLevel_60 rfl (lv_at hl 1 rfl) ?_
          refine lv_iconst (v := nI 2) hx hb dX1_foldLevel_61 (by decide) ?_
          refine lv_idiv hx hb dX1_foldLevel_62 (by decide) ?_
          refine lv_eqi (v := nI (q / 2)) (pk_div (by omega) (by decide) (by decide)) ?_
          refine m_row hx hb hK hP 5 2 (q / 2) rfl rfl (by omega) (by decide) rfl dX1_foldLevel_63 ?_
          refine mv_callS (As := [.ref (ad (47 + (q - 1))), .ref (ad (47 + (q / 2)))]) (rest := []) ⟨hx, hb, hml, hown, hW⟩ (c_copyDigest (47 + (q - 1)) (47 + (q / 2)) (by omega) (by omega) (lenC_row (by omega)) (lenC_row (by omega)) (nI (itr (fun j z => p_node (47 + 2 * j) (47 + (2 * j + 1)) (47 + j) z.2) (q / 2) (n, mem)).1) ((itr (fun j z => p_node (47 + 2 * j) (47 + (2 * j + 1)) (47 + j) z.2) (q / 2) (n, mem)).2)) gE_ok (va_cwS 2 hW (gS tw_249 tw_250 tw_1 tw_251) rfl rfl rfl (by decide +kernel) ⟨Nat.le_of_ble_eq_true rfl, Nat.le_of_ble_eq_true rfl⟩) hP hD hK hS hA hT rfl hl.1 rfl (Nat.le_of_ble_eq_true rfl) dX1_foldLevel_64 ⟨Nat.zero_le _, Nat.zero_le _⟩ (fun H locs hP hD hS => ?_)
          have hP : va_P D vwCl (wC o ad cI cZ cG tl lc wc dc pn (nI (itr (fun j z => p_node (47 + 2 * j) (47 + (2 * j + 1)) (47 + j) z.2) (q / 2) (n, mem)).1) isw (p_copy (47 + (q - 1)) (47 + (q / 2)) ((itr (fun j z => p_node (47 + 2 * j) (47 + (2 * j + 1)) (47 + j) z.2) (q / 2) (n, mem)).2))) H := hP
          have hD : va_D A (wC o ad cI cZ cG tl lc wc dc pn (nI (itr (fun j z => p_node (47 + 2 * j) (47 + (2 * j + 1)) (47 + j) z.2) (q / 2) (n, mem)).1) isw (p_copy (47 + (q - 1)) (47 + (q / 2)) ((itr (fun j z => p_node (47 + 2 * j) (47 + (2 * j + 1)) (47 + j) z.2) (q / 2) (n, mem)).2))) := hD
          have hP : va_P D vwCl (wC o ad cI cZ cG tl lc wc dc pn (nI (p_fold q (n, mem)).1) isw ((p_fold q (n, mem)).2)) H := by rw [e1]; exact hP
          have hD : va_D A (wC o ad cI cZ cG tl lc wc dc pn (nI (p_fold q (n, mem)).1) isw ((p_fold q (n, mem)).2)) := by rw [e1]; exact hD
          exact mv_ret hx hb hr hlk hS hP hD dX1_foldLevel_67
      · exact absurd (nI_le (by omega) (by omega)) hc
    | succ k ih =>
      intro i H locs ls hk hP hD hS hl
      refine lv_iload_n hx hb dX1_foldLevel_2 rfl (lv_at hl 2 rfl) ?_
      refine lv_iconst (v := nI 1) hx hb dX1_foldLevel_3 (by decide) ?_
      refine lv_iadd hx hb dX1_foldLevel_4 ?_
      refine lv_eqi (v := nI (2 * i + 1)) (nI_add (2 * i) 1) ?_
      refine lv_iload_n hx hb dX1_foldLevel_5 rfl (lv_at hl 1 rfl) ?_
      refine lv_icmp_ge (tgt := 41) hx hb dX1_foldLevel_6 (by decide) (fun hc => ?_) (fun hc => ?_)
      · exact absurd hc (nI_ge (by omega) (by omega))
      · refine lv_aload_n hx hb dX1_foldLevel_9 rfl (lv_at hl 0 rfl) ?_
        refine lv_aload_n hx hb dX1_foldLevel_10 rfl (lv_at hl 0 rfl) ?_
        refine va_get (D := D) (ci := 0) (v := .ref (o 5)) (C := RX1) (T := TX1) (N := 14) hx hb hW iPL hown hK hP 0 rfl rfl 12 (by decide) (hW _ tw_56) (fun _ h9 => h9) rfl dX1_foldLevel_11 ?_
        refine lv_iload_n hx hb dX1_foldLevel_14 rfl (lv_at hl 2 rfl) ?_
        refine m_row hx hb hK hP 5 2 (2 * i) rfl rfl (by omega) (by decide) rfl dX1_foldLevel_15 ?_
        refine lv_aload_n hx hb dX1_foldLevel_16 rfl (lv_at hl 0 rfl) ?_
        refine va_get (D := D) (ci := 0) (v := .ref (o 5)) (C := RX1) (T := TX1) (N := 14) hx hb hW iPL hown hK hP 0 rfl rfl 12 (by decide) (hW _ tw_56) (fun _ h9 => h9) rfl dX1_foldLevel_17 ?_
        refine lv_iload_n hx hb dX1_foldLevel_20 rfl (lv_at hl 2 rfl) ?_
        refine lv_iconst (v := nI 1) hx hb dX1_foldLevel_21 (by decide) ?_
        refine lv_iadd hx hb dX1_foldLevel_22 ?_
        refine lv_eqi (v := nI (2 * i + 1)) (nI_add (2 * i) 1) ?_
        refine m_row hx hb hK hP 5 2 (2 * i + 1) rfl rfl (by omega) (by decide) rfl dX1_foldLevel_23 ?_
        refine lv_aload_n hx hb dX1_foldLevel_24 rfl (lv_at hl 0 rfl) ?_
        refine va_get (D := D) (ci := 0) (v := .ref (o 5)) (C := RX1) (T := TX1) (N := 14) hx hb hW iPL hown hK hP 0 rfl rfl 12 (by decide) (hW _ tw_56) (fun _ h9 => h9) rfl dX1_foldLevel_25 ?_
        refine lv_iload_n hx hb dX1_foldLevel_28 rfl (lv_at hl 2 rfl) ?_
        refine lv_iconst (v := nI 2) hx hb dX1_foldLevel_29 (by decide) ?_
        refine lv_idiv hx hb dX1_foldLevel_30 (by decide) ?_
        refine lv_eqi (v := nI i) ((pk_div (by omega) (by decide) (by decide)).trans (congrArg nI (by omega))) ?_
        refine m_row hx hb hK hP 5 2 i rfl rfl (by omega) (by decide) rfl dX1_foldLevel_31 ?_
        refine mv_callV (C := RX1) (As := [.ref (ad (47 + (2 * i))), .ref (ad (47 + (2 * i + 1))), .ref (ad (47 + i))]) (rest := []) ⟨hx, hb, hml, hown, hW⟩ (c_nodeInto (47 + (2 * i)) (47 + (2 * i + 1)) (47 + i) (⟨⟨by omega, lenC_row (by omega)⟩, ⟨by omega, lenC_row (by omega)⟩, ⟨by omega, lenC_row (by omega)⟩⟩) ((itr (fun j z => p_node (47 + 2 * j) (47 + (2 * j + 1)) (47 + j) z.2) i (n, mem)).1) ((itr (fun j z => p_node (47 + 2 * j) (47 + (2 * j + 1)) (47 + j) z.2) i (n, mem)).2)) gE_ok (cwV 3 hW (gV tw_257 tw_259 tv_X1_nodeInto tw_1 tw_260) rfl rfl rfl (by decide +kernel) ⟨Nat.le_of_ble_eq_true rfl, Nat.le_of_ble_eq_true rfl⟩) (va_recv hK hP (ci := 0) (q0 := 0) rfl rfl) hP hD hK hS hA hT rfl hl.1 rfl (Nat.le_of_ble_eq_true rfl) dX1_foldLevel_32 ⟨Nat.zero_le _, Nat.zero_le _⟩ (fun H locs hP hD hS => ?_)
        have hP : va_P D vwCl (wC o ad cI cZ cG tl lc wc dc pn (nI (p_node (47 + (2 * i)) (47 + (2 * i + 1)) (47 + i) ((itr (fun j z => p_node (47 + 2 * j) (47 + (2 * j + 1)) (47 + j) z.2) i (n, mem)).2)).1) isw ((p_node (47 + (2 * i)) (47 + (2 * i + 1)) (47 + i) ((itr (fun j z => p_node (47 + 2 * j) (47 + (2 * j + 1)) (47 + j) z.2) i (n, mem)).2)).2)) H := hP
        have hD : va_D A (wC o ad cI cZ cG tl lc wc dc pn (nI (p_node (47 + (2 * i)) (47 + (2 * i + 1)) (47 + i) ((itr (fun j z => p_node (47 + 2 * j) (47 + (2 * j + 1)) (47 + j) z.2) i (n, mem)).2)).1) isw ((p_node (47 + (2 * i)) (47 + (2 * i + 1)) (47 + i) ((itr (fun j z => p_node (47 + 2 * j) (47 + (2 * j + 1)) (47 + j) z.2) i (n, mem)).2)).2)) := hD
        have hP : va_P D vwCl (wC o ad cI cZ cG tl lc wc dc pn (nI (itr (fun j z => p_node (47 + 2 * j) (47 + (2 * j + 1)) (47 + j) z.2) (i + 1) (n, mem)).1) isw ((itr (fun j z => p_node (47 + 2 * j) (47 + (2 * j + 1)) (47 + j) z.2) (i + 1) (n, mem)).2)) H := by rw [itr_s]; exact hP
        have hD : va_D A (wC o ad cI cZ cG tl lc wc dc pn (nI (itr (fun j z => p_node (47 + 2 * j) (47 + (2 * j + 1)) (47 + j) z.2) (i + 1) (n, mem)).1) isw ((itr (fun j z => p_node (47 + 2 * j) (47 + (2 * j + 1)) (47 + j) z.2) (i + 1) (n, mem)).2)) := by rw [itr_s]; exact hD
        refine lv_iinc (v := nI (2 * (i + 1))) (lv' := [(2, .int (nI (2 * (i + 1)))), (0, .ref (o 0)), (1, .int (nI q))]) hx hb dX1_foldLevel_35 hl (k := 2) rfl (nI_add (2 * i) 2) (by decide) rfl (fun ls hl => ?_)
        refine lv_goto (tgt := 2) hx hb dX1_foldLevel_38 (by decide) ?_
        exact ih (i + 1) H locs ls (by omega) hP hD hS (lv_sub hl [1, 2, 0] rfl)
  refine lv_iconst (v := nI 0) hx hb dX1_foldLevel_0 (by decide) ?_
  refine lv_istore_n (lv' := [(2, .int (nI 0)), (0, .ref (o 0)), (1, .int (nI q))]) hx hb dX1_foldLevel_1 rfl hl (by decide) rfl (fun ls hl => ?_)
  exact loop (q / 2) 0 s.heap [] ls (by omega) hP hD hS (lv_sub hl [1, 2, 0] rfl)
