set_option maxHeartbeats 4000000 in
set_option maxRecDepth 100000 in
/-- feed(b, v) -/
theorem c_feed {l : Launch} {D : va_G} {o ad : Nat → Nat} {cI cZ cG : ClassId} {tl lc wc dc pn : Int32} {isw : Nat → Int32} (hl0 : l.stackTraces = false) (t : Nat) (ht : t ≤ 200) (v sl : Int32) (b : Int64) (mem : Nat → Nat → Int32) : MTi l gE yX1_feed (.code yX1_feed cX1_feed 5 (some .int) :: tW) ({ frames := 6, cells := 1, slots := 6, locals := 100 }) D vwCl (tC cI cZ cG) [.ref (o 0), .long b, .int v] (wC o ad cI cZ cG (nI t) lc wc dc pn sl isw mem) (wC o ad cI cZ cG (nI t + v) lc wc dc pn sl isw (p_feed b t (tn v) (tn v) mem)) (nI t + v) (x_feed (nI t) v) 1 6 := by
  refine MTi.ofW (by decide +kernel) rfl (Nat.le_of_ble_eq_true rfl) ?_
  intro p e s m below meth c A ls hx hb hr hts hown hlk hml hA hP hK hD hT hl hno
  have hS : va_S A s.heap s.heap [] := va_S.rf
  have hown : s.vm.findClass RX1 = some m.cls := hown
  have hW : ∀ w ∈ tW, w.before _ s = true := fun w h => hts w (List.mem_cons_of_mem _ h)
  have hl : lv_has ls 5 [(0, .ref (o 0)), (1, .long b), (3, .int v)] := hl
  refine lv_iload_n hx hb dX1_feed_0 rfl (lv_at hl 2 rfl) ?_
  refine lv_iconst (v := nI 1) hx hb dX1_feed_1 (by decide) ?_
  refine lv_icmp_lt (tgt := 11) hx hb dX1_feed_2 (by decide) (fun ha => ?_) (fun ha => ?_)
  · exact tr_throw (cls := "java/lang/IllegalArgumentException") (tx := "n is not 1 .. 8") (names := ["java/lang/RuntimeException", "java/lang/Exception"]) (rest := []) hx hb (hml.trans hl.1.symm) hl0 hown (by decide +kernel) (by decide +kernel) (own_ok own_IAE hW hT) (hW _ tw_97) (hW _ tw_7) (hT.2.2.2 (.stringRef "ProofLeaves" 62 "n is not 1 .. 8") (by decide +kernel)) hno hlk dX1_feed_11 dX1_feed_14 dX1_feed_15 dX1_feed_17 dX1_feed_20 (Nat.le_of_ble_eq_true rfl) (Nat.le_of_ble_eq_true rfl) (Nat.le_of_ble_eq_true rfl) (Nat.le_of_ble_eq_true rfl) (Nat.le_of_ble_eq_true rfl) (Nat.le_of_ble_eq_true rfl) (fun z t h1 h2 => Or.inr ⟨_, _, rfl, if_pos (Or.inl ha), h1, h2⟩)
  · refine lv_iload_n hx hb dX1_feed_5 rfl (lv_at hl 2 rfl) ?_
    refine lv_bipush (v := nI 8) hx hb dX1_feed_6 (by decide) ?_
    refine lv_icmp_le (tgt := 21) hx hb dX1_feed_8 (by decide) (fun hc => ?_) (fun hc => ?_)
    · refine lv_aload_n hx hb dX1_feed_21 rfl (lv_at hl 0 rfl) ?_
      refine va_get (D := D) (ci := 0) (v := .int (nI t)) (C := RX1) (T := TX1) (N := 14) hx hb hW iPL hown hK hP 0 rfl rfl 2 (by decide) (hW _ tw_46) (fun _ h9 => h9) rfl dX1_feed_22 ?_
      refine lv_iload_n hx hb dX1_feed_25 rfl (lv_at hl 2 rfl) ?_
      refine lv_iadd hx hb dX1_feed_26 ?_
      refine lv_sipush (v := nI 200) hx hb dX1_feed_27 (by decide) ?_
      refine lv_icmp_le (tgt := 43) hx hb dX1_feed_30 (by decide) (fun hd => ?_) (fun hd => ?_)
      · have hg : x_feed (nI t) v = none := (if_neg (fun h => h.elim ha (fun h1 => h1 hc))).trans (if_pos hd)
        obtain ⟨q, q1, q8, q2, rfl⟩ := x_feed_none ht hg
        have eq9 : tn (nI q) = q := nI_clamp (by omega)
        refine lv_iload_n hx hb dX1_feed_43 rfl (lv_at hl 2 rfl) ?_
        refine lv_iconst (v := nI 1) hx hb dX1_feed_44 (by decide) ?_
        refine lv_isub hx hb dX1_feed_45 ?_
        refine lv_eqi (v := nI (q - 1)) (pk_sub (by omega)) ?_
        refine lv_istore (lv' := [(4, .int (nI (q - 1))), (0, .ref (o 0)), (1, .long b), (3, .int (nI q))]) hx hb dX1_feed_46 hl (by decide) rfl (fun ls hl => ?_)
        have loop : ∀ (k i : Nat) (H : Heap) (locs : List Loc) (ls : Array Slot), i + k = q → va_P D vwCl (wC o ad cI cZ cG (nI (t + i)) lc wc dc pn sl isw (p_feed b t q i mem)) H → va_D A (wC o ad cI cZ cG (nI (t + i)) lc wc dc pn sl isw (p_feed b t q i mem)) → va_S A s.heap H locs → lv_has ls 5 [(0, .ref (o 0)), (1, .long b), (3, .int (nI q)), (4, .int (fdC q i))] → W p l e ({ frames := 6, cells := 1, slots := 6, locals := 100 }) s m ([.ref (o 0), .long b, .int (nI q)] : List Value).toArray below meth c H locs 0 0 (MQT below (xQTi D vwCl (wC o ad cI cZ cG (nI t + (nI q)) lc wc dc pn sl isw (p_feed b t (tn (nI q)) (tn (nI q)) mem)) (nI t + (nI q)) A (x_feed (nI t) (nI q))) ([.ref (o 0), .long b, .int (nI q)] : List Value).toArray s 1 6 A) (F0 m 48 ls []) := by
          intro k
          induction k with
          | zero =>
            intro i H locs ls hk hP hD hS hl
            have hk : i = q := by omega
            refine lv_iload hx hb dX1_feed_48 (lv_at hl 3 rfl) ?_
            refine lv_if_lt (tgt := 90) hx hb dX1_feed_50 (by decide) (fun hn => ?_) (fun hn => ?_)
            · refine lv_aload_n hx hb dX1_feed_90 rfl (lv_at hl 0 rfl) ?_
              refine va_get (D := D) (ci := 0) (v := .int (nI (t + i))) (C := RX1) (T := TX1) (N := 14) hx hb hW iPL hown hK hP 0 rfl rfl 2 (by decide) (hW _ tw_46) (fun _ h9 => h9) rfl dX1_feed_91 ?_
              rw [hk] at hP hD
              have hP : va_P D vwCl (wC o ad cI cZ cG (nI t + (nI q)) lc wc dc pn sl isw (p_feed b t (tn (nI q)) (tn (nI q)) mem)) H := by rw [eq9, nI_add]; exact hP
              have hD : va_D A (wC o ad cI cZ cG (nI t + (nI q)) lc wc dc pn sl isw (p_feed b t (tn (nI q)) (tn (nI q)) mem)) := by rw [eq9, nI_add]; exact hD
              exact ti_ret hx hb hr rfl hlk (hg) hS hP hD (by rw [hk, nI_add]) dX1_feed_94 (Nat.le_of_ble_eq_true rfl) (Nat.le_of_ble_eq_true rfl)
            · exact absurd (fdC_neg q i (by omega) (by omega)) hn
          | succ k ih =>
            intro i H locs ls hk hP hD hS hl
            have hi8 : i < q := by omega
            refine lv_iload hx hb dX1_feed_48 (lv_at hl 3 rfl) ?_
            refine lv_if_lt (tgt := 90) hx hb dX1_feed_50 (by decide) (fun hn => ?_) (fun hn => ?_)
            · exact absurd hn (by rw [fdC_pos q i hi8]; exact nI_pos (by omega))
            · rw [fdC_pos q i hi8] at hl
              refine lv_aload_n hx hb dX1_feed_53 rfl (lv_at hl 0 rfl) ?_
              refine va_get (D := D) (ci := 0) (v := .ref (ad 0)) (C := RX1) (T := TX1) (N := 14) hx hb hW iPL hown hK hP 0 rfl rfl 1 (by decide) (hW _ tw_45) (fun _ h9 => h9) rfl dX1_feed_54 ?_
              refine lv_aload_n hx hb dX1_feed_57 rfl (lv_at hl 0 rfl) ?_
              refine va_get (D := D) (ci := 0) (v := .int (nI (t + i))) (C := RX1) (T := TX1) (N := 14) hx hb hW iPL hown hK hP 0 rfl rfl 2 (by decide) (hW _ tw_46) (fun _ h9 => h9) rfl dX1_feed_58 ?_
              refine lv_lload_n hx hb dX1_feed_61 rfl (lv_at hl 1 rfl) ?_
              refine lv_bipush (v := nI 8) hx hb dX1_feed_62 (by decide) ?_
              refine lv_iload hx hb dX1_feed_64 (lv_at hl 3 rfl) ?_
              refine lv_imul hx hb dX1_feed_66 ?_
              refine lv_lushr (v := lush b ((nI 8) * (nI (q - 1 - i)))) hx hb dX1_feed_67 rfl ?_
              refine lv_l2i (v := (lush b ((nI 8) * (nI (q - 1 - i)))).toInt32) hx hb dX1_feed_68 rfl ?_
              refine lv_sipush (v := nI 255) hx hb dX1_feed_69 (by decide) ?_
              refine lv_iand hx hb dX1_feed_72 ?_
              refine lv_eqi (v := fdB b q i) (rfl) ?_
              refine m_st (X := wX o ad cZ cG (nI (t + i)) lc wc dc pn sl isw) hx hb hK hP hD hS 0 0 (t + i) rfl (by decide) (show (t + i) < 200 by omega) (by decide) dX1_feed_73 (fun H locs hP hD hS => ?_)
              have hP : va_P D vwCl (wC o ad cI cZ cG (nI (t + i)) lc wc dc pn sl isw (va_up (p_feed b t q i mem) 0 (upd ((p_feed b t q i mem) 0) (t + i) (fdB b q i)))) H := hP
              have hD : va_D A (wC o ad cI cZ cG (nI (t + i)) lc wc dc pn sl isw (va_up (p_feed b t q i mem) 0 (upd ((p_feed b t q i mem) 0) (t + i) (fdB b q i)))) := hD
              have hP : va_P D vwCl (wC o ad cI cZ cG (nI (t + i)) lc wc dc pn sl isw (p_feed b t q (i + 1) mem)) H := by rw [p_feed_s]; exact hP
              have hD : va_D A (wC o ad cI cZ cG (nI (t + i)) lc wc dc pn sl isw (p_feed b t q (i + 1) mem)) := by rw [p_feed_s]; exact hD
              refine lv_aload_n hx hb dX1_feed_74 rfl (lv_at hl 0 rfl) ?_
              refine lv_dup hx hb dX1_feed_75 rfl ?_
              refine va_get (D := D) (ci := 0) (v := .int (nI (t + i))) (C := RX1) (T := TX1) (N := 14) hx hb hW iPL hown hK hP 0 rfl rfl 2 (by decide) (hW _ tw_46) (fun _ h9 => h9) rfl dX1_feed_76 ?_
              refine lv_iconst (v := nI 1) hx hb dX1_feed_79 (by decide) ?_
              refine lv_iadd hx hb dX1_feed_80 ?_
              refine lv_eqi (v := nI (t + (i + 1))) (nI_add (t + i) 1) ?_
              refine va_put (D := D) (ci := 0) (v := .int (nI (t + (i + 1)))) (ty := .int) (C := RX1) (T := TX1) (N := 14) hx hb hW iPL tyX1 tyX1_ok nmX1 hown hK hP hD hS 0 rfl rfl 2 (by decide) (hW _ tw_46) (fun _ h9 => h9) rfl (by decide +kernel) rfl rfl (Nat.le_of_ble_eq_true rfl) dX1_feed_81 (fun H locs hP hD hS => ?_)
              have hP : va_P D vwCl (wC o ad cI cZ cG (nI (t + (i + 1))) lc wc dc pn sl isw (p_feed b t q (i + 1) mem)) H := hP
              have hD : va_D A (wC o ad cI cZ cG (nI (t + (i + 1))) lc wc dc pn sl isw (p_feed b t q (i + 1) mem)) := hD
              refine lv_iinc (v := fdC q (i + 1)) (lv' := [(4, .int (fdC q (i + 1))), (0, .ref (o 0)), (1, .long b), (3, .int (nI q))]) hx hb dX1_feed_84 hl (k := 3) rfl (fdC_s q (by omega) i hi8) (by decide) rfl (fun ls hl => ?_)
              refine lv_goto (tgt := 48) hx hb dX1_feed_87 (by decide) ?_
              exact ih (i + 1) H locs ls (by omega) hP hD hS (lv_sub hl [1, 2, 3, 0] rfl)
        exact loop q 0 s.heap [] ls (by omega) hP hD hS (lv_sub hl [1, 2, 3, 0] (by rw [fdC_0]; rfl))
      · exact tr_throw (cls := "java/lang/UnsupportedOperationException") (tx := "the tape would have more than 200 bytes") (names := ["java/lang/RuntimeException", "java/lang/Exception"]) (rest := []) hx hb (hml.trans hl.1.symm) hl0 hown (by decide +kernel) (by decide +kernel) (own_ok own_UOE hW hT) (hW _ tw_166) (hW _ tw_8) (hT.2.2.2 (.stringRef "ProofLeaves" 69 "the tape would have more than 200 bytes") (by decide +kernel)) hno hlk dX1_feed_33 dX1_feed_36 dX1_feed_37 dX1_feed_39 dX1_feed_42 (Nat.le_of_ble_eq_true rfl) (Nat.le_of_ble_eq_true rfl) (Nat.le_of_ble_eq_true rfl) (Nat.le_of_ble_eq_true rfl) (Nat.le_of_ble_eq_true rfl) (Nat.le_of_ble_eq_true rfl) (fun z t h1 h2 => Or.inr ⟨_, _, rfl, (if_neg (fun h => h.elim ha (fun h1 => h1 hc))).trans (if_neg hd), h1, h2⟩)
    · exact tr_throw (cls := "java/lang/IllegalArgumentException") (tx := "n is not 1 .. 8") (names := ["java/lang/RuntimeException", "java/lang/Exception"]) (rest := []) hx hb (hml.trans hl.1.symm) hl0 hown (by decide +kernel) (by decide +kernel) (own_ok own_IAE hW hT) (hW _ tw_97) (hW _ tw_7) (hT.2.2.2 (.stringRef "ProofLeaves" 62 "n is not 1 .. 8") (by decide +kernel)) hno hlk dX1_feed_11 dX1_feed_14 dX1_feed_15 dX1_feed_17 dX1_feed_20 (Nat.le_of_ble_eq_true rfl) (Nat.le_of_ble_eq_true rfl) (Nat.le_of_ble_eq_true rfl) (Nat.le_of_ble_eq_true rfl) (Nat.le_of_ble_eq_true rfl) (Nat.le_of_ble_eq_true rfl) (fun z t h1 h2 => Or.inr ⟨_, _, rfl, if_pos (Or.inr hc), h1, h2⟩)
set_option maxHeartbeats 4000000 in
set_option maxRecDepth 100000 in
/-- leaf() -/
theorem c_leaf {l : Launch} {D : va_G} {o ad : Nat → Nat} {cI cZ cG : ClassId} {tl lc wc dc pn : Int32} {isw : Nat → Int32} (hl0 : l.stackTraces = false) (q t n : Nat) (hq : q ≤ 24) (ht : t ≤ 200) (mem : Nat → Nat → Int32) : MTi l gE yX1_leaf (.code yX1_leaf cX1_leaf 1 (some .int) :: tW) ({ frames := 6, cells := 1, slots := 6, locals := 200 }) D vwCl (tC cI cZ cG) [.ref (o 0)] (wC o ad cI cZ cG (nI t) (nI q) wc dc pn (nI n) isw mem) (wC o ad cI cZ cG (nI 0) (nI (q + 1)) wc dc pn (nI (p_leaf q t (n, mem)).1) isw (p_leaf q t (n, mem)).2) (nI q) (x_if (¬ nI q < nI 24) nUOE) 1 6 := by
  refine MTi.ofW (by decide +kernel) rfl (Nat.le_of_ble_eq_true rfl) ?_
  intro p e s m below meth c A ls hx hb hr hts hown hlk hml hA hP hK hD hT hl hno
  have hS : va_S A s.heap s.heap [] := va_S.rf
  have hown : s.vm.findClass RX1 = some m.cls := hown
  have hW : ∀ w ∈ tW, w.before _ s = true := fun w h => hts w (List.mem_cons_of_mem _ h)
  have hl : lv_has ls 1 [(0, .ref (o 0))] := hl
  refine lv_aload_n hx hb dX1_leaf_0 rfl (lv_at hl 0 rfl) ?_
  refine va_get (D := D) (ci := 0) (v := .int (nI q)) (C := RX1) (T := TX1) (N := 14) hx hb hW iPL hown hK hP 0 rfl rfl 5 (by decide) (hW _ tw_49) (fun _ h9 => h9) rfl dX1_leaf_1 ?_
  refine lv_bipush (v := nI 24) hx hb dX1_leaf_4 (by decide) ?_
  refine lv_icmp_lt (tgt := 19) hx hb dX1_leaf_6 (by decide) (fun ha => ?_) (fun ha => ?_)
  · have hq2 : q < 24 := (nI_ltI (by omega) (by decide)).mp ha
    have e1 : (P_take (nI 0) (0, mem)).1 = 1 := P_take_fst _ _ (show 0 < 256 by decide)
    have e2 : (P_first 0 t (P_take (nI 0) (0, mem))).1 = 1 + t := by rw [P_first_fst 0 t _ (by omega), e1]
    refine lv_aload_n hx hb dX1_leaf_19 rfl (lv_at hl 0 rfl) ?_
    refine va_get (D := D) (ci := 0) (v := .ref (o 1)) (C := RX1) (T := TX1) (N := 14) hx hb hW iPL hown hK hP 0 rfl rfl 0 (by decide) (hW _ tw_44) (fun _ h9 => h9) rfl dX1_leaf_20 ?_
    refine mv_callV (C := RX0) (As := []) (rest := []) ⟨hx, hb, hml, hown, hW⟩ (c_begin n mem) gE_ok (cwV 0 hW (gV tw_190 tw_191 tw_192 tw_2 tw_193) rfl rfl rfl (by decide +kernel) ⟨Nat.le_of_ble_eq_true rfl, Nat.le_of_ble_eq_true rfl⟩) (va_recv hK hP (ci := 1) (q0 := 1) rfl rfl) hP hD hK hS hA hT rfl hl.1 rfl (Nat.le_of_ble_eq_true rfl) dX1_leaf_23 ⟨Nat.le_of_ble_eq_true rfl, Nat.le_of_ble_eq_true rfl⟩ (fun H locs hP hD hS => ?_)
    have hP : va_P D vwCl (wC o ad cI cZ cG (nI t) (nI q) wc dc pn (nI 0) isw mem) H := hP
    have hD : va_D A (wC o ad cI cZ cG (nI t) (nI q) wc dc pn (nI 0) isw mem) := hD
    refine lv_aload_n hx hb dX1_leaf_26 rfl (lv_at hl 0 rfl) ?_
    refine va_get (D := D) (ci := 0) (v := .ref (o 1)) (C := RX1) (T := TX1) (N := 14) hx hb hW iPL hown hK hP 0 rfl rfl 0 (by decide) (hW _ tw_44) (fun _ h9 => h9) rfl dX1_leaf_27 ?_
    refine lv_iconst (v := nI 0) hx hb dX1_leaf_30 (by decide) ?_
    refine mv_callV (C := RX0) (As := [.int (nI 0)]) (rest := []) ⟨hx, hb, hml, hown, hW⟩ (C_take 0 (by decide) mem (nI 0)) gE_ok (cwV 1 hW (gV tw_194 tw_195 tw_196 tw_2 tw_197) rfl rfl rfl (by decide +kernel) ⟨Nat.le_of_ble_eq_true rfl, Nat.le_of_ble_eq_true rfl⟩) (va_recv hK hP (ci := 1) (q0 := 1) rfl rfl) hP hD hK hS hA hT rfl hl.1 rfl (Nat.le_of_ble_eq_true rfl) dX1_leaf_31 ⟨Nat.le_of_ble_eq_true rfl, Nat.le_of_ble_eq_true rfl⟩ (fun H locs hP hD hS => ?_)
    have hP : va_P D vwCl (wC o ad cI cZ cG (nI t) (nI q) wc dc pn (nI (P_take (nI 0) (0, mem)).1) isw ((P_take (nI 0) (0, mem)).2)) H := hP
    have hD : va_D A (wC o ad cI cZ cG (nI t) (nI q) wc dc pn (nI (P_take (nI 0) (0, mem)).1) isw ((P_take (nI 0) (0, mem)).2)) := hD
    refine lv_aload_n hx hb dX1_leaf_34 rfl (lv_at hl 0 rfl) ?_
    refine va_get (D := D) (ci := 0) (v := .ref (o 1)) (C := RX1) (T := TX1) (N := 14) hx hb hW iPL hown hK hP 0 rfl rfl 0 (by decide) (hW _ tw_44) (fun _ h9 => h9) rfl dX1_leaf_35 ?_
    refine lv_aload_n hx hb dX1_leaf_38 rfl (lv_at hl 0 rfl) ?_
    refine va_get (D := D) (ci := 0) (v := .ref (ad 0)) (C := RX1) (T := TX1) (N := 14) hx hb hW iPL hown hK hP 0 rfl rfl 1 (by decide) (hW _ tw_45) (fun _ h9 => h9) rfl dX1_leaf_39 ?_
    refine lv_aload_n hx hb dX1_leaf_42 rfl (lv_at hl 0 rfl) ?_
    refine va_get (D := D) (ci := 0) (v := .int (nI t)) (C := RX1) (T := TX1) (N := 14) hx hb hW iPL hown hK hP 0 rfl rfl 2 (by decide) (hW _ tw_46) (fun _ h9 => h9) rfl dX1_leaf_43 ?_
    refine mv_callV (C := RX0) (As := [.ref (ad 0), .int (nI t)]) (rest := []) ⟨hx, hb, hml, hown, hW⟩ (C_takeFirst ((P_take (nI 0) (0, mem)).1) t 0 (by rw [e1]; decide) (ht) (by decide) ((P_take (nI 0) (0, mem)).2)) gE_ok (cwV 2 hW (gV tw_198 tw_199 tw_200 tw_2 tw_201) rfl rfl rfl (by decide +kernel) ⟨Nat.le_of_ble_eq_true rfl, Nat.le_of_ble_eq_true rfl⟩) (va_recv hK hP (ci := 1) (q0 := 1) rfl rfl) hP hD hK hS hA hT rfl hl.1 rfl (Nat.le_of_ble_eq_true rfl) dX1_leaf_46 ⟨Nat.le_of_ble_eq_true rfl, Nat.le_of_ble_eq_true rfl⟩ (fun H locs hP hD hS => ?_)
    have hP : va_P D vwCl (wC o ad cI cZ cG (nI t) (nI q) wc dc pn (nI (P_first 0 t (P_take (nI 0) (0, mem))).1) isw ((P_first 0 t (P_take (nI 0) (0, mem))).2)) H := hP
    have hD : va_D A (wC o ad cI cZ cG (nI t) (nI q) wc dc pn (nI (P_first 0 t (P_take (nI 0) (0, mem))).1) isw ((P_first 0 t (P_take (nI 0) (0, mem))).2)) := hD
    refine lv_aload_n hx hb dX1_leaf_49 rfl (lv_at hl 0 rfl) ?_
    refine va_get (D := D) (ci := 0) (v := .ref (o 1)) (C := RX1) (T := TX1) (N := 14) hx hb hW iPL hown hK hP 0 rfl rfl 0 (by decide) (hW _ tw_44) (fun _ h9 => h9) rfl dX1_leaf_50 ?_
    refine lv_aload_n hx hb dX1_leaf_53 rfl (lv_at hl 0 rfl) ?_
    refine va_get (D := D) (ci := 0) (v := .ref (o 2)) (C := RX1) (T := TX1) (N := 14) hx hb hW iPL hown hK hP 0 rfl rfl 3 (by decide) (hW _ tw_47) (fun _ h9 => h9) rfl dX1_leaf_54 ?_
    refine lv_aload_n hx hb dX1_leaf_57 rfl (lv_at hl 0 rfl) ?_
    refine va_get (D := D) (ci := 0) (v := .int (nI q)) (C := RX1) (T := TX1) (N := 14) hx hb hW iPL hown hK hP 0 rfl rfl 5 (by decide) (hW _ tw_49) (fun _ h9 => h9) rfl dX1_leaf_58 ?_
    refine m_row hx hb hK hP 2 2 q rfl rfl (by omega) (by decide) rfl dX1_leaf_61 ?_
    refine mv_callV (C := RX0) (As := [.ref (ad (6 + q))]) (rest := []) ⟨hx, hb, hml, hown, hW⟩ (C_finishInto ((P_first 0 t (P_take (nI 0) (0, mem))).1) (6 + q) (by rw [e2]; omega) (by omega) (lenC_row (by omega)) ((P_first 0 t (P_take (nI 0) (0, mem))).2)) gE_ok (cwV 1 hW (gV tw_203 tw_204 tw_205 tw_2 tw_206) rfl rfl rfl (by decide +kernel) ⟨Nat.le_of_ble_eq_true rfl, Nat.le_of_ble_eq_true rfl⟩) (va_recv hK hP (ci := 1) (q0 := 1) rfl rfl) hP hD hK hS hA hT rfl hl.1 rfl (Nat.le_of_ble_eq_true rfl) dX1_leaf_62 ⟨Nat.le_of_ble_eq_true rfl, Nat.le_of_ble_eq_true rfl⟩ (fun H locs hP hD hS => ?_)
    have hP : va_P D vwCl (wC o ad cI cZ cG (nI t) (nI q) wc dc pn (nI (P_fin (6 + q) (P_first 0 t (P_take (nI 0) (0, mem)))).1) isw ((P_fin (6 + q) (P_first 0 t (P_take (nI 0) (0, mem)))).2)) H := hP
    have hD : va_D A (wC o ad cI cZ cG (nI t) (nI q) wc dc pn (nI (P_fin (6 + q) (P_first 0 t (P_take (nI 0) (0, mem)))).1) isw ((P_fin (6 + q) (P_first 0 t (P_take (nI 0) (0, mem)))).2)) := hD
    refine lv_aload_n hx hb dX1_leaf_65 rfl (lv_at hl 0 rfl) ?_
    refine lv_iconst (v := nI 0) hx hb dX1_leaf_66 (by decide) ?_
    refine va_put (D := D) (ci := 0) (v := .int (nI 0)) (ty := .int) (C := RX1) (T := TX1) (N := 14) hx hb hW iPL tyX1 tyX1_ok nmX1 hown hK hP hD hS 0 rfl rfl 2 (by decide) (hW _ tw_46) (fun _ h9 => h9) rfl (by decide +kernel) rfl rfl (Nat.le_of_ble_eq_true rfl) dX1_leaf_67 (fun H locs hP hD hS => ?_)
    have hP : va_P D vwCl (wC o ad cI cZ cG (nI 0) (nI q) wc dc pn (nI (P_fin (6 + q) (P_first 0 t (P_take (nI 0) (0, mem)))).1) isw ((P_fin (6 + q) (P_first 0 t (P_take (nI 0) (0, mem)))).2)) H := hP
    have hD : va_D A (wC o ad cI cZ cG (nI 0) (nI q) wc dc pn (nI (P_fin (6 + q) (P_first 0 t (P_take (nI 0) (0, mem)))).1) isw ((P_fin (6 + q) (P_first 0 t (P_take (nI 0) (0, mem)))).2)) := hD
    refine lv_aload_n hx hb dX1_leaf_70 rfl (lv_at hl 0 rfl) ?_
    refine lv_dup hx hb dX1_leaf_71 rfl ?_
    refine va_get (D := D) (ci := 0) (v := .int (nI q)) (C := RX1) (T := TX1) (N := 14) hx hb hW iPL hown hK hP 0 rfl rfl 5 (by decide) (hW _ tw_49) (fun _ h9 => h9) rfl dX1_leaf_72 ?_
    refine lv_iconst (v := nI 1) hx hb dX1_leaf_75 (by decide) ?_
    refine lv_iadd hx hb dX1_leaf_76 ?_
    refine lv_eqi (v := nI (q + 1)) (nI_add q 1) ?_
    refine va_put (D := D) (ci := 0) (v := .int (nI (q + 1))) (ty := .int) (C := RX1) (T := TX1) (N := 14) hx hb hW iPL tyX1 tyX1_ok nmX1 hown hK hP hD hS 0 rfl rfl 5 (by decide) (hW _ tw_49) (fun _ h9 => h9) rfl (by decide +kernel) rfl rfl (Nat.le_of_ble_eq_true rfl) dX1_leaf_77 (fun H locs hP hD hS => ?_)
    have hP : va_P D vwCl (wC o ad cI cZ cG (nI 0) (nI (q + 1)) wc dc pn (nI (P_fin (6 + q) (P_first 0 t (P_take (nI 0) (0, mem)))).1) isw ((P_fin (6 + q) (P_first 0 t (P_take (nI 0) (0, mem)))).2)) H := hP
    have hD : va_D A (wC o ad cI cZ cG (nI 0) (nI (q + 1)) wc dc pn (nI (P_fin (6 + q) (P_first 0 t (P_take (nI 0) (0, mem)))).1) isw ((P_fin (6 + q) (P_first 0 t (P_take (nI 0) (0, mem)))).2)) := hD
    refine lv_aload_n hx hb dX1_leaf_80 rfl (lv_at hl 0 rfl) ?_
    refine va_get (D := D) (ci := 0) (v := .int (nI (q + 1))) (C := RX1) (T := TX1) (N := 14) hx hb hW iPL hown hK hP 0 rfl rfl 5 (by decide) (hW _ tw_49) (fun _ h9 => h9) rfl dX1_leaf_81 ?_
    refine lv_iconst (v := nI 1) hx hb dX1_leaf_84 (by decide) ?_
    refine lv_isub hx hb dX1_leaf_85 ?_
    refine lv_eqi (v := nI q) (nI_prd q) ?_
    have hP : va_P D vwCl (wC o ad cI cZ cG (nI 0) (nI (q + 1)) wc dc pn (nI (p_leaf q t (n, mem)).1) isw (p_leaf q t (n, mem)).2) H := by rw [p_leaf_e]; exact hP
    have hD : va_D A (wC o ad cI cZ cG (nI 0) (nI (q + 1)) wc dc pn (nI (p_leaf q t (n, mem)).1) isw (p_leaf q t (n, mem)).2) := by rw [p_leaf_e]; exact hD
    exact ti_ret hx hb hr rfl hlk (x_if_f (fun h => h ha)) hS hP hD (rfl) dX1_leaf_86 (Nat.le_of_ble_eq_true rfl) (Nat.le_of_ble_eq_true rfl)
  · exact tr_throw (cls := "java/lang/UnsupportedOperationException") (tx := "there are 24 leaves") (names := ["java/lang/RuntimeException", "java/lang/Exception"]) (rest := []) hx hb (hml.trans hl.1.symm) hl0 hown (by decide +kernel) (by decide +kernel) (own_ok own_UOE hW hT) (hW _ tw_166) (hW _ tw_8) (hT.2.2.2 (.stringRef "ProofLeaves" 72 "there are 24 leaves") (by decide +kernel)) hno hlk dX1_leaf_9 dX1_leaf_12 dX1_leaf_13 dX1_leaf_15 dX1_leaf_18 (Nat.le_of_ble_eq_true rfl) (Nat.le_of_ble_eq_true rfl) (Nat.le_of_ble_eq_true rfl) (Nat.le_of_ble_eq_true rfl) (Nat.le_of_ble_eq_true rfl) (Nat.le_of_ble_eq_true rfl) (fun z t h1 h2 => Or.inr ⟨_, _, rfl, x_if_t ha, h1, h2⟩)
set_option maxHeartbeats 4000000 in
set_option maxRecDepth 100000 in
/-- close() -/
theorem c_close {l : Launch} {D : va_G} {o ad : Nat → Nat} {cI cZ cG : ClassId} {tl lc wc dc pn : Int32} {isw : Nat → Int32} (hl0 : l.stackTraces = false) (q y n : Nat) (hq : q ≤ 24) (hy : y ≤ 12) (mem : Nat → Nat → Int32) : MTi l gE yX1_close (.code yX1_close cX1_close 1 (some .int) :: tW) ({ frames := 7, cells := 1, slots := 6, locals := 260 }) D vwCl (tC cI cZ cG) [.ref (o 0)] (wC o ad cI cZ cG tl (nI q) wc (nI y) pn (nI n) isw mem) (wC o ad cI cZ cG tl (nI q) wc (nI (y + 1)) pn (nI (p_close q y (n, mem)).1) isw (p_close q y (n, mem)).2) (nI y) (x_if (¬ nI y < nI 12) nUOE) 1 6 := by
  refine MTi.ofW (by decide +kernel) rfl (Nat.le_of_ble_eq_true rfl) ?_
  intro p e s m below meth c A ls hx hb hr hts hown hlk hml hA hP hK hD hT hl hno
  have hS : va_S A s.heap s.heap [] := va_S.rf
  have hown : s.vm.findClass RX1 = some m.cls := hown
  have hW : ∀ w ∈ tW, w.before _ s = true := fun w h => hts w (List.mem_cons_of_mem _ h)
  have hl : lv_has ls 1 [(0, .ref (o 0))] := hl
  refine lv_aload_n hx hb dX1_close_0 rfl (lv_at hl 0 rfl) ?_
  refine va_get (D := D) (ci := 0) (v := .int (nI y)) (C := RX1) (T := TX1) (N := 14) hx hb hW iPL hown hK hP 0 rfl rfl 9 (by decide) (hW _ tw_53) (fun _ h9 => h9) rfl dX1_close_1 ?_
  refine lv_bipush (v := nI 12) hx hb dX1_close_4 (by decide) ?_
  refine lv_icmp_lt (tgt := 19) hx hb dX1_close_6 (by decide) (fun ha => ?_) (fun ha => ?_)
  · have hy2 : y < 12 := (nI_ltI (by omega) (by decide)).mp ha
    refine lv_aload_n hx hb dX1_close_19 rfl (lv_at hl 0 rfl) ?_
    refine lv_aload_n hx hb dX1_close_20 rfl (lv_at hl 0 rfl) ?_
    refine va_get (D := D) (ci := 0) (v := .int (nI q)) (C := RX1) (T := TX1) (N := 14) hx hb hW iPL hown hK hP 0 rfl rfl 5 (by decide) (hW _ tw_49) (fun _ h9 => h9) rfl dX1_close_21 ?_
    refine lv_aload_n hx hb dX1_close_24 rfl (lv_at hl 0 rfl) ?_
    refine va_get (D := D) (ci := 0) (v := .ref (o 3)) (C := RX1) (T := TX1) (N := 14) hx hb hW iPL hown hK hP 0 rfl rfl 7 (by decide) (hW _ tw_51) (fun _ h9 => h9) rfl dX1_close_25 ?_
    refine lv_aload_n hx hb dX1_close_28 rfl (lv_at hl 0 rfl) ?_
    refine va_get (D := D) (ci := 0) (v := .int (nI y)) (C := RX1) (T := TX1) (N := 14) hx hb hW iPL hown hK hP 0 rfl rfl 9 (by decide) (hW _ tw_53) (fun _ h9 => h9) rfl dX1_close_29 ?_
    refine m_row hx hb hK hP 3 2 y rfl rfl (by omega) (by decide) rfl dX1_close_32 ?_
    refine mv_callV (C := RX1) (As := [.int (nI q), .ref (ad (30 + y))]) (rest := []) ⟨hx, hb, hml, hown, hW⟩ (c_treeInto q (30 + y) (by omega) (by omega) (lenC_row (by omega)) n mem) gE_ok (cwV 2 hW (gV tw_241 tw_243 tv_X1_treeInto tw_1 tw_244) rfl rfl rfl (by decide +kernel) ⟨Nat.le_of_ble_eq_true rfl, Nat.le_of_ble_eq_true rfl⟩) (va_recv hK hP (ci := 0) (q0 := 0) rfl rfl) hP hD hK hS hA hT rfl hl.1 rfl (Nat.le_of_ble_eq_true rfl) dX1_close_33 ⟨Nat.le_of_ble_eq_true rfl, Nat.le_of_ble_eq_true rfl⟩ (fun H locs hP hD hS => ?_)
    have hP : va_P D vwCl (wC o ad cI cZ cG tl (nI q) wc (nI y) pn (nI (p_tree q (30 + y) (n, mem)).1) isw ((p_tree q (30 + y) (n, mem)).2)) H := hP
    have hD : va_D A (wC o ad cI cZ cG tl (nI q) wc (nI y) pn (nI (p_tree q (30 + y) (n, mem)).1) isw ((p_tree q (30 + y) (n, mem)).2)) := hD
    refine lv_aload_n hx hb dX1_close_36 rfl (lv_at hl 0 rfl) ?_
    refine va_get (D := D) (ci := 0) (v := .ref (ad 1)) (C := RX1) (T := TX1) (N := 14) hx hb hW iPL hown hK hP 0 rfl rfl 8 (by decide) (hW _ tw_52) (fun _ h9 => h9) rfl dX1_close_37 ?_
    refine lv_aload_n hx hb dX1_close_40 rfl (lv_at hl 0 rfl) ?_
    refine va_get (D := D) (ci := 0) (v := .int (nI y)) (C := RX1) (T := TX1) (N := 14) hx hb hW iPL hown hK hP 0 rfl rfl 9 (by decide) (hW _ tw_53) (fun _ h9 => h9) rfl dX1_close_41 ?_
    refine lv_aload_n hx hb dX1_close_44 rfl (lv_at hl 0 rfl) ?_
    refine va_get (D := D) (ci := 0) (v := .int (nI q)) (C := RX1) (T := TX1) (N := 14) hx hb hW iPL hown hK hP 0 rfl rfl 5 (by decide) (hW _ tw_49) (fun _ h9 => h9) rfl dX1_close_45 ?_
    refine m_st (X := wX o ad cZ cG tl (nI q) wc (nI y) pn (nI (p_tree q (30 + y) (n, mem)).1) isw) hx hb hK hP hD hS 0 1 y rfl (by decide) (show y < 12 by omega) (by decide) dX1_close_48 (fun H locs hP hD hS => ?_)
    have hP : va_P D vwCl (wC o ad cI cZ cG tl (nI q) wc (nI y) pn (nI (p_tree q (30 + y) (n, mem)).1) isw (va_up ((p_tree q (30 + y) (n, mem)).2) 1 (upd (((p_tree q (30 + y) (n, mem)).2) 1) y (nI q)))) H := hP
    have hD : va_D A (wC o ad cI cZ cG tl (nI q) wc (nI y) pn (nI (p_tree q (30 + y) (n, mem)).1) isw (va_up ((p_tree q (30 + y) (n, mem)).2) 1 (upd (((p_tree q (30 + y) (n, mem)).2) 1) y (nI q)))) := hD
    refine lv_aload_n hx hb dX1_close_49 rfl (lv_at hl 0 rfl) ?_
    refine lv_dup hx hb dX1_close_50 rfl ?_
    refine va_get (D := D) (ci := 0) (v := .int (nI y)) (C := RX1) (T := TX1) (N := 14) hx hb hW iPL hown hK hP 0 rfl rfl 9 (by decide) (hW _ tw_53) (fun _ h9 => h9) rfl dX1_close_51 ?_
    refine lv_iconst (v := nI 1) hx hb dX1_close_54 (by decide) ?_
    refine lv_iadd hx hb dX1_close_55 ?_
    refine lv_eqi (v := nI (y + 1)) (nI_add y 1) ?_
    refine va_put (D := D) (ci := 0) (v := .int (nI (y + 1))) (ty := .int) (C := RX1) (T := TX1) (N := 14) hx hb hW iPL tyX1 tyX1_ok nmX1 hown hK hP hD hS 0 rfl rfl 9 (by decide) (hW _ tw_53) (fun _ h9 => h9) rfl (by decide +kernel) rfl rfl (Nat.le_of_ble_eq_true rfl) dX1_close_56 (fun H locs hP hD hS => ?_)
    have hP : va_P D vwCl (wC o ad cI cZ cG tl (nI q) wc (nI (y + 1)) pn (nI (p_tree q (30 + y) (n, mem)).1) isw (va_up ((p_tree q (30 + y) (n, mem)).2) 1 (upd (((p_tree q (30 + y) (n, mem)).2) 1) y (nI q)))) H := hP
    have hD : va_D A (wC o ad cI cZ cG tl (nI q) wc (nI (y + 1)) pn (nI (p_tree q (30 + y) (n, mem)).1) isw (va_up ((p_tree q (30 + y) (n, mem)).2) 1 (upd (((p_tree q (30 + y) (n, mem)).2) 1) y (nI q)))) := hD
    refine lv_aload_n hx hb dX1_close_59 rfl (lv_at hl 0 rfl) ?_
    refine va_get (D := D) (ci := 0) (v := .int (nI (y + 1))) (C := RX1) (T := TX1) (N := 14) hx hb hW iPL hown hK hP 0 rfl rfl 9 (by decide) (hW _ tw_53) (fun _ h9 => h9) rfl dX1_close_60 ?_
    refine lv_iconst (v := nI 1) hx hb dX1_close_63 (by decide) ?_
    refine lv_isub hx hb dX1_close_64 ?_
    refine lv_eqi (v := nI y) (nI_prd y) ?_
    have hP : va_P D vwCl (wC o ad cI cZ cG tl (nI q) wc (nI (y + 1)) pn (nI (p_close q y (n, mem)).1) isw (p_close q y (n, mem)).2) H := by exact hP
    have hD : va_D A (wC o ad cI cZ cG tl (nI q) wc (nI (y + 1)) pn (nI (p_close q y (n, mem)).1) isw (p_close q y (n, mem)).2) := by exact hD
    exact ti_ret hx hb hr rfl hlk (x_if_f (fun h => h ha)) hS hP hD (rfl) dX1_close_65 (Nat.le_of_ble_eq_true rfl) (Nat.le_of_ble_eq_true rfl)
  · exact tr_throw (cls := "java/lang/UnsupportedOperationException") (tx := "there are 12 days") (names := ["java/lang/RuntimeException", "java/lang/Exception"]) (rest := []) hx hb (hml.trans hl.1.symm) hl0 hown (by decide +kernel) (by decide +kernel) (own_ok own_UOE hW hT) (hW _ tw_166) (hW _ tw_8) (hT.2.2.2 (.stringRef "ProofLeaves" 89 "there are 12 days") (by decide +kernel)) hno hlk dX1_close_9 dX1_close_12 dX1_close_13 dX1_close_15 dX1_close_18 (Nat.le_of_ble_eq_true rfl) (Nat.le_of_ble_eq_true rfl) (Nat.le_of_ble_eq_true rfl) (Nat.le_of_ble_eq_true rfl) (Nat.le_of_ble_eq_true rfl) (Nat.le_of_ble_eq_true rfl) (fun z t h1 h2 => Or.inr ⟨_, _, rfl, x_if_t ha, h1, h2⟩)
set_option maxHeartbeats 4000000 in
set_option maxRecDepth 100000 in
/-- root(v, u) -/
theorem c_root {l : Launch} {D : va_G} {o ad : Nat → Nat} {cI cZ cG : ClassId} {tl lc wc dc pn : Int32} {isw : Nat → Int32} (hl0 : l.stackTraces = false) (y : Nat) (hy : y ≤ 12) (v u sl : Int32) (mem : Nat → Nat → Int32) : MTi l gE yX1_root (.code yX1_root cX1_root 3 (some .int) :: tW) ({ frames := 7, cells := 2, slots := 12, locals := 140 }) D vwCl (tC cI cZ cG) [.ref (o 0), .int v, .int u] (wC o ad cI cZ cG tl lc wc (nI y) pn sl isw mem) (wC o ad cI cZ cG tl lc wc (nI y) pn sl isw mem) (mem (30 + tn v) (tn u)) ((x_req v (nI y)).or (x_req u (nI 32))) 2 12 := by
  refine MTi.ofW (by decide +kernel) rfl (Nat.le_of_ble_eq_true rfl) ?_
  intro p e s m below meth c A ls hx hb hr hts hown hlk hml hA hP hK hD hT hl hno
  have hS : va_S A s.heap s.heap [] := va_S.rf
  have hown : s.vm.findClass RX1 = some m.cls := hown
  have hW : ∀ w ∈ tW, w.before _ s = true := fun w h => hts w (List.mem_cons_of_mem _ h)
  have hl : lv_has ls 3 [(0, .ref (o 0)), (1, .int v), (2, .int u)] := hl
  refine lv_aload_n hx hb dX1_root_0 rfl (lv_at hl 0 rfl) ?_
  refine lv_iload_n hx hb dX1_root_1 rfl (lv_at hl 1 rfl) ?_
  refine tr_callV (C := RX1) (As := [.int v]) (rest := []) ⟨hx, hb, hml, hown, hW⟩ (c_requireDay hl0 v sl mem) gE_ok (cwV 1 hW (gV tw_269 tw_271 tv_X1_requireDay tw_1 tw_272) rfl rfl rfl (by decide +kernel) ⟨Nat.le_of_ble_eq_true rfl, Nat.le_of_ble_eq_true rfl⟩) (va_recv hK hP (ci := 0) (q0 := 0) rfl rfl) hP hD hK hA hT rfl hl.1 rfl (Nat.le_of_ble_eq_true rfl) dX1_root_2 ⟨Nat.le_of_ble_eq_true rfl, Nat.le_of_ble_eq_true rfl⟩ hno hlk (Nat.le_of_ble_eq_true rfl) (Nat.le_of_ble_eq_true rfl) (fun nm z t h0 h1 h2 => Or.inr ⟨nm, z, rfl, x_or1 h0, h1, h2⟩) (fun hg1 => ?_)
  obtain ⟨d, hid, rfl⟩ := x_req_none (by omega) hg1
  refine lv_iload_n hx hb dX1_root_5 rfl (lv_at hl 2 rfl) ?_
  refine tr_callS (As := [.int u]) (rest := []) ⟨hx, hb, hml, hown, hW⟩ (c_requireByte hl0 _ u) gE_ok (va_cwS 1 hW (gS tw_289 tw_290 tw_1 tw_291) rfl rfl rfl (by decide +kernel) ⟨Nat.le_of_ble_eq_true rfl, Nat.le_of_ble_eq_true rfl⟩) hP hD hK hA hT rfl hl.1 rfl (Nat.le_of_ble_eq_true rfl) dX1_root_6 ⟨Nat.le_of_ble_eq_true rfl, Nat.le_of_ble_eq_true rfl⟩ hno hlk (Nat.le_of_ble_eq_true rfl) (Nat.le_of_ble_eq_true rfl) (fun nm z t h0 h1 h2 => Or.inr ⟨nm, z, rfl, x_or2 hg1 (h0), h1, h2⟩) (fun hg2 => ?_)
  obtain ⟨i, hii, rfl⟩ := x_req_none (by omega) hg2
  refine lv_aload_n hx hb dX1_root_9 rfl (lv_at hl 0 rfl) ?_
  refine va_get (D := D) (ci := 0) (v := .ref (o 3)) (C := RX1) (T := TX1) (N := 14) hx hb hW iPL hown hK hP 0 rfl rfl 7 (by decide) (hW _ tw_51) (fun _ h9 => h9) rfl dX1_root_10 ?_
  refine lv_iload_n hx hb dX1_root_13 rfl (lv_at hl 1 rfl) ?_
  refine m_row hx hb hK hP 3 2 d rfl rfl (by omega) (by decide) rfl dX1_root_14 ?_
  refine lv_iload_n hx hb dX1_root_15 rfl (lv_at hl 2 rfl) ?_
  refine m_ld (X := wX o ad cZ cG tl lc wc (nI y) pn sl isw) hx hb hK hP 0 (30 + d) i rfl (by omega) (by rw [lenC_row (by omega)]; omega) (by rw [lenC_row (by omega)]; decide) dX1_root_16 ?_
  have hP : va_P D vwCl (wC o ad cI cZ cG tl lc wc (nI y) pn sl isw mem) s.heap := by exact hP
  have hD : va_D A (wC o ad cI cZ cG tl lc wc (nI y) pn sl isw mem) := by exact hD
  exact ti_ret hx hb hr rfl hlk (x_or2 hg1 (hg2)) hS hP hD (by rw [show tn (nI d) = d from nI_clamp (by omega), show tn (nI i) = i from nI_clamp (by omega)]) dX1_root_17 (Nat.le_of_ble_eq_true rfl) (Nat.le_of_ble_eq_true rfl)
set_option maxHeartbeats 4000000 in
set_option maxRecDepth 100000 in
/-- digest(v, u) -/
theorem c_digest {l : Launch} {D : va_G} {o ad : Nat → Nat} {cI cZ cG : ClassId} {tl lc wc dc pn : Int32} {isw : Nat → Int32} (hl0 : l.stackTraces = false) (q : Nat) (hq : q ≤ 24) (v u sl : Int32) (mem : Nat → Nat → Int32) : MTi l gE yX1_digest (.code yX1_digest cX1_digest 3 (some .int) :: tW) ({ frames := 7, cells := 2, slots := 12, locals := 140 }) D vwCl (tC cI cZ cG) [.ref (o 0), .int v, .int u] (wC o ad cI cZ cG tl (nI q) wc dc pn sl isw mem) (wC o ad cI cZ cG tl (nI q) wc dc pn sl isw mem) (mem (6 + tn v) (tn u)) ((x_req v (nI q)).or (x_req u (nI 32))) 2 12 := by
  refine MTi.ofW (by decide +kernel) rfl (Nat.le_of_ble_eq_true rfl) ?_
  intro p e s m below meth c A ls hx hb hr hts hown hlk hml hA hP hK hD hT hl hno
  have hS : va_S A s.heap s.heap [] := va_S.rf
  have hown : s.vm.findClass RX1 = some m.cls := hown
  have hW : ∀ w ∈ tW, w.before _ s = true := fun w h => hts w (List.mem_cons_of_mem _ h)
  have hl : lv_has ls 3 [(0, .ref (o 0)), (1, .int v), (2, .int u)] := hl
  refine lv_aload_n hx hb dX1_digest_0 rfl (lv_at hl 0 rfl) ?_
  refine lv_iload_n hx hb dX1_digest_1 rfl (lv_at hl 1 rfl) ?_
  refine tr_callV (C := RX1) (As := [.int v]) (rest := []) ⟨hx, hb, hml, hown, hW⟩ (c_requireLeaf hl0 v sl mem) gE_ok (cwV 1 hW (gV tw_300 tw_302 tv_X1_requireLeaf tw_1 tw_303) rfl rfl rfl (by decide +kernel) ⟨Nat.le_of_ble_eq_true rfl, Nat.le_of_ble_eq_true rfl⟩) (va_recv hK hP (ci := 0) (q0 := 0) rfl rfl) hP hD hK hA hT rfl hl.1 rfl (Nat.le_of_ble_eq_true rfl) dX1_digest_2 ⟨Nat.le_of_ble_eq_true rfl, Nat.le_of_ble_eq_true rfl⟩ hno hlk (Nat.le_of_ble_eq_true rfl) (Nat.le_of_ble_eq_true rfl) (fun nm z t h0 h1 h2 => Or.inr ⟨nm, z, rfl, x_or1 h0, h1, h2⟩) (fun hg1 => ?_)
  obtain ⟨d, hid, rfl⟩ := x_req_none (by omega) hg1
  refine lv_iload_n hx hb dX1_digest_5 rfl (lv_at hl 2 rfl) ?_
  refine tr_callS (As := [.int u]) (rest := []) ⟨hx, hb, hml, hown, hW⟩ (c_requireByte hl0 _ u) gE_ok (va_cwS 1 hW (gS tw_289 tw_290 tw_1 tw_291) rfl rfl rfl (by decide +kernel) ⟨Nat.le_of_ble_eq_true rfl, Nat.le_of_ble_eq_true rfl⟩) hP hD hK hA hT rfl hl.1 rfl (Nat.le_of_ble_eq_true rfl) dX1_digest_6 ⟨Nat.le_of_ble_eq_true rfl, Nat.le_of_ble_eq_true rfl⟩ hno hlk (Nat.le_of_ble_eq_true rfl) (Nat.le_of_ble_eq_true rfl) (fun nm z t h0 h1 h2 => Or.inr ⟨nm, z, rfl, x_or2 hg1 (h0), h1, h2⟩) (fun hg2 => ?_)
  obtain ⟨i, hii, rfl⟩ := x_req_none (by omega) hg2
  refine lv_aload_n hx hb dX1_digest_9 rfl (lv_at hl 0 rfl) ?_
  refine va_get (D := D) (ci := 0) (v := .ref (o 2)) (C := RX1) (T := TX1) (N := 14) hx hb hW iPL hown hK hP 0 rfl rfl 3 (by decide) (hW _ tw_47) (fun _ h9 => h9) rfl dX1_digest_10 ?_
  refine lv_iload_n hx hb dX1_digest_13 rfl (lv_at hl 1 rfl) ?_
  refine m_row hx hb hK hP 2 2 d rfl rfl (by omega) (by decide) rfl dX1_digest_14 ?_
  refine lv_iload_n hx hb dX1_digest_15 rfl (lv_at hl 2 rfl) ?_
  refine m_ld (X := wX o ad cZ cG tl (nI q) wc dc pn sl isw) hx hb hK hP 0 (6 + d) i rfl (by omega) (by rw [lenC_row (by omega)]; omega) (by rw [lenC_row (by omega)]; decide) dX1_digest_16 ?_
  have hP : va_P D vwCl (wC o ad cI cZ cG tl (nI q) wc dc pn sl isw mem) s.heap := by exact hP
  have hD : va_D A (wC o ad cI cZ cG tl (nI q) wc dc pn sl isw mem) := by exact hD
  exact ti_ret hx hb hr rfl hlk (x_or2 hg1 (hg2)) hS hP hD (by rw [show tn (nI d) = d from nI_clamp (by omega), show tn (nI i) = i from nI_clamp (by omega)]) dX1_digest_17 (Nat.le_of_ble_eq_true rfl) (Nat.le_of_ble_eq_true rfl)
set_option maxHeartbeats 4000000 in
set_option maxRecDepth 100000 in
/-- count(v) -/
theorem c_count {l : Launch} {D : va_G} {o ad : Nat → Nat} {cI cZ cG : ClassId} {tl lc wc dc pn : Int32} {isw : Nat → Int32} (hl0 : l.stackTraces = false) (y : Nat) (hy : y ≤ 12) (v sl : Int32) (mem : Nat → Nat → Int32) : MTi l gE yX1_count (.code yX1_count cX1_count 2 (some .int) :: tW) ({ frames := 7, cells := 1, slots := 6, locals := 140 }) D vwCl (tC cI cZ cG) [.ref (o 0), .int v] (wC o ad cI cZ cG tl lc wc (nI y) pn sl isw mem) (wC o ad cI cZ cG tl lc wc (nI y) pn sl isw mem) (mem 1 (tn v)) (x_req v (nI y)) 1 6 := by
  refine MTi.ofW (by decide +kernel) rfl (Nat.le_of_ble_eq_true rfl) ?_
  intro p e s m below meth c A ls hx hb hr hts hown hlk hml hA hP hK hD hT hl hno
  have hS : va_S A s.heap s.heap [] := va_S.rf
  have hown : s.vm.findClass RX1 = some m.cls := hown
  have hW : ∀ w ∈ tW, w.before _ s = true := fun w h => hts w (List.mem_cons_of_mem _ h)
  have hl : lv_has ls 2 [(0, .ref (o 0)), (1, .int v)] := hl
  refine lv_aload_n hx hb dX1_count_0 rfl (lv_at hl 0 rfl) ?_
  refine lv_iload_n hx hb dX1_count_1 rfl (lv_at hl 1 rfl) ?_
  refine tr_callV (C := RX1) (As := [.int v]) (rest := []) ⟨hx, hb, hml, hown, hW⟩ (c_requireDay hl0 v sl mem) gE_ok (cwV 1 hW (gV tw_269 tw_271 tv_X1_requireDay tw_1 tw_272) rfl rfl rfl (by decide +kernel) ⟨Nat.le_of_ble_eq_true rfl, Nat.le_of_ble_eq_true rfl⟩) (va_recv hK hP (ci := 0) (q0 := 0) rfl rfl) hP hD hK hA hT rfl hl.1 rfl (Nat.le_of_ble_eq_true rfl) dX1_count_2 ⟨Nat.le_of_ble_eq_true rfl, Nat.le_of_ble_eq_true rfl⟩ hno hlk (Nat.le_of_ble_eq_true rfl) (Nat.le_of_ble_eq_true rfl) (fun nm z t h0 h1 h2 => Or.inr ⟨nm, z, rfl, h0, h1, h2⟩) (fun hg1 => ?_)
  obtain ⟨d, hid, rfl⟩ := x_req_none (by omega) hg1
  refine lv_aload_n hx hb dX1_count_5 rfl (lv_at hl 0 rfl) ?_
  refine va_get (D := D) (ci := 0) (v := .ref (ad 1)) (C := RX1) (T := TX1) (N := 14) hx hb hW iPL hown hK hP 0 rfl rfl 8 (by decide) (hW _ tw_52) (fun _ h9 => h9) rfl dX1_count_6 ?_
  refine lv_iload_n hx hb dX1_count_9 rfl (lv_at hl 1 rfl) ?_
  refine m_ld (X := wX o ad cZ cG tl lc wc (nI y) pn sl isw) hx hb hK hP 0 1 d rfl (by decide) (show d < 12 by omega) (by decide) dX1_count_10 ?_
  have hP : va_P D vwCl (wC o ad cI cZ cG tl lc wc (nI y) pn sl isw mem) s.heap := by exact hP
  have hD : va_D A (wC o ad cI cZ cG tl lc wc (nI y) pn sl isw mem) := by exact hD
  exact ti_ret hx hb hr rfl hlk (hg1) hS hP hD (by rw [show tn (nI d) = d from nI_clamp (by omega)]) dX1_count_11 (Nat.le_of_ble_eq_true rfl) (Nat.le_of_ble_eq_true rfl)
set_option maxHeartbeats 4000000 in
set_option maxRecDepth 100000 in
/-- proof(v, u) -/
theorem c_proof {l : Launch} {D : va_G} {o ad : Nat → Nat} {cI cZ cG : ClassId} {tl lc wc dc pn : Int32} {isw : Nat → Int32} (hl0 : l.stackTraces = false) (hpn : pn ≤ nI 5) (v u sl : Int32) (mem : Nat → Nat → Int32) : MTi l gE yX1_proof (.code yX1_proof cX1_proof 3 (some .int) :: tW) ({ frames := 7, cells := 2, slots := 12, locals := 140 }) D vwCl (tC cI cZ cG) [.ref (o 0), .int v, .int u] (wC o ad cI cZ cG tl lc wc dc pn sl isw mem) (wC o ad cI cZ cG tl lc wc dc pn sl isw mem) (mem (42 + tn v) (tn u)) ((x_req v pn).or (x_req u (nI 32))) 2 12 := by
  refine MTi.ofW (by decide +kernel) rfl (Nat.le_of_ble_eq_true rfl) ?_
  intro p e s m below meth c A ls hx hb hr hts hown hlk hml hA hP hK hD hT hl hno
  have hS : va_S A s.heap s.heap [] := va_S.rf
  have hown : s.vm.findClass RX1 = some m.cls := hown
  have hW : ∀ w ∈ tW, w.before _ s = true := fun w h => hts w (List.mem_cons_of_mem _ h)
  have hl : lv_has ls 3 [(0, .ref (o 0)), (1, .int v), (2, .int u)] := hl
  refine lv_aload_n hx hb dX1_proof_0 rfl (lv_at hl 0 rfl) ?_
  refine lv_iload_n hx hb dX1_proof_1 rfl (lv_at hl 1 rfl) ?_
  refine tr_callV (C := RX1) (As := [.int v]) (rest := []) ⟨hx, hb, hml, hown, hW⟩ (c_requirePathDigest hl0 v sl mem) gE_ok (cwV 1 hW (gV tw_353 tw_355 tv_X1_requirePathDigest tw_1 tw_356) rfl rfl rfl (by decide +kernel) ⟨Nat.le_of_ble_eq_true rfl, Nat.le_of_ble_eq_true rfl⟩) (va_recv hK hP (ci := 0) (q0 := 0) rfl rfl) hP hD hK hA hT rfl hl.1 rfl (Nat.le_of_ble_eq_true rfl) dX1_proof_2 ⟨Nat.le_of_ble_eq_true rfl, Nat.le_of_ble_eq_true rfl⟩ hno hlk (Nat.le_of_ble_eq_true rfl) (Nat.le_of_ble_eq_true rfl) (fun nm z t h0 h1 h2 => Or.inr ⟨nm, z, rfl, x_or1 h0, h1, h2⟩) (fun hg1 => ?_)
  obtain ⟨d, hid, rfl⟩ := x_req_pn hpn hg1
  refine lv_iload_n hx hb dX1_proof_5 rfl (lv_at hl 2 rfl) ?_
  refine tr_callS (As := [.int u]) (rest := []) ⟨hx, hb, hml, hown, hW⟩ (c_requireByte hl0 _ u) gE_ok (va_cwS 1 hW (gS tw_289 tw_290 tw_1 tw_291) rfl rfl rfl (by decide +kernel) ⟨Nat.le_of_ble_eq_true rfl, Nat.le_of_ble_eq_true rfl⟩) hP hD hK hA hT rfl hl.1 rfl (Nat.le_of_ble_eq_true rfl) dX1_proof_6 ⟨Nat.le_of_ble_eq_true rfl, Nat.le_of_ble_eq_true rfl⟩ hno hlk (Nat.le_of_ble_eq_true rfl) (Nat.le_of_ble_eq_true rfl) (fun nm z t h0 h1 h2 => Or.inr ⟨nm, z, rfl, x_or2 hg1 (h0), h1, h2⟩) (fun hg2 => ?_)
  obtain ⟨i, hii, rfl⟩ := x_req_none (by omega) hg2
  refine lv_aload_n hx hb dX1_proof_9 rfl (lv_at hl 0 rfl) ?_
  refine va_get (D := D) (ci := 0) (v := .ref (o 4)) (C := RX1) (T := TX1) (N := 14) hx hb hW iPL hown hK hP 0 rfl rfl 10 (by decide) (hW _ tw_54) (fun _ h9 => h9) rfl dX1_proof_10 ?_
  refine lv_iload_n hx hb dX1_proof_13 rfl (lv_at hl 1 rfl) ?_
  refine m_row hx hb hK hP 4 2 d rfl rfl (by omega) (by decide) rfl dX1_proof_14 ?_
  refine lv_iload_n hx hb dX1_proof_15 rfl (lv_at hl 2 rfl) ?_
  refine m_ld (X := wX o ad cZ cG tl lc wc dc pn sl isw) hx hb hK hP 0 (42 + d) i rfl (by omega) (by rw [lenC_row (by omega)]; omega) (by rw [lenC_row (by omega)]; decide) dX1_proof_16 ?_
  have hP : va_P D vwCl (wC o ad cI cZ cG tl lc wc dc pn sl isw mem) s.heap := by exact hP
  have hD : va_D A (wC o ad cI cZ cG tl lc wc dc pn sl isw mem) := by exact hD
  exact ti_ret hx hb hr rfl hlk (x_or2 hg1 (hg2)) hS hP hD (by rw [show tn (nI d) = d from nI_clamp (by omega), show tn (nI i) = i from nI_clamp (by omega)]) dX1_proof_17 (Nat.le_of_ble_eq_true rfl) (Nat.le_of_ble_eq_true rfl)
set_option maxHeartbeats 4000000 in
set_option maxRecDepth 100000 in
/-- bend(v, u, x) -/
theorem c_bend {l : Launch} {D : va_G} {o ad : Nat → Nat} {cI cZ cG : ClassId} {tl lc wc dc pn : Int32} {isw : Nat → Int32} (hl0 : l.stackTraces = false) (hpn : pn ≤ nI 5) (v u x sl : Int32) (mem : Nat → Nat → Int32) : MTv l gE yX1_bend (.code yX1_bend cX1_bend 4 none :: tW) ({ frames := 7, cells := 3, slots := 18, locals := 140 }) D vwCl (tC cI cZ cG) [.ref (o 0), .int v, .int u, .int x] (wC o ad cI cZ cG tl lc wc dc pn sl isw mem) (wC o ad cI cZ cG tl lc wc dc pn sl isw (p_bend (42 + tn v) (tn u) x mem)) ((x_req v pn).or ((x_req u (nI 32)).or (x_mask x))) 3 18 := by
  refine MTv.ofW (by decide +kernel) rfl (Nat.le_of_ble_eq_true rfl) ?_
  intro p e s m below meth c A ls hx hb hr hts hown hlk hml hA hP hK hD hT hl hno
  have hS : va_S A s.heap s.heap [] := va_S.rf
  have hown : s.vm.findClass RX1 = some m.cls := hown
  have hW : ∀ w ∈ tW, w.before _ s = true := fun w h => hts w (List.mem_cons_of_mem _ h)
  have hl : lv_has ls 4 [(0, .ref (o 0)), (1, .int v), (2, .int u), (3, .int x)] := hl
  refine lv_aload_n hx hb dX1_bend_0 rfl (lv_at hl 0 rfl) ?_
  refine lv_iload_n hx hb dX1_bend_1 rfl (lv_at hl 1 rfl) ?_
  refine tr_callV (C := RX1) (As := [.int v]) (rest := []) ⟨hx, hb, hml, hown, hW⟩ (c_requirePathDigest hl0 v sl mem) gE_ok (cwV 1 hW (gV tw_353 tw_355 tv_X1_requirePathDigest tw_1 tw_356) rfl rfl rfl (by decide +kernel) ⟨Nat.le_of_ble_eq_true rfl, Nat.le_of_ble_eq_true rfl⟩) (va_recv hK hP (ci := 0) (q0 := 0) rfl rfl) hP hD hK hA hT rfl hl.1 rfl (Nat.le_of_ble_eq_true rfl) dX1_bend_2 ⟨Nat.le_of_ble_eq_true rfl, Nat.le_of_ble_eq_true rfl⟩ hno hlk (Nat.le_of_ble_eq_true rfl) (Nat.le_of_ble_eq_true rfl) (fun nm z t h0 h1 h2 => Or.inr ⟨nm, z, rfl, x_or1 h0, h1, h2⟩) (fun hg1 => ?_)
  obtain ⟨d, hid, rfl⟩ := x_req_pn hpn hg1
  refine lv_iload_n hx hb dX1_bend_5 rfl (lv_at hl 2 rfl) ?_
  refine tr_callS (As := [.int u]) (rest := []) ⟨hx, hb, hml, hown, hW⟩ (c_requireByte hl0 _ u) gE_ok (va_cwS 1 hW (gS tw_289 tw_290 tw_1 tw_291) rfl rfl rfl (by decide +kernel) ⟨Nat.le_of_ble_eq_true rfl, Nat.le_of_ble_eq_true rfl⟩) hP hD hK hA hT rfl hl.1 rfl (Nat.le_of_ble_eq_true rfl) dX1_bend_6 ⟨Nat.le_of_ble_eq_true rfl, Nat.le_of_ble_eq_true rfl⟩ hno hlk (Nat.le_of_ble_eq_true rfl) (Nat.le_of_ble_eq_true rfl) (fun nm z t h0 h1 h2 => Or.inr ⟨nm, z, rfl, x_or2 hg1 (x_or1 h0), h1, h2⟩) (fun hg2 => ?_)
  obtain ⟨i, hii, rfl⟩ := x_req_none (by omega) hg2
  refine lv_iload_n hx hb dX1_bend_9 rfl (lv_at hl 3 rfl) ?_
  refine tr_callS (As := [.int x]) (rest := []) ⟨hx, hb, hml, hown, hW⟩ (c_requireMask hl0 _ x) gE_ok (va_cwS 1 hW (gS tw_365 tw_366 tw_1 tw_367) rfl rfl rfl (by decide +kernel) ⟨Nat.le_of_ble_eq_true rfl, Nat.le_of_ble_eq_true rfl⟩) hP hD hK hA hT rfl hl.1 rfl (Nat.le_of_ble_eq_true rfl) dX1_bend_10 ⟨Nat.le_of_ble_eq_true rfl, Nat.le_of_ble_eq_true rfl⟩ hno hlk (Nat.le_of_ble_eq_true rfl) (Nat.le_of_ble_eq_true rfl) (fun nm z t h0 h1 h2 => Or.inr ⟨nm, z, rfl, x_or2 hg1 (x_or2 hg2 (h0)), h1, h2⟩) (fun hg3 => ?_)
  refine lv_aload_n hx hb dX1_bend_13 rfl (lv_at hl 0 rfl) ?_
  refine va_get (D := D) (ci := 0) (v := .ref (o 4)) (C := RX1) (T := TX1) (N := 14) hx hb hW iPL hown hK hP 0 rfl rfl 10 (by decide) (hW _ tw_54) (fun _ h9 => h9) rfl dX1_bend_14 ?_
  refine lv_iload_n hx hb dX1_bend_17 rfl (lv_at hl 1 rfl) ?_
  refine m_row hx hb hK hP 4 2 d rfl rfl (by omega) (by decide) rfl dX1_bend_18 ?_
  refine lv_iload_n hx hb dX1_bend_19 rfl (lv_at hl 2 rfl) ?_
  refine lv_dup2_11 hx hb dX1_bend_20 rfl rfl ?_
  refine m_ld (X := wX o ad cZ cG tl lc wc dc pn sl isw) hx hb hK hP 0 (42 + d) i rfl (by omega) (by rw [lenC_row (by omega)]; omega) (by rw [lenC_row (by omega)]; decide) dX1_bend_21 ?_
  refine lv_iload_n hx hb dX1_bend_22 rfl (lv_at hl 3 rfl) ?_
  refine lv_ixor hx hb dX1_bend_23 ?_
  refine m_st (X := wX o ad cZ cG tl lc wc dc pn sl isw) hx hb hK hP hD hS 0 (42 + d) i rfl (by omega) (by rw [lenC_row (by omega)]; omega) (by rw [lenC_row (by omega)]; decide) dX1_bend_24 (fun H locs hP hD hS => ?_)
  have hP : va_P D vwCl (wC o ad cI cZ cG tl lc wc dc pn sl isw (va_up mem (42 + d) (upd (mem (42 + d)) i ((mem (42 + d) i) ^^^ x)))) H := hP
  have hD : va_D A (wC o ad cI cZ cG tl lc wc dc pn sl isw (va_up mem (42 + d) (upd (mem (42 + d)) i ((mem (42 + d) i) ^^^ x)))) := hD
  have hP : va_P D vwCl (wC o ad cI cZ cG tl lc wc dc pn sl isw (p_bend (42 + tn (nI d)) (tn (nI i)) x mem)) H := by rw [show tn (nI d) = d from nI_clamp (by omega), show tn (nI i) = i from nI_clamp (by omega)]; exact hP
  have hD : va_D A (wC o ad cI cZ cG tl lc wc dc pn sl isw (p_bend (42 + tn (nI d)) (tn (nI i)) x mem)) := by rw [show tn (nI d) = d from nI_clamp (by omega), show tn (nI i) = i from nI_clamp (by omega)]; exact hD
  exact tv_ret hx hb hr hlk (x_or2 hg1 (x_or2 hg2 (hg3))) hS hP hD dX1_bend_25 (Nat.le_of_ble_eq_true rfl) (Nat.le_of_ble_eq_true rfl)
set_option maxHeartbeats 4000000 in
set_option maxRecDepth 100000 in
/-- poke(v, u, x) -/
theorem c_poke {l : Launch} {D : va_G} {o ad : Nat → Nat} {cI cZ cG : ClassId} {tl lc wc dc pn : Int32} {isw : Nat → Int32} (hl0 : l.stackTraces = false) (q : Nat) (hq : q ≤ 24) (v u x sl : Int32) (mem : Nat → Nat → Int32) : MTv l gE yX1_poke (.code yX1_poke cX1_poke 4 none :: tW) ({ frames := 7, cells := 3, slots := 18, locals := 140 }) D vwCl (tC cI cZ cG) [.ref (o 0), .int v, .int u, .int x] (wC o ad cI cZ cG tl (nI q) wc dc pn sl isw mem) (wC o ad cI cZ cG tl (nI q) wc dc pn sl isw (p_bend (6 + tn v) (tn u) x mem)) ((x_req v (nI q)).or ((x_req u (nI 32)).or (x_mask x))) 3 18 := by
  refine MTv.ofW (by decide +kernel) rfl (Nat.le_of_ble_eq_true rfl) ?_
  intro p e s m below meth c A ls hx hb hr hts hown hlk hml hA hP hK hD hT hl hno
  have hS : va_S A s.heap s.heap [] := va_S.rf
  have hown : s.vm.findClass RX1 = some m.cls := hown
  have hW : ∀ w ∈ tW, w.before _ s = true := fun w h => hts w (List.mem_cons_of_mem _ h)
  have hl : lv_has ls 4 [(0, .ref (o 0)), (1, .int v), (2, .int u), (3, .int x)] := hl
  refine lv_aload_n hx hb dX1_poke_0 rfl (lv_at hl 0 rfl) ?_
  refine lv_iload_n hx hb dX1_poke_1 rfl (lv_at hl 1 rfl) ?_
  refine tr_callV (C := RX1) (As := [.int v]) (rest := []) ⟨hx, hb, hml, hown, hW⟩ (c_requireLeaf hl0 v sl mem) gE_ok (cwV 1 hW (gV tw_300 tw_302 tv_X1_requireLeaf tw_1 tw_303) rfl rfl rfl (by decide +kernel) ⟨Nat.le_of_ble_eq_true rfl, Nat.le_of_ble_eq_true rfl⟩) (va_recv hK hP (ci := 0) (q0 := 0) rfl rfl) hP hD hK hA hT rfl hl.1 rfl (Nat.le_of_ble_eq_true rfl) dX1_poke_2 ⟨Nat.le_of_ble_eq_true rfl, Nat.le_of_ble_eq_true rfl⟩ hno hlk (Nat.le_of_ble_eq_true rfl) (Nat.le_of_ble_eq_true rfl) (fun nm z t h0 h1 h2 => Or.inr ⟨nm, z, rfl, x_or1 h0, h1, h2⟩) (fun hg1 => ?_)
  obtain ⟨d, hid, rfl⟩ := x_req_none (by omega) hg1
  refine lv_iload_n hx hb dX1_poke_5 rfl (lv_at hl 2 rfl) ?_
  refine tr_callS (As := [.int u]) (rest := []) ⟨hx, hb, hml, hown, hW⟩ (c_requireByte hl0 _ u) gE_ok (va_cwS 1 hW (gS tw_289 tw_290 tw_1 tw_291) rfl rfl rfl (by decide +kernel) ⟨Nat.le_of_ble_eq_true rfl, Nat.le_of_ble_eq_true rfl⟩) hP hD hK hA hT rfl hl.1 rfl (Nat.le_of_ble_eq_true rfl) dX1_poke_6 ⟨Nat.le_of_ble_eq_true rfl, Nat.le_of_ble_eq_true rfl⟩ hno hlk (Nat.le_of_ble_eq_true rfl) (Nat.le_of_ble_eq_true rfl) (fun nm z t h0 h1 h2 => Or.inr ⟨nm, z, rfl, x_or2 hg1 (x_or1 h0), h1, h2⟩) (fun hg2 => ?_)
  obtain ⟨i, hii, rfl⟩ := x_req_none (by omega) hg2
  refine lv_iload_n hx hb dX1_poke_9 rfl (lv_at hl 3 rfl) ?_
  refine tr_callS (As := [.int x]) (rest := []) ⟨hx, hb, hml, hown, hW⟩ (c_requireMask hl0 _ x) gE_ok (va_cwS 1 hW (gS tw_365 tw_366 tw_1 tw_367) rfl rfl rfl (by decide +kernel) ⟨Nat.le_of_ble_eq_true rfl, Nat.le_of_ble_eq_true rfl⟩) hP hD hK hA hT rfl hl.1 rfl (Nat.le_of_ble_eq_true rfl) dX1_poke_10 ⟨Nat.le_of_ble_eq_true rfl, Nat.le_of_ble_eq_true rfl⟩ hno hlk (Nat.le_of_ble_eq_true rfl) (Nat.le_of_ble_eq_true rfl) (fun nm z t h0 h1 h2 => Or.inr ⟨nm, z, rfl, x_or2 hg1 (x_or2 hg2 (h0)), h1, h2⟩) (fun hg3 => ?_)
  refine lv_aload_n hx hb dX1_poke_13 rfl (lv_at hl 0 rfl) ?_
  refine va_get (D := D) (ci := 0) (v := .ref (o 2)) (C := RX1) (T := TX1) (N := 14) hx hb hW iPL hown hK hP 0 rfl rfl 3 (by decide) (hW _ tw_47) (fun _ h9 => h9) rfl dX1_poke_14 ?_
  refine lv_iload_n hx hb dX1_poke_17 rfl (lv_at hl 1 rfl) ?_
  refine m_row hx hb hK hP 2 2 d rfl rfl (by omega) (by decide) rfl dX1_poke_18 ?_
  refine lv_iload_n hx hb dX1_poke_19 rfl (lv_at hl 2 rfl) ?_
  refine lv_dup2_11 hx hb dX1_poke_20 rfl rfl ?_
  refine m_ld (X := wX o ad cZ cG tl (nI q) wc dc pn sl isw) hx hb hK hP 0 (6 + d) i rfl (by omega) (by rw [lenC_row (by omega)]; omega) (by rw [lenC_row (by omega)]; decide) dX1_poke_21 ?_
  refine lv_iload_n hx hb dX1_poke_22 rfl (lv_at hl 3 rfl) ?_
  refine lv_ixor hx hb dX1_poke_23 ?_
  refine m_st (X := wX o ad cZ cG tl (nI q) wc dc pn sl isw) hx hb hK hP hD hS 0 (6 + d) i rfl (by omega) (by rw [lenC_row (by omega)]; omega) (by rw [lenC_row (by omega)]; decide) dX1_poke_24 (fun H locs hP hD hS => ?_)
  have hP : va_P D vwCl (wC o ad cI cZ cG tl (nI q) wc dc pn sl isw (va_up mem (6 + d) (upd (mem (6 + d)) i ((mem (6 + d) i) ^^^ x)))) H := hP
  have hD : va_D A (wC o ad cI cZ cG tl (nI q) wc dc pn sl isw (va_up mem (6 + d) (upd (mem (6 + d)) i ((mem (6 + d) i) ^^^ x)))) := hD
  have hP : va_P D vwCl (wC o ad cI cZ cG tl (nI q) wc dc pn sl isw (p_bend (6 + tn (nI d)) (tn (nI i)) x mem)) H := by rw [show tn (nI d) = d from nI_clamp (by omega), show tn (nI i) = i from nI_clamp (by omega)]; exact hP
  have hD : va_D A (wC o ad cI cZ cG tl (nI q) wc dc pn sl isw (p_bend (6 + tn (nI d)) (tn (nI i)) x mem)) := by rw [show tn (nI d) = d from nI_clamp (by omega), show tn (nI i) = i from nI_clamp (by omega)]; exact hD
  exact tv_ret hx hb hr hlk (x_or2 hg1 (x_or2 hg2 (hg3))) hS hP hD dX1_poke_25 (Nat.le_of_ble_eq_true rfl) (Nat.le_of_ble_eq_true rfl)
set_option maxHeartbeats 4000000 in
set_option maxRecDepth 100000 in
/-- mark(v, k1, k2, u) -/
theorem c_mark {l : Launch} {D : va_G} {o ad : Nat → Nat} {cI cZ cG : ClassId} {tl lc wc dc pn : Int32} {isw : Nat → Int32} (hl0 : l.stackTraces = false) (q n : Nat) (hq : q ≤ 24) (v u : Int32) (k1 k2 : Int64) (mem : Nat → Nat → Int32) : MTi l gE yX1_mark (.code yX1_mark cX1_mark 7 (some .int) :: tW) ({ frames := 7, cells := 2, slots := 12, locals := 190 }) D vwCl (tC cI cZ cG) [.ref (o 0), .int v, .long k1, .long k2, .int u] (wC o ad cI cZ cG tl (nI q) wc dc pn (nI n) isw mem) (wC o ad cI cZ cG tl (nI q) wc dc pn (nI (p_mark (tn v) k1 k2 mem).1) isw (p_mark (tn v) k1 k2 mem).2) ((p_mark (tn v) k1 k2 mem).2 2 (tn u)) ((x_req v (nI q)).or (x_req u (nI 32))) 2 12 := by
  refine MTi.ofW (by decide +kernel) rfl (Nat.le_of_ble_eq_true rfl) ?_
  intro p e s m below meth c A ls hx hb hr hts hown hlk hml hA hP hK hD hT hl hno
  have hS : va_S A s.heap s.heap [] := va_S.rf
  have hown : s.vm.findClass RX1 = some m.cls := hown
  have hW : ∀ w ∈ tW, w.before _ s = true := fun w h => hts w (List.mem_cons_of_mem _ h)
  have hl : lv_has ls 7 [(0, .ref (o 0)), (1, .int v), (2, .long k1), (4, .long k2), (6, .int u)] := hl
  refine lv_aload_n hx hb dX1_mark_0 rfl (lv_at hl 0 rfl) ?_
  refine lv_iload_n hx hb dX1_mark_1 rfl (lv_at hl 1 rfl) ?_
  refine tr_callV (C := RX1) (As := [.int v]) (rest := []) ⟨hx, hb, hml, hown, hW⟩ (c_requireLeaf hl0 v (nI n) mem) gE_ok (cwV 1 hW (gV tw_300 tw_302 tv_X1_requireLeaf tw_1 tw_303) rfl rfl rfl (by decide +kernel) ⟨Nat.le_of_ble_eq_true rfl, Nat.le_of_ble_eq_true rfl⟩) (va_recv hK hP (ci := 0) (q0 := 0) rfl rfl) hP hD hK hA hT rfl hl.1 rfl (Nat.le_of_ble_eq_true rfl) dX1_mark_2 ⟨Nat.le_of_ble_eq_true rfl, Nat.le_of_ble_eq_true rfl⟩ hno hlk (Nat.le_of_ble_eq_true rfl) (Nat.le_of_ble_eq_true rfl) (fun nm z t h0 h1 h2 => Or.inr ⟨nm, z, rfl, x_or1 h0, h1, h2⟩) (fun hg1 => ?_)
  obtain ⟨d, hid, rfl⟩ := x_req_none (by omega) hg1
  refine lv_iload hx hb dX1_mark_5 (lv_at hl 4 rfl) ?_
  refine tr_callS (As := [.int u]) (rest := []) ⟨hx, hb, hml, hown, hW⟩ (c_requireByte hl0 _ u) gE_ok (va_cwS 1 hW (gS tw_289 tw_290 tw_1 tw_291) rfl rfl rfl (by decide +kernel) ⟨Nat.le_of_ble_eq_true rfl, Nat.le_of_ble_eq_true rfl⟩) hP hD hK hA hT rfl hl.1 rfl (Nat.le_of_ble_eq_true rfl) dX1_mark_7 ⟨Nat.le_of_ble_eq_true rfl, Nat.le_of_ble_eq_true rfl⟩ hno hlk (Nat.le_of_ble_eq_true rfl) (Nat.le_of_ble_eq_true rfl) (fun nm z t h0 h1 h2 => Or.inr ⟨nm, z, rfl, x_or2 hg1 (h0), h1, h2⟩) (fun hg2 => ?_)
  obtain ⟨i, hii, rfl⟩ := x_req_none (by omega) hg2
  refine lv_aload_n hx hb dX1_mark_10 rfl (lv_at hl 0 rfl) ?_
  refine lv_lload_n hx hb dX1_mark_11 rfl (lv_at hl 2 rfl) ?_
  refine lv_aload_n hx hb dX1_mark_12 rfl (lv_at hl 0 rfl) ?_
  refine va_get (D := D) (ci := 0) (v := .ref (o 2)) (C := RX1) (T := TX1) (N := 14) hx hb hW iPL hown hK hP 0 rfl rfl 3 (by decide) (hW _ tw_47) (fun _ h9 => h9) rfl dX1_mark_13 ?_
  refine lv_iload_n hx hb dX1_mark_16 rfl (lv_at hl 1 rfl) ?_
  refine m_row hx hb hK hP 2 2 d rfl rfl (by omega) (by decide) rfl dX1_mark_17 ?_
  refine lv_aload_n hx hb dX1_mark_18 rfl (lv_at hl 0 rfl) ?_
  refine va_get (D := D) (ci := 0) (v := .ref (ad 2)) (C := RX1) (T := TX1) (N := 14) hx hb hW iPL hown hK hP 0 rfl rfl 13 (by decide) (hW _ tw_57) (fun _ h9 => h9) rfl dX1_mark_19 ?_
  refine mv_callV (C := RX1) (As := [.long k1, .ref (ad (6 + d)), .ref (ad 2)]) (rest := []) ⟨hx, hb, hml, hown, hW⟩ (c_keyedInto (6 + d) 2 ⟨⟨by omega, by first | decide | exact lenC_row (by omega)⟩, ⟨by decide, by decide⟩⟩ n mem k1) gE_ok (cwV 3 hW (gV tw_432 tw_434 tv_X1_keyedInto tw_1 tw_435) rfl rfl rfl (by decide +kernel) ⟨Nat.le_of_ble_eq_true rfl, Nat.le_of_ble_eq_true rfl⟩) (va_recv hK hP (ci := 0) (q0 := 0) rfl rfl) hP hD hK hS hA hT rfl hl.1 rfl (Nat.le_of_ble_eq_true rfl) dX1_mark_22 ⟨Nat.le_of_ble_eq_true rfl, Nat.le_of_ble_eq_true rfl⟩ (fun H locs hP hD hS => ?_)
  have hP : va_P D vwCl (wC o ad cI cZ cG tl (nI q) wc dc pn (nI (p_keyed k1 (6 + d) 2 mem).1) isw ((p_keyed k1 (6 + d) 2 mem).2)) H := hP
  have hD : va_D A (wC o ad cI cZ cG tl (nI q) wc dc pn (nI (p_keyed k1 (6 + d) 2 mem).1) isw ((p_keyed k1 (6 + d) 2 mem).2)) := hD
  refine lv_aload_n hx hb dX1_mark_25 rfl (lv_at hl 0 rfl) ?_
  refine lv_lload hx hb dX1_mark_26 (lv_at hl 3 rfl) ?_
  refine lv_aload_n hx hb dX1_mark_28 rfl (lv_at hl 0 rfl) ?_
  refine va_get (D := D) (ci := 0) (v := .ref (ad 2)) (C := RX1) (T := TX1) (N := 14) hx hb hW iPL hown hK hP 0 rfl rfl 13 (by decide) (hW _ tw_57) (fun _ h9 => h9) rfl dX1_mark_29 ?_
  refine lv_aload_n hx hb dX1_mark_32 rfl (lv_at hl 0 rfl) ?_
  refine va_get (D := D) (ci := 0) (v := .ref (ad 2)) (C := RX1) (T := TX1) (N := 14) hx hb hW iPL hown hK hP 0 rfl rfl 13 (by decide) (hW _ tw_57) (fun _ h9 => h9) rfl dX1_mark_33 ?_
  refine mv_callV (C := RX1) (As := [.long k2, .ref (ad 2), .ref (ad 2)]) (rest := []) ⟨hx, hb, hml, hown, hW⟩ (c_keyedInto 2 2 ⟨⟨by omega, by first | decide | exact lenC_row (by omega)⟩, ⟨by decide, by decide⟩⟩ ((p_keyed k1 (6 + d) 2 mem).1) ((p_keyed k1 (6 + d) 2 mem).2) k2) gE_ok (cwV 3 hW (gV tw_432 tw_434 tv_X1_keyedInto tw_1 tw_435) rfl rfl rfl (by decide +kernel) ⟨Nat.le_of_ble_eq_true rfl, Nat.le_of_ble_eq_true rfl⟩) (va_recv hK hP (ci := 0) (q0 := 0) rfl rfl) hP hD hK hS hA hT rfl hl.1 rfl (Nat.le_of_ble_eq_true rfl) dX1_mark_36 ⟨Nat.le_of_ble_eq_true rfl, Nat.le_of_ble_eq_true rfl⟩ (fun H locs hP hD hS => ?_)
  have hP : va_P D vwCl (wC o ad cI cZ cG tl (nI q) wc dc pn (nI (p_keyed k2 2 2 ((p_keyed k1 (6 + d) 2 mem).2)).1) isw ((p_keyed k2 2 2 ((p_keyed k1 (6 + d) 2 mem).2)).2)) H := hP
  have hD : va_D A (wC o ad cI cZ cG tl (nI q) wc dc pn (nI (p_keyed k2 2 2 ((p_keyed k1 (6 + d) 2 mem).2)).1) isw ((p_keyed k2 2 2 ((p_keyed k1 (6 + d) 2 mem).2)).2)) := hD
  refine lv_aload_n hx hb dX1_mark_39 rfl (lv_at hl 0 rfl) ?_
  refine va_get (D := D) (ci := 0) (v := .ref (ad 2)) (C := RX1) (T := TX1) (N := 14) hx hb hW iPL hown hK hP 0 rfl rfl 13 (by decide) (hW _ tw_57) (fun _ h9 => h9) rfl dX1_mark_40 ?_
  refine lv_iload hx hb dX1_mark_43 (lv_at hl 4 rfl) ?_
  refine m_ld (X := wX o ad cZ cG tl (nI q) wc dc pn (nI (p_keyed k2 2 2 ((p_keyed k1 (6 + d) 2 mem).2)).1) isw) hx hb hK hP 0 2 i rfl (by decide) (show i < 32 by omega) (by decide) dX1_mark_45 ?_
  have hP : va_P D vwCl (wC o ad cI cZ cG tl (nI q) wc dc pn (nI (p_mark (tn (nI d)) k1 k2 mem).1) isw (p_mark (tn (nI d)) k1 k2 mem).2) H := by rw [show tn (nI d) = d from nI_clamp (by omega)]; exact hP
  have hD : va_D A (wC o ad cI cZ cG tl (nI q) wc dc pn (nI (p_mark (tn (nI d)) k1 k2 mem).1) isw (p_mark (tn (nI d)) k1 k2 mem).2) := by rw [show tn (nI d) = d from nI_clamp (by omega)]; exact hD
  exact ti_ret hx hb hr rfl hlk (x_or2 hg1 (hg2)) hS hP hD (by rw [show tn (nI d) = d from nI_clamp (by omega), show tn (nI i) = i from nI_clamp (by omega)]; rfl) dX1_mark_46 (Nat.le_of_ble_eq_true rfl) (Nat.le_of_ble_eq_true rfl)
set_option maxHeartbeats 4000000 in
set_option maxRecDepth 100000 in
/-- prove(v, u) -/
theorem c_prove {l : Launch} {D : va_G} {o ad : Nat → Nat} {cI cZ cG : ClassId} {tl lc wc dc pn : Int32} {isw : Nat → Int32} (hl0 : l.stackTraces = false) (q y n : Nat) (hq : q ≤ 24) (hy : y ≤ 12) (v u : Int32) (mem : Nat → Nat → Int32) (hm : ∀ d, d < y → mem 1 d = nI (tn (mem 1 d)) ∧ tn (mem 1 d) ≤ 24) : MTi l gE yX1_prove (.code yX1_prove cX1_prove 3 (some .int) :: tW) ({ frames := 7, cells := 3, slots := 18, locals := 230 }) D vwCl (tC cI cZ cG) [.ref (o 0), .int v, .int u] (wC o ad cI cZ cG tl (nI q) wc (nI y) pn (nI n) isw mem) (wC o ad cI cZ cG tl (nI q) wc (nI y) (nI (p_path (tn v) (tn (mem 1 (tn u))) (n, mem)).1) (nI (p_path (tn v) (tn (mem 1 (tn u))) (n, mem)).2.1) isw (p_path (tn v) (tn (mem 1 (tn u))) (n, mem)).2.2) (nI (p_path (tn v) (tn (mem 1 (tn u))) (n, mem)).1) ((x_req v (nI q)).or ((x_req u (nI y)).or (x_if (¬ v < mem 1 (tn u)) nISE))) 3 18 := by
  refine MTi.ofW (by decide +kernel) rfl (Nat.le_of_ble_eq_true rfl) ?_
  intro p e s m below meth c A ls hx hb hr hts hown hlk hml hA hP hK hD hT hl hno
  have hS : va_S A s.heap s.heap [] := va_S.rf
  have hown : s.vm.findClass RX1 = some m.cls := hown
  have hW : ∀ w ∈ tW, w.before _ s = true := fun w h => hts w (List.mem_cons_of_mem _ h)
  have hl : lv_has ls 3 [(0, .ref (o 0)), (1, .int v), (2, .int u)] := hl
  refine lv_aload_n hx hb dX1_prove_0 rfl (lv_at hl 0 rfl) ?_
  refine lv_iload_n hx hb dX1_prove_1 rfl (lv_at hl 1 rfl) ?_
  refine tr_callV (C := RX1) (As := [.int v]) (rest := []) ⟨hx, hb, hml, hown, hW⟩ (c_requireLeaf hl0 v (nI n) mem) gE_ok (cwV 1 hW (gV tw_300 tw_302 tv_X1_requireLeaf tw_1 tw_303) rfl rfl rfl (by decide +kernel) ⟨Nat.le_of_ble_eq_true rfl, Nat.le_of_ble_eq_true rfl⟩) (va_recv hK hP (ci := 0) (q0 := 0) rfl rfl) hP hD hK hA hT rfl hl.1 rfl (Nat.le_of_ble_eq_true rfl) dX1_prove_2 ⟨Nat.le_of_ble_eq_true rfl, Nat.le_of_ble_eq_true rfl⟩ hno hlk (Nat.le_of_ble_eq_true rfl) (Nat.le_of_ble_eq_true rfl) (fun nm z t h0 h1 h2 => Or.inr ⟨nm, z, rfl, x_or1 h0, h1, h2⟩) (fun hg1 => ?_)
  obtain ⟨lf, hilf, rfl⟩ := x_req_none (by omega) hg1
  refine lv_aload_n hx hb dX1_prove_5 rfl (lv_at hl 0 rfl) ?_
  refine lv_iload_n hx hb dX1_prove_6 rfl (lv_at hl 2 rfl) ?_
  refine tr_callV (C := RX1) (As := [.int u]) (rest := []) ⟨hx, hb, hml, hown, hW⟩ (c_requireDay hl0 u (nI n) mem) gE_ok (cwV 1 hW (gV tw_269 tw_271 tv_X1_requireDay tw_1 tw_272) rfl rfl rfl (by decide +kernel) ⟨Nat.le_of_ble_eq_true rfl, Nat.le_of_ble_eq_true rfl⟩) (va_recv hK hP (ci := 0) (q0 := 0) rfl rfl) hP hD hK hA hT rfl hl.1 rfl (Nat.le_of_ble_eq_true rfl) dX1_prove_7 ⟨Nat.le_of_ble_eq_true rfl, Nat.le_of_ble_eq_true rfl⟩ hno hlk (Nat.le_of_ble_eq_true rfl) (Nat.le_of_ble_eq_true rfl) (fun nm z t h0 h1 h2 => Or.inr ⟨nm, z, rfl, x_or2 hg1 (x_or1 h0), h1, h2⟩) (fun hg2 => ?_)
  obtain ⟨d, hid, rfl⟩ := x_req_none (by omega) hg2
  have hd9 : tn (nI d) = d := nI_clamp (by omega)
  have hl9 : tn (nI lf) = lf := nI_clamp (by omega)
  have hc9 := (hm d hid).1
  have hq9 := (hm d hid).2
  generalize hc8 : tn (mem 1 d) = cc0 at hc9 hq9
  refine lv_iload_n hx hb dX1_prove_10 rfl (lv_at hl 1 rfl) ?_
  refine lv_aload_n hx hb dX1_prove_11 rfl (lv_at hl 0 rfl) ?_
  refine va_get (D := D) (ci := 0) (v := .ref (ad 1)) (C := RX1) (T := TX1) (N := 14) hx hb hW iPL hown hK hP 0 rfl rfl 8 (by decide) (hW _ tw_52) (fun _ h9 => h9) rfl dX1_prove_12 ?_
  refine lv_iload_n hx hb dX1_prove_15 rfl (lv_at hl 2 rfl) ?_
  refine m_ld (X := wX o ad cZ cG tl (nI q) wc (nI y) pn (nI n) isw) hx hb hK hP 0 1 d rfl (by decide) (show d < 12 by omega) (by decide) dX1_prove_16 ?_
  refine lv_eqi (v := nI cc0) (hc9) ?_
  refine lv_icmp_lt (tgt := 30) hx hb dX1_prove_17 (by decide) (fun ha => ?_) (fun ha => ?_)
  · have hlt : lf < cc0 := (nI_ltI (by omega) (by omega)).mp ha
    have hg3 : x_if (¬ nI lf < mem 1 (tn (nI d))) nISE = none := x_if_f (fun h => h (by rw [hd9, hc9]; exact ha))
    refine lv_aload_n hx hb dX1_prove_30 rfl (lv_at hl 0 rfl) ?_
    refine lv_iload_n hx hb dX1_prove_31 rfl (lv_at hl 1 rfl) ?_
    refine lv_aload_n hx hb dX1_prove_32 rfl (lv_at hl 0 rfl) ?_
    refine va_get (D := D) (ci := 0) (v := .ref (ad 1)) (C := RX1) (T := TX1) (N := 14) hx hb hW iPL hown hK hP 0 rfl rfl 8 (by decide) (hW _ tw_52) (fun _ h9 => h9) rfl dX1_prove_33 ?_
    refine lv_iload_n hx hb dX1_prove_36 rfl (lv_at hl 2 rfl) ?_
    refine m_ld (X := wX o ad cZ cG tl (nI q) wc (nI y) pn (nI n) isw) hx hb hK hP 0 1 d rfl (by decide) (show d < 12 by omega) (by decide) dX1_prove_37 ?_
    refine lv_eqi (v := nI cc0) (hc9) ?_
    refine mv_callV (C := RX1) (As := [.int (nI lf), .int (nI cc0)]) (rest := []) ⟨hx, hb, hml, hown, hW⟩ (c_makePath lf cc0 (by omega) (by omega) n mem) gE_ok (cwV 2 hW (gV tw_336 tw_338 tv_X1_makePath tw_1 tw_339) rfl rfl rfl (by decide +kernel) ⟨Nat.le_of_ble_eq_true rfl, Nat.le_of_ble_eq_true rfl⟩) (va_recv hK hP (ci := 0) (q0 := 0) rfl rfl) hP hD hK hS hA hT rfl hl.1 rfl (Nat.le_of_ble_eq_true rfl) dX1_prove_38 ⟨Nat.le_of_ble_eq_true rfl, Nat.le_of_ble_eq_true rfl⟩ (fun H locs hP hD hS => ?_)
    have hP : va_P D vwCl (wC o ad cI cZ cG tl (nI q) wc (nI y) (nI (p_path lf cc0 (n, mem)).1) (nI (p_path lf cc0 (n, mem)).2.1) isw ((p_path lf cc0 (n, mem)).2.2)) H := hP
    have hD : va_D A (wC o ad cI cZ cG tl (nI q) wc (nI y) (nI (p_path lf cc0 (n, mem)).1) (nI (p_path lf cc0 (n, mem)).2.1) isw ((p_path lf cc0 (n, mem)).2.2)) := hD
    refine lv_aload_n hx hb dX1_prove_41 rfl (lv_at hl 0 rfl) ?_
    refine va_get (D := D) (ci := 0) (v := .int (nI (p_path lf cc0 (n, mem)).1)) (C := RX1) (T := TX1) (N := 14) hx hb hW iPL hown hK hP 0 rfl rfl 11 (by decide) (hW _ tw_55) (fun _ h9 => h9) rfl dX1_prove_42 ?_
    have hP : va_P D vwCl (wC o ad cI cZ cG tl (nI q) wc (nI y) (nI (p_path (tn (nI lf)) (tn (mem 1 (tn (nI d)))) (n, mem)).1) (nI (p_path (tn (nI lf)) (tn (mem 1 (tn (nI d)))) (n, mem)).2.1) isw (p_path (tn (nI lf)) (tn (mem 1 (tn (nI d)))) (n, mem)).2.2) H := by rw [hd9, hl9, hc8]; exact hP
    have hD : va_D A (wC o ad cI cZ cG tl (nI q) wc (nI y) (nI (p_path (tn (nI lf)) (tn (mem 1 (tn (nI d)))) (n, mem)).1) (nI (p_path (tn (nI lf)) (tn (mem 1 (tn (nI d)))) (n, mem)).2.1) isw (p_path (tn (nI lf)) (tn (mem 1 (tn (nI d)))) (n, mem)).2.2) := by rw [hd9, hl9, hc8]; exact hD
    exact ti_ret hx hb hr rfl hlk (x_or2 hg1 (x_or2 hg2 (hg3))) hS hP hD (by rw [hd9, hl9, hc8]) dX1_prove_45 (Nat.le_of_ble_eq_true rfl) (Nat.le_of_ble_eq_true rfl)
  · have hg3 : x_if (¬ nI lf < mem 1 (tn (nI d))) nISE = some nISE := x_if_t (by rw [hd9, hc9]; exact ha)
    exact tr_throw (cls := "java/lang/IllegalStateException") (tx := "the leaf came after the day") (names := ["java/lang/RuntimeException", "java/lang/Exception"]) (rest := []) hx hb (hml.trans hl.1.symm) hl0 hown (by decide +kernel) (by decide +kernel) (own_ok own_ISE hW hT) (hW _ tw_320) (hW _ tw_13) (hT.2.2.2 (.stringRef "ProofLeaves" 106 "the leaf came after the day") (by decide +kernel)) hno hlk dX1_prove_20 dX1_prove_23 dX1_prove_24 dX1_prove_26 dX1_prove_29 (Nat.le_of_ble_eq_true rfl) (Nat.le_of_ble_eq_true rfl) (Nat.le_of_ble_eq_true rfl) (Nat.le_of_ble_eq_true rfl) (Nat.le_of_ble_eq_true rfl) (Nat.le_of_ble_eq_true rfl) (fun z t h1 h2 => Or.inr ⟨_, _, rfl, x_or2 hg1 (x_or2 hg2 (hg3)), h1, h2⟩)
set_option maxHeartbeats 4000000 in
set_option maxRecDepth 100000 in
/-- withdraw(v) -/
theorem c_withdraw {l : Launch} {D : va_G} {o ad : Nat → Nat} {cI cZ cG : ClassId} {tl lc wc dc pn : Int32} {isw : Nat → Int32} (hl0 : l.stackTraces = false) (q u : Nat) (hq : q ≤ 24) (v sl : Int32) (mem : Nat → Nat → Int32) : MTi l gE yX1_withdraw (.code yX1_withdraw cX1_withdraw 2 (some .int) :: tW) ({ frames := 7, cells := 2, slots := 12, locals := 140 }) D vwCl (tC cI cZ cG) [.ref (o 0), .int v] (wC o ad cI cZ cG tl (nI q) (nI u) dc pn sl isw mem) (wC o ad cI cZ cG tl (nI q) (nI (u + 1)) dc pn sl (upd isw (tn v) (nI 1)) mem) (nI (u + 1)) ((x_req v (nI q)).or (x_if (¬ isw (tn v) = 0) nUOE)) 2 12 := by
  refine MTi.ofW (by decide +kernel) rfl (Nat.le_of_ble_eq_true rfl) ?_
  intro p e s m below meth c A ls hx hb hr hts hown hlk hml hA hP hK hD hT hl hno
  have hS : va_S A s.heap s.heap [] := va_S.rf
  have hown : s.vm.findClass RX1 = some m.cls := hown
  have hW : ∀ w ∈ tW, w.before _ s = true := fun w h => hts w (List.mem_cons_of_mem _ h)
  have hl : lv_has ls 2 [(0, .ref (o 0)), (1, .int v)] := hl
  refine lv_aload_n hx hb dX1_withdraw_0 rfl (lv_at hl 0 rfl) ?_
  refine lv_iload_n hx hb dX1_withdraw_1 rfl (lv_at hl 1 rfl) ?_
  refine tr_callV (C := RX1) (As := [.int v]) (rest := []) ⟨hx, hb, hml, hown, hW⟩ (c_requireLeaf hl0 v sl mem) gE_ok (cwV 1 hW (gV tw_300 tw_302 tv_X1_requireLeaf tw_1 tw_303) rfl rfl rfl (by decide +kernel) ⟨Nat.le_of_ble_eq_true rfl, Nat.le_of_ble_eq_true rfl⟩) (va_recv hK hP (ci := 0) (q0 := 0) rfl rfl) hP hD hK hA hT rfl hl.1 rfl (Nat.le_of_ble_eq_true rfl) dX1_withdraw_2 ⟨Nat.le_of_ble_eq_true rfl, Nat.le_of_ble_eq_true rfl⟩ hno hlk (Nat.le_of_ble_eq_true rfl) (Nat.le_of_ble_eq_true rfl) (fun nm z t h0 h1 h2 => Or.inr ⟨nm, z, rfl, x_or1 h0, h1, h2⟩) (fun hg1 => ?_)
  obtain ⟨lf, hilf, rfl⟩ := x_req_none (by omega) hg1
  refine lv_aload_n hx hb dX1_withdraw_5 rfl (lv_at hl 0 rfl) ?_
  refine va_get (D := D) (ci := 0) (v := .ref (o 6)) (C := RX1) (T := TX1) (N := 14) hx hb hW iPL hown hK hP 0 rfl rfl 4 (by decide) (hW _ tw_48) (fun _ h9 => h9) rfl dX1_withdraw_6 ?_
  refine lv_iload_n hx hb dX1_withdraw_9 rfl (lv_at hl 1 rfl) ?_
  refine m_zld hx hb hK hP 6 1 lf rfl rfl (by omega) (by decide) dX1_withdraw_10 ?_
  have hl9 : tn (nI lf) = lf := nI_clamp (by omega)
  refine lv_if_eq (tgt := 24) hx hb dX1_withdraw_11 (by decide) (fun ha => ?_) (fun ha => ?_)
  · have hg2 : x_if (¬ isw (tn (nI lf)) = 0) nUOE = none := x_if_f (fun h => h (by rw [hl9]; exact ha))
    refine lv_aload_n hx hb dX1_withdraw_24 rfl (lv_at hl 0 rfl) ?_
    refine va_get (D := D) (ci := 0) (v := .ref (o 6)) (C := RX1) (T := TX1) (N := 14) hx hb hW iPL hown hK hP 0 rfl rfl 4 (by decide) (hW _ tw_48) (fun _ h9 => h9) rfl dX1_withdraw_25 ?_
    refine lv_iload_n hx hb dX1_withdraw_28 rfl (lv_at hl 1 rfl) ?_
    refine lv_iconst (v := nI 1) hx hb dX1_withdraw_29 (by decide) ?_
    refine m_zst (x := nI 1) (v := nI 1) hx hb hK hP hD hS 6 1 lf rfl rfl (by omega) (by decide) rfl dX1_withdraw_30 (fun H locs hP hD hS => ?_)
    have hP : va_P D vwCl (wC o ad cI cZ cG tl (nI q) (nI u) dc pn sl (upd isw lf (nI 1)) mem) H := hP
    have hD : va_D A (wC o ad cI cZ cG tl (nI q) (nI u) dc pn sl (upd isw lf (nI 1)) mem) := hD
    refine lv_aload_n hx hb dX1_withdraw_31 rfl (lv_at hl 0 rfl) ?_
    refine lv_dup hx hb dX1_withdraw_32 rfl ?_
    refine va_get (D := D) (ci := 0) (v := .int (nI u)) (C := RX1) (T := TX1) (N := 14) hx hb hW iPL hown hK hP 0 rfl rfl 6 (by decide) (hW _ tw_50) (fun _ h9 => h9) rfl dX1_withdraw_33 ?_
    refine lv_iconst (v := nI 1) hx hb dX1_withdraw_36 (by decide) ?_
    refine lv_iadd hx hb dX1_withdraw_37 ?_
    refine lv_eqi (v := nI (u + 1)) (nI_add u 1) ?_
    refine va_put (D := D) (ci := 0) (v := .int (nI (u + 1))) (ty := .int) (C := RX1) (T := TX1) (N := 14) hx hb hW iPL tyX1 tyX1_ok nmX1 hown hK hP hD hS 0 rfl rfl 6 (by decide) (hW _ tw_50) (fun _ h9 => h9) rfl (by decide +kernel) rfl rfl (Nat.le_of_ble_eq_true rfl) dX1_withdraw_38 (fun H locs hP hD hS => ?_)
    have hP : va_P D vwCl (wC o ad cI cZ cG tl (nI q) (nI (u + 1)) dc pn sl (upd isw lf (nI 1)) mem) H := hP
    have hD : va_D A (wC o ad cI cZ cG tl (nI q) (nI (u + 1)) dc pn sl (upd isw lf (nI 1)) mem) := hD
    refine lv_aload_n hx hb dX1_withdraw_41 rfl (lv_at hl 0 rfl) ?_
    refine va_get (D := D) (ci := 0) (v := .int (nI (u + 1))) (C := RX1) (T := TX1) (N := 14) hx hb hW iPL hown hK hP 0 rfl rfl 6 (by decide) (hW _ tw_50) (fun _ h9 => h9) rfl dX1_withdraw_42 ?_
    have hP : va_P D vwCl (wC o ad cI cZ cG tl (nI q) (nI (u + 1)) dc pn sl (upd isw (tn (nI lf)) (nI 1)) mem) H := by rw [hl9]; exact hP
    have hD : va_D A (wC o ad cI cZ cG tl (nI q) (nI (u + 1)) dc pn sl (upd isw (tn (nI lf)) (nI 1)) mem) := by rw [hl9]; exact hD
    exact ti_ret hx hb hr rfl hlk (x_or2 hg1 (hg2)) hS hP hD (rfl) dX1_withdraw_45 (Nat.le_of_ble_eq_true rfl) (Nat.le_of_ble_eq_true rfl)
  · have hg2 : x_if (¬ isw (tn (nI lf)) = 0) nUOE = some nUOE := x_if_t (by rw [hl9]; exact ha)
    exact tr_throw (cls := "java/lang/UnsupportedOperationException") (tx := "the leaf is withdrawn already") (names := ["java/lang/RuntimeException", "java/lang/Exception"]) (rest := []) hx hb (hml.trans hl.1.symm) hl0 hown (by decide +kernel) (by decide +kernel) (own_ok own_UOE hW hT) (hW _ tw_166) (hW _ tw_8) (hT.2.2.2 (.stringRef "ProofLeaves" 141 "the leaf is withdrawn already") (by decide +kernel)) hno hlk dX1_withdraw_14 dX1_withdraw_17 dX1_withdraw_18 dX1_withdraw_20 dX1_withdraw_23 (Nat.le_of_ble_eq_true rfl) (Nat.le_of_ble_eq_true rfl) (Nat.le_of_ble_eq_true rfl) (Nat.le_of_ble_eq_true rfl) (Nat.le_of_ble_eq_true rfl) (Nat.le_of_ble_eq_true rfl) (fun z t h1 h2 => Or.inr ⟨_, _, rfl, x_or2 hg1 (hg2), h1, h2⟩)
set_option maxHeartbeats 4000000 in
set_option maxRecDepth 100000 in
/-- absence(v, sd) -/
theorem c_absence {l : Launch} {D : va_G} {o ad : Nat → Nat} {cI cZ cG : ClassId} {tl lc wc dc pn : Int32} {isw : Nat → Int32} (hl0 : l.stackTraces = false) (q : Nat) (hq : q ≤ 24) (v sd sl : Int32) (mem : Nat → Nat → Int32) : MTi l gE yX1_absence (.code yX1_absence cX1_absence 3 (some .int) :: tW) ({ frames := 7, cells := 2, slots := 12, locals := 150 }) D vwCl (tC cI cZ cG) [.ref (o 0), .int v, .int sd] (wC o ad cI cZ cG tl (nI q) wc dc pn sl isw mem) (wC o ad cI cZ cG tl (nI q) wc dc pn sl isw mem) (nrI (p_near sd isw mem (tn v) q)) ((x_req v (nI q)).or ((x_if (¬ (sd = 0 ∨ sd = nI 1)) nIOB).or (x_if (¬ isw (tn v) = 0) nISE))) 2 12 := by
  refine MTi.ofW (by decide +kernel) rfl (Nat.le_of_ble_eq_true rfl) ?_
  intro p e s m below meth c A ls hx hb hr hts hown hlk hml hA hP hK hD hT hl hno
  have hS : va_S A s.heap s.heap [] := va_S.rf
  have hown : s.vm.findClass RX1 = some m.cls := hown
  have hW : ∀ w ∈ tW, w.before _ s = true := fun w h => hts w (List.mem_cons_of_mem _ h)
  have hl : lv_has ls 3 [(0, .ref (o 0)), (1, .int v), (2, .int sd)] := hl
  refine lv_aload_n hx hb dX1_absence_0 rfl (lv_at hl 0 rfl) ?_
  refine lv_iload_n hx hb dX1_absence_1 rfl (lv_at hl 1 rfl) ?_
  refine tr_callV (C := RX1) (As := [.int v]) (rest := []) ⟨hx, hb, hml, hown, hW⟩ (c_requireLeaf hl0 v sl mem) gE_ok (cwV 1 hW (gV tw_300 tw_302 tv_X1_requireLeaf tw_1 tw_303) rfl rfl rfl (by decide +kernel) ⟨Nat.le_of_ble_eq_true rfl, Nat.le_of_ble_eq_true rfl⟩) (va_recv hK hP (ci := 0) (q0 := 0) rfl rfl) hP hD hK hA hT rfl hl.1 rfl (Nat.le_of_ble_eq_true rfl) dX1_absence_2 ⟨Nat.le_of_ble_eq_true rfl, Nat.le_of_ble_eq_true rfl⟩ hno hlk (Nat.le_of_ble_eq_true rfl) (Nat.le_of_ble_eq_true rfl) (fun nm z t h0 h1 h2 => Or.inr ⟨nm, z, rfl, x_or1 h0, h1, h2⟩) (fun hg1 => ?_)
  obtain ⟨lf, hilf, rfl⟩ := x_req_none (by omega) hg1
  refine lv_iload_n hx hb dX1_absence_5 rfl (lv_at hl 2 rfl) ?_
  have hl9 : tn (nI lf) = lf := nI_clamp (by omega)
  refine lv_if_eq (tgt := 24) hx hb dX1_absence_6 (by decide) (fun ha => ?_) (fun ha => ?_)
  · have hg2 : x_if (¬ (sd = 0 ∨ sd = nI 1)) nIOB = none := x_if_f (fun h => h (Or.inl ha))
    refine lv_aload_n hx hb dX1_absence_24 rfl (lv_at hl 0 rfl) ?_
    refine va_get (D := D) (ci := 0) (v := .ref (o 6)) (C := RX1) (T := TX1) (N := 14) hx hb hW iPL hown hK hP 0 rfl rfl 4 (by decide) (hW _ tw_48) (fun _ h9 => h9) rfl dX1_absence_25 ?_
    refine lv_iload_n hx hb dX1_absence_28 rfl (lv_at hl 1 rfl) ?_
    refine m_zld hx hb hK hP 6 1 lf rfl rfl (by omega) (by decide) dX1_absence_29 ?_
    refine lv_if_eq (tgt := 43) hx hb dX1_absence_30 (by decide) (fun hb2 => ?_) (fun hb2 => ?_)
    · have hg3 : x_if (¬ isw (tn (nI lf)) = 0) nISE = none := x_if_f (fun h => h (by rw [hl9]; exact hb2))
      refine lv_aload_n hx hb dX1_absence_43 rfl (lv_at hl 0 rfl) ?_
      refine lv_iload_n hx hb dX1_absence_44 rfl (lv_at hl 1 rfl) ?_
      refine lv_iload_n hx hb dX1_absence_45 rfl (lv_at hl 2 rfl) ?_
      refine mi_callV (C := RX1) (As := [.int (nI lf), .int sd]) (rest := []) ⟨hx, hb, hml, hown, hW⟩ (c_nearestWithdrawn lf q (by omega) hq rfl sd sl mem) gE_ok (cwV 2 hW (gV tw_417 tw_419 tv_X1_nearestWithdrawn tw_1 tw_420) rfl rfl rfl (by decide +kernel) ⟨Nat.le_of_ble_eq_true rfl, Nat.le_of_ble_eq_true rfl⟩) (va_recv hK hP (ci := 0) (q0 := 0) rfl rfl) hP hD hK hS hA hT rfl hl.1 rfl (Nat.le_of_ble_eq_true rfl) dX1_absence_46 ⟨Nat.le_of_ble_eq_true rfl, Nat.le_of_ble_eq_true rfl⟩ (fun H locs hP hD hS => ?_)
      have hP : va_P D vwCl (wC o ad cI cZ cG tl (nI q) wc dc pn sl isw mem) H := by exact hP
      have hD : va_D A (wC o ad cI cZ cG tl (nI q) wc dc pn sl isw mem) := by exact hD
      exact ti_ret hx hb hr rfl hlk (x_or2 hg1 (x_or2 hg2 (hg3))) hS hP hD (by rw [hl9]) dX1_absence_49 (Nat.le_of_ble_eq_true rfl) (Nat.le_of_ble_eq_true rfl)
    · have hg3 : x_if (¬ isw (tn (nI lf)) = 0) nISE = some nISE := x_if_t (by rw [hl9]; exact hb2)
      exact tr_throw (cls := "java/lang/IllegalStateException") (tx := "the leaf is withdrawn") (names := ["java/lang/RuntimeException", "java/lang/Exception"]) (rest := []) hx hb (hml.trans hl.1.symm) hl0 hown (by decide +kernel) (by decide +kernel) (own_ok own_ISE hW hT) (hW _ tw_320) (hW _ tw_13) (hT.2.2.2 (.stringRef "ProofLeaves" 148 "the leaf is withdrawn") (by decide +kernel)) hno hlk dX1_absence_33 dX1_absence_36 dX1_absence_37 dX1_absence_39 dX1_absence_42 (Nat.le_of_ble_eq_true rfl) (Nat.le_of_ble_eq_true rfl) (Nat.le_of_ble_eq_true rfl) (Nat.le_of_ble_eq_true rfl) (Nat.le_of_ble_eq_true rfl) (Nat.le_of_ble_eq_true rfl) (fun z t h1 h2 => Or.inr ⟨_, _, rfl, x_or2 hg1 (x_or2 hg2 (hg3)), h1, h2⟩)
  · refine lv_iload_n hx hb dX1_absence_9 rfl (lv_at hl 2 rfl) ?_
    refine lv_iconst (v := nI 1) hx hb dX1_absence_10 (by decide) ?_
    refine lv_icmp_eq (tgt := 24) hx hb dX1_absence_11 (by decide) (fun hc => ?_) (fun hc => ?_)
    · have hg2 : x_if (¬ (sd = 0 ∨ sd = nI 1)) nIOB = none := x_if_f (fun h => h (Or.inr hc))
      refine lv_aload_n hx hb dX1_absence_24 rfl (lv_at hl 0 rfl) ?_
      refine va_get (D := D) (ci := 0) (v := .ref (o 6)) (C := RX1) (T := TX1) (N := 14) hx hb hW iPL hown hK hP 0 rfl rfl 4 (by decide) (hW _ tw_48) (fun _ h9 => h9) rfl dX1_absence_25 ?_
      refine lv_iload_n hx hb dX1_absence_28 rfl (lv_at hl 1 rfl) ?_
      refine m_zld hx hb hK hP 6 1 lf rfl rfl (by omega) (by decide) dX1_absence_29 ?_
      refine lv_if_eq (tgt := 43) hx hb dX1_absence_30 (by decide) (fun hb2 => ?_) (fun hb2 => ?_)
      · have hg3 : x_if (¬ isw (tn (nI lf)) = 0) nISE = none := x_if_f (fun h => h (by rw [hl9]; exact hb2))
        refine lv_aload_n hx hb dX1_absence_43 rfl (lv_at hl 0 rfl) ?_
        refine lv_iload_n hx hb dX1_absence_44 rfl (lv_at hl 1 rfl) ?_
        refine lv_iload_n hx hb dX1_absence_45 rfl (lv_at hl 2 rfl) ?_
        refine mi_callV (C := RX1) (As := [.int (nI lf), .int sd]) (rest := []) ⟨hx, hb, hml, hown, hW⟩ (c_nearestWithdrawn lf q (by omega) hq rfl sd sl mem) gE_ok (cwV 2 hW (gV tw_417 tw_419 tv_X1_nearestWithdrawn tw_1 tw_420) rfl rfl rfl (by decide +kernel) ⟨Nat.le_of_ble_eq_true rfl, Nat.le_of_ble_eq_true rfl⟩) (va_recv hK hP (ci := 0) (q0 := 0) rfl rfl) hP hD hK hS hA hT rfl hl.1 rfl (Nat.le_of_ble_eq_true rfl) dX1_absence_46 ⟨Nat.le_of_ble_eq_true rfl, Nat.le_of_ble_eq_true rfl⟩ (fun H locs hP hD hS => ?_)
        have hP : va_P D vwCl (wC o ad cI cZ cG tl (nI q) wc dc pn sl isw mem) H := by exact hP
        have hD : va_D A (wC o ad cI cZ cG tl (nI q) wc dc pn sl isw mem) := by exact hD
        exact ti_ret hx hb hr rfl hlk (x_or2 hg1 (x_or2 hg2 (hg3))) hS hP hD (by rw [hl9]) dX1_absence_49 (Nat.le_of_ble_eq_true rfl) (Nat.le_of_ble_eq_true rfl)
      · have hg3 : x_if (¬ isw (tn (nI lf)) = 0) nISE = some nISE := x_if_t (by rw [hl9]; exact hb2)
        exact tr_throw (cls := "java/lang/IllegalStateException") (tx := "the leaf is withdrawn") (names := ["java/lang/RuntimeException", "java/lang/Exception"]) (rest := []) hx hb (hml.trans hl.1.symm) hl0 hown (by decide +kernel) (by decide +kernel) (own_ok own_ISE hW hT) (hW _ tw_320) (hW _ tw_13) (hT.2.2.2 (.stringRef "ProofLeaves" 148 "the leaf is withdrawn") (by decide +kernel)) hno hlk dX1_absence_33 dX1_absence_36 dX1_absence_37 dX1_absence_39 dX1_absence_42 (Nat.le_of_ble_eq_true rfl) (Nat.le_of_ble_eq_true rfl) (Nat.le_of_ble_eq_true rfl) (Nat.le_of_ble_eq_true rfl) (Nat.le_of_ble_eq_true rfl) (Nat.le_of_ble_eq_true rfl) (fun z t h1 h2 => Or.inr ⟨_, _, rfl, x_or2 hg1 (x_or2 hg2 (hg3)), h1, h2⟩)
    · have hg2 : x_if (¬ (sd = 0 ∨ sd = nI 1)) nIOB = some nIOB := x_if_t (fun h => h.elim ha hc)
      exact tr_throw (cls := "java/lang/IndexOutOfBoundsException") (tx := "no such side") (names := ["java/lang/RuntimeException", "java/lang/Exception"]) (rest := []) hx hb (hml.trans hl.1.symm) hl0 hown (by decide +kernel) (by decide +kernel) (own_ok own_IOB hW hT) (hW _ tw_273) (hW _ tw_12) (hT.2.2.2 (.stringRef "ProofLeaves" 145 "no such side") (by decide +kernel)) hno hlk dX1_absence_14 dX1_absence_17 dX1_absence_18 dX1_absence_20 dX1_absence_23 (Nat.le_of_ble_eq_true rfl) (Nat.le_of_ble_eq_true rfl) (Nat.le_of_ble_eq_true rfl) (Nat.le_of_ble_eq_true rfl) (Nat.le_of_ble_eq_true rfl) (Nat.le_of_ble_eq_true rfl) (fun z t h1 h2 => Or.inr ⟨_, _, rfl, x_or2 hg1 (x_or1 hg2), h1, h2⟩)
set_option maxHeartbeats 4000000 in
set_option maxRecDepth 100000 in
/-- grew(v, u) -/
theorem c_grew {l : Launch} {D : va_G} {o ad : Nat → Nat} {cI cZ cG : ClassId} {tl lc wc dc pn : Int32} {isw : Nat → Int32} (hl0 : l.stackTraces = false) (y n : Nat) (hy : y ≤ 12) (v u : Int32) (mem : Nat → Nat → Int32) (hm : ∀ d, d < y → mem 1 d = nI (tn (mem 1 d)) ∧ tn (mem 1 d) ≤ 24) : MTi l gE yX1_grew (.code yX1_grew cX1_grew 3 (some .boolean) :: tW) ({ frames := 7, cells := 3, slots := 18, locals := 260 }) D vwCl (tC cI cZ cG) [.ref (o 0), .int v, .int u] (wC o ad cI cZ cG tl lc wc (nI y) pn (nI n) isw mem) (wC o ad cI cZ cG tl lc wc (nI y) pn (nI (p_grewW (tn v) (tn u) (n, mem)).1) isw (p_grewW (tn v) (tn u) (n, mem)).2) (p_grewR (tn v) (tn u) (n, mem)) ((x_req v (nI y)).or ((x_req u (nI y)).or (x_if (¬ v ≤ u) nIAE))) 3 18 := by
  refine MTi.ofW (by decide +kernel) rfl (Nat.le_of_ble_eq_true rfl) ?_
  intro p e s m below meth c A ls hx hb hr hts hown hlk hml hA hP hK hD hT hl hno
  have hS : va_S A s.heap s.heap [] := va_S.rf
  have hown : s.vm.findClass RX1 = some m.cls := hown
  have hW : ∀ w ∈ tW, w.before _ s = true := fun w h => hts w (List.mem_cons_of_mem _ h)
  have hl : lv_has ls 3 [(0, .ref (o 0)), (1, .int v), (2, .int u)] := hl
  refine lv_aload_n hx hb dX1_grew_0 rfl (lv_at hl 0 rfl) ?_
  refine lv_iload_n hx hb dX1_grew_1 rfl (lv_at hl 1 rfl) ?_
  refine tr_callV (C := RX1) (As := [.int v]) (rest := []) ⟨hx, hb, hml, hown, hW⟩ (c_requireDay hl0 v (nI n) mem) gE_ok (cwV 1 hW (gV tw_269 tw_271 tv_X1_requireDay tw_1 tw_272) rfl rfl rfl (by decide +kernel) ⟨Nat.le_of_ble_eq_true rfl, Nat.le_of_ble_eq_true rfl⟩) (va_recv hK hP (ci := 0) (q0 := 0) rfl rfl) hP hD hK hA hT rfl hl.1 rfl (Nat.le_of_ble_eq_true rfl) dX1_grew_2 ⟨Nat.le_of_ble_eq_true rfl, Nat.le_of_ble_eq_true rfl⟩ hno hlk (Nat.le_of_ble_eq_true rfl) (Nat.le_of_ble_eq_true rfl) (fun nm z t h0 h1 h2 => Or.inr ⟨nm, z, rfl, x_or1 h0, h1, h2⟩) (fun hg1 => ?_)
  obtain ⟨da, hida, rfl⟩ := x_req_none (by omega) hg1
  refine lv_aload_n hx hb dX1_grew_5 rfl (lv_at hl 0 rfl) ?_
  refine lv_iload_n hx hb dX1_grew_6 rfl (lv_at hl 2 rfl) ?_
  refine tr_callV (C := RX1) (As := [.int u]) (rest := []) ⟨hx, hb, hml, hown, hW⟩ (c_requireDay hl0 u (nI n) mem) gE_ok (cwV 1 hW (gV tw_269 tw_271 tv_X1_requireDay tw_1 tw_272) rfl rfl rfl (by decide +kernel) ⟨Nat.le_of_ble_eq_true rfl, Nat.le_of_ble_eq_true rfl⟩) (va_recv hK hP (ci := 0) (q0 := 0) rfl rfl) hP hD hK hA hT rfl hl.1 rfl (Nat.le_of_ble_eq_true rfl) dX1_grew_7 ⟨Nat.le_of_ble_eq_true rfl, Nat.le_of_ble_eq_true rfl⟩ hno hlk (Nat.le_of_ble_eq_true rfl) (Nat.le_of_ble_eq_true rfl) (fun nm z t h0 h1 h2 => Or.inr ⟨nm, z, rfl, x_or2 hg1 (x_or1 h0), h1, h2⟩) (fun hg2 => ?_)
  obtain ⟨db, hidb, rfl⟩ := x_req_none (by omega) hg2
  refine lv_iload_n hx hb dX1_grew_10 rfl (lv_at hl 1 rfl) ?_
  refine lv_iload_n hx hb dX1_grew_11 rfl (lv_at hl 2 rfl) ?_
  have ha9 : tn (nI da) = da := nI_clamp (by omega)
  have hb9 : tn (nI db) = db := nI_clamp (by omega)
  have ca1 := (hm da hida).1
  have ca2 := (hm da hida).2
  have cb1 := (hm db hidb).1
  have cb2 := (hm db hidb).2
  generalize ca3 : tn (mem 1 da) = ca at ca1 ca2
  generalize cb3 : tn (mem 1 db) = cb at cb1 cb2
  refine lv_icmp_le (tgt := 25) hx hb dX1_grew_12 (by decide) (fun ha => ?_) (fun ha => ?_)
  · have hg3 : x_if (¬ nI da ≤ nI db) nIAE = none := x_if_f (fun h => h ha)
    refine lv_aload_n hx hb dX1_grew_25 rfl (lv_at hl 0 rfl) ?_
    refine lv_iload_n hx hb dX1_grew_26 rfl (lv_at hl 1 rfl) ?_
    refine mi_callV (C := RX1) (As := [.int (nI da)]) (rest := []) ⟨hx, hb, hml, hown, hW⟩ (c_stillMakesRoot da ca (by omega) (ca2) n mem (ca1)) gE_ok (cwV 1 hW (gV tw_396 tw_398 tv_X1_stillMakesRoot tw_1 tw_399) rfl rfl rfl (by decide +kernel) ⟨Nat.le_of_ble_eq_true rfl, Nat.le_of_ble_eq_true rfl⟩) (va_recv hK hP (ci := 0) (q0 := 0) rfl rfl) hP hD hK hS hA hT rfl hl.1 rfl (Nat.le_of_ble_eq_true rfl) dX1_grew_27 ⟨Nat.le_of_ble_eq_true rfl, Nat.le_of_ble_eq_true rfl⟩ (fun H locs hP hD hS => ?_)
    have hP : va_P D vwCl (wC o ad cI cZ cG tl lc wc (nI y) pn (nI (p_tree ca 2 (n, mem)).1) isw ((p_tree ca 2 (n, mem)).2)) H := hP
    have hD : va_D A (wC o ad cI cZ cG tl lc wc (nI y) pn (nI (p_tree ca 2 (n, mem)).1) isw ((p_tree ca 2 (n, mem)).2)) := hD
    refine lv_if_eq (tgt := 45) hx hb dX1_grew_30 (by decide) (fun h1 => ?_) (fun h1 => ?_)
    · have eW : p_grewW da db (n, mem) = p_tree ca 2 (n, mem) := by
        unfold p_grewW
        rw [ca3, cb3]
        exact if_pos h1
      have eR : p_grewR da db (n, mem) = nI 0 := by
        unfold p_grewR
        rw [ca3, cb3]
        exact if_pos h1
      refine lv_iconst (v := nI 0) hx hb dX1_grew_45 (by decide) ?_
      have hP : va_P D vwCl (wC o ad cI cZ cG tl lc wc (nI y) pn (nI (p_grewW (tn (nI da)) (tn (nI db)) (n, mem)).1) isw (p_grewW (tn (nI da)) (tn (nI db)) (n, mem)).2) H := by rw [ha9, hb9, eW]; exact hP
      have hD : va_D A (wC o ad cI cZ cG tl lc wc (nI y) pn (nI (p_grewW (tn (nI da)) (tn (nI db)) (n, mem)).1) isw (p_grewW (tn (nI da)) (tn (nI db)) (n, mem)).2) := by rw [ha9, hb9, eW]; exact hD
      exact ti_ret hx hb hr rfl hlk (x_or2 hg1 (x_or2 hg2 (hg3))) hS hP hD (by rw [ha9, hb9, eR]) dX1_grew_46 (Nat.le_of_ble_eq_true rfl) (Nat.le_of_ble_eq_true rfl)
    · refine lv_aload_n hx hb dX1_grew_33 rfl (lv_at hl 0 rfl) ?_
      refine lv_iload_n hx hb dX1_grew_34 rfl (lv_at hl 2 rfl) ?_
      refine mi_callV (C := RX1) (As := [.int (nI db)]) (rest := []) ⟨hx, hb, hml, hown, hW⟩ (c_stillMakesRoot db cb (by omega) (cb2) ((p_tree ca 2 (n, mem)).1) ((p_tree ca 2 (n, mem)).2) (by rw [p_tree_k (by decide) (by decide) (by decide) (by decide) (by decide)]; exact cb1)) gE_ok (cwV 1 hW (gV tw_396 tw_398 tv_X1_stillMakesRoot tw_1 tw_399) rfl rfl rfl (by decide +kernel) ⟨Nat.le_of_ble_eq_true rfl, Nat.le_of_ble_eq_true rfl⟩) (va_recv hK hP (ci := 0) (q0 := 0) rfl rfl) hP hD hK hS hA hT rfl hl.1 rfl (Nat.le_of_ble_eq_true rfl) dX1_grew_35 ⟨Nat.le_of_ble_eq_true rfl, Nat.le_of_ble_eq_true rfl⟩ (fun H locs hP hD hS => ?_)
      have hP : va_P D vwCl (wC o ad cI cZ cG tl lc wc (nI y) pn (nI (p_tree cb 2 (p_tree ca 2 (n, mem))).1) isw ((p_tree cb 2 (p_tree ca 2 (n, mem))).2)) H := hP
      have hD : va_D A (wC o ad cI cZ cG tl lc wc (nI y) pn (nI (p_tree cb 2 (p_tree ca 2 (n, mem))).1) isw ((p_tree cb 2 (p_tree ca 2 (n, mem))).2)) := hD
      refine lv_if_eq (tgt := 45) hx hb dX1_grew_38 (by decide) (fun h2 => ?_) (fun h2 => ?_)
      · have eW : p_grewW da db (n, mem) = p_tree cb 2 (p_tree ca 2 (n, mem)) := by
          unfold p_grewW
          rw [ca3, cb3]
          exact if_neg h1
        have eR : p_grewR da db (n, mem) = nI 0 := by
          unfold p_grewR
          rw [ca3, cb3]
          exact (if_neg h1).trans (if_pos h2)
        refine lv_iconst (v := nI 0) hx hb dX1_grew_45 (by decide) ?_
        have hP : va_P D vwCl (wC o ad cI cZ cG tl lc wc (nI y) pn (nI (p_grewW (tn (nI da)) (tn (nI db)) (n, mem)).1) isw (p_grewW (tn (nI da)) (tn (nI db)) (n, mem)).2) H := by rw [ha9, hb9, eW]; exact hP
        have hD : va_D A (wC o ad cI cZ cG tl lc wc (nI y) pn (nI (p_grewW (tn (nI da)) (tn (nI db)) (n, mem)).1) isw (p_grewW (tn (nI da)) (tn (nI db)) (n, mem)).2) := by rw [ha9, hb9, eW]; exact hD
        exact ti_ret hx hb hr rfl hlk (x_or2 hg1 (x_or2 hg2 (hg3))) hS hP hD (by rw [ha9, hb9, eR]) dX1_grew_46 (Nat.le_of_ble_eq_true rfl) (Nat.le_of_ble_eq_true rfl)
      · have eW : p_grewW da db (n, mem) = p_tree cb 2 (p_tree ca 2 (n, mem)) := by
          unfold p_grewW
          rw [ca3, cb3]
          exact if_neg h1
        have eR : p_grewR da db (n, mem) = nI 1 := by
          unfold p_grewR
          rw [ca3, cb3]
          exact (if_neg h1).trans (if_neg h2)
        refine lv_iconst (v := nI 1) hx hb dX1_grew_41 (by decide) ?_
        refine lv_goto (tgt := 46) hx hb dX1_grew_42 (by decide) ?_
        have hP : va_P D vwCl (wC o ad cI cZ cG tl lc wc (nI y) pn (nI (p_grewW (tn (nI da)) (tn (nI db)) (n, mem)).1) isw (p_grewW (tn (nI da)) (tn (nI db)) (n, mem)).2) H := by rw [ha9, hb9, eW]; exact hP
        have hD : va_D A (wC o ad cI cZ cG tl lc wc (nI y) pn (nI (p_grewW (tn (nI da)) (tn (nI db)) (n, mem)).1) isw (p_grewW (tn (nI da)) (tn (nI db)) (n, mem)).2) := by rw [ha9, hb9, eW]; exact hD
        exact ti_ret hx hb hr rfl hlk (x_or2 hg1 (x_or2 hg2 (hg3))) hS hP hD (by rw [ha9, hb9, eR]) dX1_grew_46 (Nat.le_of_ble_eq_true rfl) (Nat.le_of_ble_eq_true rfl)
  · have hg3 : x_if (¬ nI da ≤ nI db) nIAE = some nIAE := x_if_t ha
    exact tr_throw (cls := "java/lang/IllegalArgumentException") (tx := "the first day is later than the second") (names := ["java/lang/RuntimeException", "java/lang/Exception"]) (rest := []) hx hb (hml.trans hl.1.symm) hl0 hown (by decide +kernel) (by decide +kernel) (own_ok own_IAE hW hT) (hW _ tw_97) (hW _ tw_7) (hT.2.2.2 (.stringRef "ProofLeaves" 135 "the first day is later than the second") (by decide +kernel)) hno hlk dX1_grew_15 dX1_grew_18 dX1_grew_19 dX1_grew_21 dX1_grew_24 (Nat.le_of_ble_eq_true rfl) (Nat.le_of_ble_eq_true rfl) (Nat.le_of_ble_eq_true rfl) (Nat.le_of_ble_eq_true rfl) (Nat.le_of_ble_eq_true rfl) (Nat.le_of_ble_eq_true rfl) (fun z t h1 h2 => Or.inr ⟨_, _, rfl, x_or2 hg1 (x_or2 hg2 (hg3)), h1, h2⟩)
set_option maxHeartbeats 4000000 in
set_option maxRecDepth 100000 in
/-- check(v, u, x, k) -/
theorem c_check {l : Launch} {D : va_G} {o ad : Nat → Nat} {cI cZ cG : ClassId} {tl lc wc dc pn : Int32} {isw : Nat → Int32} (hl0 : l.stackTraces = false) (q y n : Nat) (hq : q ≤ 24) (hy : y ≤ 12) (v u x k : Int32) (mem : Nat → Nat → Int32) (hm : ∀ d, d < y → mem 1 d = nI (tn (mem 1 d)) ∧ tn (mem 1 d) ≤ 24) : MTi l gE yX1_check (.code yX1_check cX1_check 5 (some .int) :: tW) ({ frames := 7, cells := 3, slots := 18, locals := 230 }) D vwCl (tC cI cZ cG) [.ref (o 0), .int v, .int u, .int x, .int k] (wC o ad cI cZ cG tl (nI q) wc (nI y) pn (nI n) isw mem) (wC o ad cI cZ cG tl (nI q) wc (nI y) pn (nI (p_checkW (tn v) (tn u) x k pn (n, mem)).1) isw (p_checkW (tn v) (tn u) x k pn (n, mem)).2) (p_checkR (tn v) (tn u) x k pn (n, mem)) ((x_req v (nI q)).or ((x_req u (nI y)).or ((x_if (pn = (-1)) nISE).or (x_if (x < 0 ∨ ¬ x < k) nIAE)))) 3 18 := by
  refine MTi.ofW (by decide +kernel) rfl (Nat.le_of_ble_eq_true rfl) ?_
  intro p e s m below meth c A ls hx hb hr hts hown hlk hml hA hP hK hD hT hl hno
  have hS : va_S A s.heap s.heap [] := va_S.rf
  have hown : s.vm.findClass RX1 = some m.cls := hown
  have hW : ∀ w ∈ tW, w.before _ s = true := fun w h => hts w (List.mem_cons_of_mem _ h)
  have hl : lv_has ls 5 [(0, .ref (o 0)), (1, .int v), (2, .int u), (3, .int x), (4, .int k)] := hl
  refine lv_aload_n hx hb dX1_check_0 rfl (lv_at hl 0 rfl) ?_
  refine lv_iload_n hx hb dX1_check_1 rfl (lv_at hl 1 rfl) ?_
  refine tr_callV (C := RX1) (As := [.int v]) (rest := []) ⟨hx, hb, hml, hown, hW⟩ (c_requireLeaf hl0 v (nI n) mem) gE_ok (cwV 1 hW (gV tw_300 tw_302 tv_X1_requireLeaf tw_1 tw_303) rfl rfl rfl (by decide +kernel) ⟨Nat.le_of_ble_eq_true rfl, Nat.le_of_ble_eq_true rfl⟩) (va_recv hK hP (ci := 0) (q0 := 0) rfl rfl) hP hD hK hA hT rfl hl.1 rfl (Nat.le_of_ble_eq_true rfl) dX1_check_2 ⟨Nat.le_of_ble_eq_true rfl, Nat.le_of_ble_eq_true rfl⟩ hno hlk (Nat.le_of_ble_eq_true rfl) (Nat.le_of_ble_eq_true rfl) (fun nm z t h0 h1 h2 => Or.inr ⟨nm, z, rfl, x_or1 h0, h1, h2⟩) (fun hg1 => ?_)
  obtain ⟨lf, hilf, rfl⟩ := x_req_none (by omega) hg1
  refine lv_aload_n hx hb dX1_check_5 rfl (lv_at hl 0 rfl) ?_
  refine lv_iload_n hx hb dX1_check_6 rfl (lv_at hl 2 rfl) ?_
  refine tr_callV (C := RX1) (As := [.int u]) (rest := []) ⟨hx, hb, hml, hown, hW⟩ (c_requireDay hl0 u (nI n) mem) gE_ok (cwV 1 hW (gV tw_269 tw_271 tv_X1_requireDay tw_1 tw_272) rfl rfl rfl (by decide +kernel) ⟨Nat.le_of_ble_eq_true rfl, Nat.le_of_ble_eq_true rfl⟩) (va_recv hK hP (ci := 0) (q0 := 0) rfl rfl) hP hD hK hA hT rfl hl.1 rfl (Nat.le_of_ble_eq_true rfl) dX1_check_7 ⟨Nat.le_of_ble_eq_true rfl, Nat.le_of_ble_eq_true rfl⟩ hno hlk (Nat.le_of_ble_eq_true rfl) (Nat.le_of_ble_eq_true rfl) (fun nm z t h0 h1 h2 => Or.inr ⟨nm, z, rfl, x_or2 hg1 (x_or1 h0), h1, h2⟩) (fun hg2 => ?_)
  obtain ⟨d, hid, rfl⟩ := x_req_none (by omega) hg2
  refine lv_aload_n hx hb dX1_check_10 rfl (lv_at hl 0 rfl) ?_
  refine va_get (D := D) (ci := 0) (v := .int pn) (C := RX1) (T := TX1) (N := 14) hx hb hW iPL hown hK hP 0 rfl rfl 11 (by decide) (hW _ tw_55) (fun _ h9 => h9) rfl dX1_check_11 ?_
  refine lv_iconst (v := (-1)) hx hb dX1_check_14 (by decide) ?_
  have hd9 : tn (nI d) = d := nI_clamp (by omega)
  have hl9 : tn (nI lf) = lf := nI_clamp (by omega)
  have hc9 := (hm d hid).1
  have hq9 := (hm d hid).2
  refine lv_icmp_ne (tgt := 28) hx hb dX1_check_15 (by decide) (fun ha => ?_) (fun ha => ?_)
  · have hg3 : x_if (pn = (-1)) nISE = none := x_if_f ha
    refine lv_iload_n hx hb dX1_check_28 rfl (lv_at hl 3 rfl) ?_
    refine lv_if_lt (tgt := 38) hx hb dX1_check_29 (by decide) (fun hn => ?_) (fun hn => ?_)
    · have hg4 : x_if (x < 0 ∨ ¬ x < k) nIAE = some nIAE := x_if_t (Or.inl hn)
      exact tr_throw (cls := "java/lang/IllegalArgumentException") (tx := "the number told is not 0 .. the count told - 1") (names := ["java/lang/RuntimeException", "java/lang/Exception"]) (rest := []) hx hb (hml.trans hl.1.symm) hl0 hown (by decide +kernel) (by decide +kernel) (own_ok own_IAE hW hT) (hW _ tw_97) (hW _ tw_7) (hT.2.2.2 (.stringRef "ProofLeaves" 121 "the number told is not 0 .. the count told - 1") (by decide +kernel)) hno hlk dX1_check_38 dX1_check_41 dX1_check_42 dX1_check_44 dX1_check_47 (Nat.le_of_ble_eq_true rfl) (Nat.le_of_ble_eq_true rfl) (Nat.le_of_ble_eq_true rfl) (Nat.le_of_ble_eq_true rfl) (Nat.le_of_ble_eq_true rfl) (Nat.le_of_ble_eq_true rfl) (fun z t h1 h2 => Or.inr ⟨_, _, rfl, x_or2 hg1 (x_or2 hg2 (x_or2 hg3 (hg4))), h1, h2⟩)
    · refine lv_iload_n hx hb dX1_check_32 rfl (lv_at hl 3 rfl) ?_
      refine lv_iload hx hb dX1_check_33 (lv_at hl 4 rfl) ?_
      refine lv_icmp_lt (tgt := 48) hx hb dX1_check_35 (by decide) (fun hc => ?_) (fun hc => ?_)
      · have hg4 : x_if (x < 0 ∨ ¬ x < k) nIAE = none := x_if_f (fun h => h.elim hn (fun h1 => h1 hc))
        refine lv_iload hx hb dX1_check_48 (lv_at hl 4 rfl) ?_
        refine lv_aload_n hx hb dX1_check_50 rfl (lv_at hl 0 rfl) ?_
        refine va_get (D := D) (ci := 0) (v := .ref (ad 1)) (C := RX1) (T := TX1) (N := 14) hx hb hW iPL hown hK hP 0 rfl rfl 8 (by decide) (hW _ tw_52) (fun _ h9 => h9) rfl dX1_check_51 ?_
        refine lv_iload_n hx hb dX1_check_54 rfl (lv_at hl 2 rfl) ?_
        refine m_ld (X := wX o ad cZ cG tl (nI q) wc (nI y) pn (nI n) isw) hx hb hK hP 0 1 d rfl (by decide) (show d < 12 by omega) (by decide) dX1_check_55 ?_
        refine lv_icmp_eq (tgt := 61) hx hb dX1_check_56 (by decide) (fun he => ?_) (fun he => ?_)
        · have hk9 : k = nI (tn (mem 1 d)) := he.trans hc9
          generalize hc8 : tn (mem 1 d) = cc0 at hk9 hq9
          subst hk9
          obtain ⟨x0, hx1, rfl⟩ := nI_of hn
          have hx0 : x0 < cc0 := (nI_ltI hx1 (by omega)).mp hc
          have hk8 : tn (nI cc0) = cc0 := nI_clamp (by omega)
          have hx8 : tn (nI x0) = x0 := nI_clamp (by omega)
          refine lv_aload_n hx hb dX1_check_61 rfl (lv_at hl 0 rfl) ?_
          refine va_get (D := D) (ci := 0) (v := .int pn) (C := RX1) (T := TX1) (N := 14) hx hb hW iPL hown hK hP 0 rfl rfl 11 (by decide) (hW _ tw_55) (fun _ h9 => h9) rfl dX1_check_62 ?_
          refine lv_iload_n hx hb dX1_check_65 rfl (lv_at hl 3 rfl) ?_
          refine lv_iload hx hb dX1_check_66 (lv_at hl 4 rfl) ?_
          refine mi_callS (As := [.int (nI x0), .int (nI cc0)]) (rest := [.int pn]) ⟨hx, hb, hml, hown, hW⟩ (c_dueLength _ x0 cc0 (by omega) (by omega)) gE_ok (va_cwS 2 hW (gS tw_378 tw_379 tw_1 tw_380) rfl rfl rfl (by decide +kernel) ⟨Nat.le_of_ble_eq_true rfl, Nat.le_of_ble_eq_true rfl⟩) hP hD hK hS hA hT rfl hl.1 rfl (Nat.le_of_ble_eq_true rfl) dX1_check_68 ⟨Nat.le_of_ble_eq_true rfl, Nat.le_of_ble_eq_true rfl⟩ (fun H locs hP hD hS => ?_)
          refine lv_icmp_eq (tgt := 76) hx hb dX1_check_71 (by decide) (fun hp => ?_) (fun hp => ?_)
          · have eW : p_checkW lf d (nI x0) (nI cc0) pn (n, mem) = p_climb (6 + lf) x0 cc0 (n, mem) := by
              unfold p_checkW
              rw [if_pos he, hk8, hx8]
              exact if_pos hp
            refine lv_aload_n hx hb dX1_check_76 rfl (lv_at hl 0 rfl) ?_
            refine lv_aload_n hx hb dX1_check_77 rfl (lv_at hl 0 rfl) ?_
            refine va_get (D := D) (ci := 0) (v := .ref (o 2)) (C := RX1) (T := TX1) (N := 14) hx hb hW iPL hown hK hP 0 rfl rfl 3 (by decide) (hW _ tw_47) (fun _ h9 => h9) rfl dX1_check_78 ?_
            refine lv_iload_n hx hb dX1_check_81 rfl (lv_at hl 1 rfl) ?_
            refine m_row hx hb hK hP 2 2 lf rfl rfl (by omega) (by decide) rfl dX1_check_82 ?_
            refine lv_iload_n hx hb dX1_check_83 rfl (lv_at hl 3 rfl) ?_
            refine lv_iload hx hb dX1_check_84 (lv_at hl 4 rfl) ?_
            refine mv_callV (C := RX1) (As := [.ref (ad (6 + lf)), .int (nI x0), .int (nI cc0)]) (rest := []) ⟨hx, hb, hml, hown, hW⟩ (c_climb (6 + lf) x0 cc0 (by omega) (lenC_row (by omega)) (by omega) (by omega) n mem) gE_ok (cwV 3 hW (gV tw_381 tw_383 tv_X1_climb tw_1 tw_384) rfl rfl rfl (by decide +kernel) ⟨Nat.le_of_ble_eq_true rfl, Nat.le_of_ble_eq_true rfl⟩) (va_recv hK hP (ci := 0) (q0 := 0) rfl rfl) hP hD hK hS hA hT rfl hl.1 rfl (Nat.le_of_ble_eq_true rfl) dX1_check_86 ⟨Nat.le_of_ble_eq_true rfl, Nat.le_of_ble_eq_true rfl⟩ (fun H locs hP hD hS => ?_)
            have hP : va_P D vwCl (wC o ad cI cZ cG tl (nI q) wc (nI y) pn (nI (p_climb (6 + lf) x0 cc0 (n, mem)).1) isw ((p_climb (6 + lf) x0 cc0 (n, mem)).2)) H := hP
            have hD : va_D A (wC o ad cI cZ cG tl (nI q) wc (nI y) pn (nI (p_climb (6 + lf) x0 cc0 (n, mem)).1) isw ((p_climb (6 + lf) x0 cc0 (n, mem)).2)) := hD
            refine lv_aload_n hx hb dX1_check_89 rfl (lv_at hl 0 rfl) ?_
            refine va_get (D := D) (ci := 0) (v := .ref (ad 2)) (C := RX1) (T := TX1) (N := 14) hx hb hW iPL hown hK hP 0 rfl rfl 13 (by decide) (hW _ tw_57) (fun _ h9 => h9) rfl dX1_check_90 ?_
            refine lv_aload_n hx hb dX1_check_93 rfl (lv_at hl 0 rfl) ?_
            refine va_get (D := D) (ci := 0) (v := .ref (o 3)) (C := RX1) (T := TX1) (N := 14) hx hb hW iPL hown hK hP 0 rfl rfl 7 (by decide) (hW _ tw_51) (fun _ h9 => h9) rfl dX1_check_94 ?_
            refine lv_iload_n hx hb dX1_check_97 rfl (lv_at hl 2 rfl) ?_
            refine m_row hx hb hK hP 3 2 d rfl rfl (by omega) (by decide) rfl dX1_check_98 ?_
            refine mi_callS (As := [.ref (ad 2), .ref (ad (30 + d))]) (rest := []) ⟨hx, hb, hml, hown, hW⟩ (c_compareDigests 2 (30 + d) (by decide) (by omega) (by decide) (lenC_row (by omega)) (nI (p_climb (6 + lf) x0 cc0 (n, mem)).1) ((p_climb (6 + lf) x0 cc0 (n, mem)).2)) gE_ok (va_cwS 2 hW (gS tw_385 tw_386 tw_1 tw_387) rfl rfl rfl (by decide +kernel) ⟨Nat.le_of_ble_eq_true rfl, Nat.le_of_ble_eq_true rfl⟩) hP hD hK hS hA hT rfl hl.1 rfl (Nat.le_of_ble_eq_true rfl) dX1_check_99 ⟨Nat.le_of_ble_eq_true rfl, Nat.le_of_ble_eq_true rfl⟩ (fun H locs hP hD hS => ?_)
            refine lv_if_ne (tgt := 109) hx hb dX1_check_102 (by decide) (fun hz => ?_) (fun hz => ?_)
            · have eR : p_checkR lf d (nI x0) (nI cc0) pn (n, mem) = nI 3 := by
                unfold p_checkR
                rw [if_pos he, hk8, hx8]
                exact (if_pos hp).trans (if_neg hz)
              refine lv_iconst (v := nI 3) hx hb dX1_check_109 (by decide) ?_
              have hP : va_P D vwCl (wC o ad cI cZ cG tl (nI q) wc (nI y) pn (nI (p_checkW (tn (nI lf)) (tn (nI d)) (nI x0) (nI cc0) pn (n, mem)).1) isw (p_checkW (tn (nI lf)) (tn (nI d)) (nI x0) (nI cc0) pn (n, mem)).2) H := by rw [hd9, hl9, eW]; exact hP
              have hD : va_D A (wC o ad cI cZ cG tl (nI q) wc (nI y) pn (nI (p_checkW (tn (nI lf)) (tn (nI d)) (nI x0) (nI cc0) pn (n, mem)).1) isw (p_checkW (tn (nI lf)) (tn (nI d)) (nI x0) (nI cc0) pn (n, mem)).2) := by rw [hd9, hl9, eW]; exact hD
              exact ti_ret hx hb hr rfl hlk (x_or2 hg1 (x_or2 hg2 (x_or2 hg3 (hg4)))) hS hP hD (by rw [hd9, hl9, eR]) dX1_check_110 (Nat.le_of_ble_eq_true rfl) (Nat.le_of_ble_eq_true rfl)
            · have eR : p_checkR lf d (nI x0) (nI cc0) pn (n, mem) = nI 0 := by
                unfold p_checkR
                rw [if_pos he, hk8, hx8]
                exact (if_pos hp).trans (if_pos hz)
              refine lv_iconst (v := nI 0) hx hb dX1_check_105 (by decide) ?_
              refine lv_goto (tgt := 110) hx hb dX1_check_106 (by decide) ?_
              have hP : va_P D vwCl (wC o ad cI cZ cG tl (nI q) wc (nI y) pn (nI (p_checkW (tn (nI lf)) (tn (nI d)) (nI x0) (nI cc0) pn (n, mem)).1) isw (p_checkW (tn (nI lf)) (tn (nI d)) (nI x0) (nI cc0) pn (n, mem)).2) H := by rw [hd9, hl9, eW]; exact hP
              have hD : va_D A (wC o ad cI cZ cG tl (nI q) wc (nI y) pn (nI (p_checkW (tn (nI lf)) (tn (nI d)) (nI x0) (nI cc0) pn (n, mem)).1) isw (p_checkW (tn (nI lf)) (tn (nI d)) (nI x0) (nI cc0) pn (n, mem)).2) := by rw [hd9, hl9, eW]; exact hD
              exact ti_ret hx hb hr rfl hlk (x_or2 hg1 (x_or2 hg2 (x_or2 hg3 (hg4)))) hS hP hD (by rw [hd9, hl9, eR]) dX1_check_110 (Nat.le_of_ble_eq_true rfl) (Nat.le_of_ble_eq_true rfl)
          · have eW : p_checkW lf d (nI x0) (nI cc0) pn (n, mem) = (n, mem) := by
              unfold p_checkW
              rw [if_pos he, hk8, hx8]
              exact if_neg hp
            have eR : p_checkR lf d (nI x0) (nI cc0) pn (n, mem) = nI 2 := by
              unfold p_checkR
              rw [if_pos he, hk8, hx8]
              exact if_neg hp
            refine lv_iconst (v := nI 2) hx hb dX1_check_74 (by decide) ?_
            have hP : va_P D vwCl (wC o ad cI cZ cG tl (nI q) wc (nI y) pn (nI (p_checkW (tn (nI lf)) (tn (nI d)) (nI x0) (nI cc0) pn (n, mem)).1) isw (p_checkW (tn (nI lf)) (tn (nI d)) (nI x0) (nI cc0) pn (n, mem)).2) H := by rw [hd9, hl9, eW]; exact hP
            have hD : va_D A (wC o ad cI cZ cG tl (nI q) wc (nI y) pn (nI (p_checkW (tn (nI lf)) (tn (nI d)) (nI x0) (nI cc0) pn (n, mem)).1) isw (p_checkW (tn (nI lf)) (tn (nI d)) (nI x0) (nI cc0) pn (n, mem)).2) := by rw [hd9, hl9, eW]; exact hD
            exact ti_ret hx hb hr rfl hlk (x_or2 hg1 (x_or2 hg2 (x_or2 hg3 (hg4)))) hS hP hD (by rw [hd9, hl9, eR]) dX1_check_75 (Nat.le_of_ble_eq_true rfl) (Nat.le_of_ble_eq_true rfl)
        · have eW : p_checkW lf d x k pn (n, mem) = (n, mem) := if_neg he
          have eR : p_checkR lf d x k pn (n, mem) = nI 1 := if_neg he
          refine lv_iconst (v := nI 1) hx hb dX1_check_59 (by decide) ?_
          have hP : va_P D vwCl (wC o ad cI cZ cG tl (nI q) wc (nI y) pn (nI (p_checkW (tn (nI lf)) (tn (nI d)) x k pn (n, mem)).1) isw (p_checkW (tn (nI lf)) (tn (nI d)) x k pn (n, mem)).2) s.heap := by rw [hd9, hl9, eW]; exact hP
          have hD : va_D A (wC o ad cI cZ cG tl (nI q) wc (nI y) pn (nI (p_checkW (tn (nI lf)) (tn (nI d)) x k pn (n, mem)).1) isw (p_checkW (tn (nI lf)) (tn (nI d)) x k pn (n, mem)).2) := by rw [hd9, hl9, eW]; exact hD
          exact ti_ret hx hb hr rfl hlk (x_or2 hg1 (x_or2 hg2 (x_or2 hg3 (hg4)))) hS hP hD (by rw [hd9, hl9, eR]) dX1_check_60 (Nat.le_of_ble_eq_true rfl) (Nat.le_of_ble_eq_true rfl)
      · have hg4 : x_if (x < 0 ∨ ¬ x < k) nIAE = some nIAE := x_if_t (Or.inr hc)
        exact tr_throw (cls := "java/lang/IllegalArgumentException") (tx := "the number told is not 0 .. the count told - 1") (names := ["java/lang/RuntimeException", "java/lang/Exception"]) (rest := []) hx hb (hml.trans hl.1.symm) hl0 hown (by decide +kernel) (by decide +kernel) (own_ok own_IAE hW hT) (hW _ tw_97) (hW _ tw_7) (hT.2.2.2 (.stringRef "ProofLeaves" 121 "the number told is not 0 .. the count told - 1") (by decide +kernel)) hno hlk dX1_check_38 dX1_check_41 dX1_check_42 dX1_check_44 dX1_check_47 (Nat.le_of_ble_eq_true rfl) (Nat.le_of_ble_eq_true rfl) (Nat.le_of_ble_eq_true rfl) (Nat.le_of_ble_eq_true rfl) (Nat.le_of_ble_eq_true rfl) (Nat.le_of_ble_eq_true rfl) (fun z t h1 h2 => Or.inr ⟨_, _, rfl, x_or2 hg1 (x_or2 hg2 (x_or2 hg3 (hg4))), h1, h2⟩)
  · have hg3 : x_if (pn = (-1)) nISE = some nISE := x_if_t ha
    exact tr_throw (cls := "java/lang/IllegalStateException") (tx := "there is no proof") (names := ["java/lang/RuntimeException", "java/lang/Exception"]) (rest := []) hx hb (hml.trans hl.1.symm) hl0 hown (by decide +kernel) (by decide +kernel) (own_ok own_ISE hW hT) (hW _ tw_320) (hW _ tw_13) (hT.2.2.2 (.stringRef "ProofLeaves" 119 "there is no proof") (by decide +kernel)) hno hlk dX1_check_18 dX1_check_21 dX1_check_22 dX1_check_24 dX1_check_27 (Nat.le_of_ble_eq_true rfl) (Nat.le_of_ble_eq_true rfl) (Nat.le_of_ble_eq_true rfl) (Nat.le_of_ble_eq_true rfl) (Nat.le_of_ble_eq_true rfl) (Nat.le_of_ble_eq_true rfl) (fun z t h1 h2 => Or.inr ⟨_, _, rfl, x_or2 hg1 (x_or2 hg2 (x_or1 hg3)), h1, h2⟩)
